import java.util.Arrays;
import java.util.function.Consumer;

/** The document's "What it is" and "Terms": a test for each sentence, at the edges that it names. */
public final class TermsTest extends Checks {
    private static final Consumer<DropRows> WON_BY_0 = game(2, 3, 3, false, 0, 1, 0, 1, 0);

    public static void main(String[] args) {
        theBoard();
        inARowWin();
        fiveHundredAndTwelveCalls();
        joined();
        sides();
        aMove();
        rowsByWays();
        noSquareTwice();
        columnsBeyond();
        sameSquares();
        hasARow();
        theGame();
        worth();
        worthOfAMove();
        theBestMove();
        onePosition();
        sideOfAPosition();
        canCome();
        aThreat();
        waitingFromWhereItIs();
        waitingOwnThreat();
        waitingOthersThreat();
        waitingBelowNoThreat();
        waitingBelowNoneOfTheOther();
        waitingAny();
        sheets();
        findings();
        refusalsInOrder();
        refusalsChangeNothing();
        allNamed(Document.TERMS, Document.TERMS);
        finish();
    }

    private static void term(String sentence) {
        under(Document.TERMS, sentence);
    }

    // ---- what it is

    private static void theBoard() {
        term("THE BOARD has W columns (1 to 7) and H rows (1 to 6), 16 SQUARES at most, numbered W times the row (0 the lowest)"
                + " and the column;");
        for (int w = 0; w <= 8; w++) {
            for (int h = 0; h <= 7; h++) {
                boolean is = w >= 1 && w <= 7 && h >= 1 && h <= 6 && w * h <= 16;
                boolean refused = new DropRows().board(w, h, 4, false) == BAD;
                due("whether there is a board " + w + " by " + h, refused ? 0 : 1, is ? 1 : 0);
            }
        }
        DropRows x = on(3, 5, 4, false);
        for (int row = 0; row < 5; row++) {
            for (int column = 0; column < 3; column++) {
                due("drop(" + column + ") to row " + row, x.drop((column + row) % 3), 3 * row + (column + row) % 3);
            }
        }
        due("at(14), the last", x.at(14), 1);
        due("at(15)", x.at(15), BAD);
    }

    private static void inARowWin() {
        term("K (2 to 4) in a row win.");
        for (int k = 2; k <= 4; k++) {
            DropRows x = on(7, 2, k, false);
            for (int i = 0; i < k - 1; i++) {
                playing(x, i, i);
                due(i + 1 + " in a row, where " + k + " win", x.game(2), 0);
            }
            due(k + " in a row", playing(x, k - 1).game(2), 1);
        }
        due("one in a row", new DropRows().board(4, 4, 1, false), BAD);
        due("five in a row", new DropRows().board(5, 3, 5, false), BAD);
    }

    private static void fiveHundredAndTwelveCalls() {
        term("An object is used for at most 512 calls after it has been made; what later calls answer is free.");
        DropRows x = new DropRows();
        int calls = 0;
        for (int i = 0; i < 12; i++) {
            due("board " + i, x.board(4, 4, 4 - i % 2, i % 3 == 0), new DropRows().board(4, 4, 4 - i % 2, i % 3 == 0));
            due("positions(1)", x.positions(1), 4);
            calls += 2;
        }
        for (; calls < 506; calls += 2) {
            due("drop(2)", x.drop(2), 2);
            due("back(1)", x.back(1), 0);
        }
        playing(x, 1, 1, 2, 2, 0);
        due("call 512", x.won(2), 2);
    }

    // ---- the board and the game

    private static void joined() {
        term("It may be JOINED: column 0 is beside column W - 1 then, too.");
        int[] level = {6, 6, 5, 5, 0};
        due("level around", made(game(7, 2, 3, true, level)).game(2), 1);
        due("level, not joined", made(game(7, 2, 3, false, level)).game(2), 0);
        due("on and up around", made(game(3, 2, 2, true, 2, 0, 0)).won(1), 3);
        due("on and up, not joined", made(game(3, 2, 2, false, 2, 0, 0)).game(2), 0);
        due("back and up around", made(game(3, 2, 2, true, 0, 2, 2)).won(1), 5);
        due("back and up, not joined", made(game(3, 2, 2, false, 0, 2, 2)).game(2), 0);
        due("the first beside the last of two columns", made(game(2, 1, 2, true)).count(4), 1);
        due("of three level columns each beside each", made(game(3, 1, 2, true)).count(4), 3);
    }

    private static void sides() {
        term("SIDES are 0, who begins, and 1.");
        DropRows x = on(4, 4, 4, false);
        for (int i = 0; i < 16; i++) {
            due("game(0) behind " + i, x.game(0), i % 2);
            due("at() of move " + i, x.at(x.drop(SIXTEEN[i])), i % 2);
        }
        due("threats(-1)", x.threats(-1), BAD);
        due("threats(2)", x.threats(2), BAD);
    }

    private static void aMove() {
        term("A MOVE: the SIDE to move drops a man into a column that is not full; it comes to the lowest SQUARE that is empty.");
        DropRows x = on(2, 3, 4, false);
        due("the lowest", x.drop(1), 1);
        due("the next", x.drop(1), 3);
        due("the lowest beside it", x.drop(0), 0);
        due("the highest", x.drop(1), 5);
        due("it is full", x.drop(1), BAD);
        x.back(1);
        due("empty again", x.drop(1), 5);
    }

    // ---- rows

    private static void rows(int w, int h, int k, boolean joined, int want) {
        due("ROWS of " + w + " " + h + " " + k + " " + joined, new DropRows().board(w, h, k, joined), want);
    }

    private static void rowsByWays() {
        term("ROWS: K SQUARES, from one on K - 1 times by a WAY: a column on; a row up; a column on and a row up; "
                + "a column back and a row up.");
        rows(4, 1, 4, false, 1);
        rows(4, 1, 3, false, 2);
        rows(1, 4, 4, false, 1);
        rows(1, 4, 3, false, 2);
        rows(3, 3, 3, false, 3 + 3 + 1 + 1);
        rows(4, 4, 3, false, 8 + 8 + 4 + 4);
        rows(3, 2, 2, false, 4 + 3 + 2 + 2);
        due("a column on", made(game(2, 2, 2, false, 0, 0, 1)).won(1), 1);
        due("a row up", made(game(2, 3, 3, false, 0, 1, 0, 1, 0)).won(1), 2);
        due("a column on and a row up", made(game(2, 2, 2, false, 0, 1, 1)).won(1), 3);
        due("a column back and a row up", made(game(2, 2, 2, false, 1, 0, 0)).won(1), 2);
    }

    private static void noSquareTwice() {
        term("No SQUARE may come twice;");
        rows(3, 1, 4, true, 0);
        rows(2, 1, 3, true, 0);
        rows(1, 1, 2, true, 0);
        rows(3, 3, 4, true, 0);
        rows(2, 3, 3, true, 2 + 2);
        rows(3, 4, 4, true, 3 + 3 + 3);
        due("three around of two columns", made(game(2, 1, 3, true, 0, 1)).game(2), 2);
    }

    private static void columnsBeyond() {
        term("columns beyond the BOARD are none, if it is not JOINED.");
        rows(3, 1, 4, false, 0);
        rows(7, 1, 4, false, 4);
        rows(2, 3, 3, false, 2);
        rows(1, 2, 2, false, 1);
        rows(7, 1, 4, true, 7);
        int[] beyond = {2, 2, 1, 1, 0};
        due("three up to the edge", made(game(3, 2, 3, false, beyond)).game(2), 1);
        due("the next square is above column 0", made(game(3, 3, 2, false, 2, 0, 0)).game(2), 0);
        due("the one back is above column 2", made(game(3, 3, 2, false, 0, 2, 2)).game(2), 0);
    }

    private static void sameSquares() {
        term("Those with the same SQUARES are one.");
        rows(4, 1, 4, true, 1);
        rows(3, 1, 3, true, 1);
        rows(2, 1, 2, true, 1);
        rows(1, 2, 2, true, 1);
        rows(1, 6, 4, true, 3);
        rows(2, 2, 2, true, 2 + 2 + 2);
        due("game(4) of one row", on(4, 1, 4, true).game(4), 2);
    }

    private static void hasARow() {
        term("A SIDE HAS a ROW, if its men stand on all of it.");
        due("two of three", made(game(3, 2, 3, false, 0, 0, 1)).game(2), 0);
        due("three of three", made(game(3, 2, 3, false, 0, 0, 1, 1, 2)).game(2), 1);
        due("one is the other side's", made(game(3, 1, 3, false, 0, 1, 2)).game(2), 2);
        due("side 1", made(game(3, 3, 3, false, 1, 0, 1, 0, 2, 0)).game(2), 1);
    }

    private static void theGame() {
        term("THE GAME is a row of MOVES from the empty BOARD; it is OVER, if the SIDE that moved last HAS a ROW (that has WON), "
                + "or the BOARD is full (else DRAWN).");
        due("no moves", on(1, 1, 2, false).game(2), 0);
        due("full", made(game(1, 1, 2, false, 0)).game(2), 2);
        due("full, and a row", made(game(3, 1, 2, false, 1, 0, 2)).game(2), 1);
        due("one square empty", made(game(3, 1, 2, false, 1, 0)).game(2), 0);
        due("a row ahead of a full board", made(WON_BY_0).game(2), 1);
        due("no further move", made(WON_BY_0).drop(1), NOT);
    }

    // ---- worth

    private static void worth() {
        term("WORTH of a game that goes on, for the SIDE to move, both playing best "
                + "(who wins as soon as may be, who loses as late): 100 less how many MOVES are still made, "
                + "if it wins; as many less 100, if it loses; 0: it is drawn.");
        due("wins in one", made(game(3, 1, 2, false, 1, 0)).worth(), 99);
        due("wins in one, though in five too", made(game(4, 4, 3, false, 0, 3, 0, 3)).worth(), 99);
        due("loses in two", made(game(3, 1, 2, false, 1)).worth(), -98);
        due("loses in six, though in two too", made(game(4, 4, 3, false, 0, 3, 0)).worth(), -94);
        due("wins in three", on(3, 1, 2, false).worth(), 97);
        due("wins in thirteen, of fourteen squares", made(game(7, 2, 3, false, 0)).worth(), 87);
        due("drawn, though it could lose", made(game(3, 1, 2, false, 0)).worth(), 0);
        due("drawn, one square", on(1, 1, 2, false).worth(), 0);
        int[] line = {97, -98, 99};
        DropRows x = on(3, 1, 2, false);
        for (int worth : line) {
            due("worth() on the way", x.worth(), worth);
            x.drop(x.best());
        }
    }

    /** Each move's worth against that of the game when it has been made. */
    private static void behind(Consumer<DropRows> before) {
        int columns = made(before).count(0);
        for (int column = 0; column < columns; column++) {
            DropRows x = made(before);
            int worth = x.worthOf(column);
            if (x.drop(column) >= 0) {
                int then = x.game(2) == 0 ? x.worth() : x.game(2) == 1 ? -100 : 0;
                due("worthOf(" + column + ")", worth, then == 0 ? 0 : then > 0 ? -then + 1 : -then - 1);
            }
        }
    }

    private static void worthOfAMove() {
        term("A MOVE's WORTH: that of the game behind it, for the SIDE that moves: 99, if it wins at once; "
                + "0, if it fills the BOARD; else less the WORTH of the game then, and, if that is not 0, nearer to 0 by 1.");
        due("wins at once", made(game(3, 1, 2, false, 0, 2)).worthOf(1), 99);
        due("wins at once, and fills the board", made(game(3, 1, 2, false, 1, 0)).worthOf(2), 99);
        due("fills the board", made(game(3, 1, 2, false, 0, 1)).worthOf(2), 0);
        due("the game then is drawn", on(3, 1, 2, false).worthOf(0), 0);
        due("the game then is lost by the other", on(3, 1, 2, false).worthOf(1), 97);
        due("the game then is won by the other", made(game(3, 1, 2, false, 0)).worthOf(2), -98);
        behind(game(4, 4, 3, false));
        behind(game(4, 4, 3, false, 0, 3, 0, 3));
        behind(game(5, 3, 3, false, 2));
        behind(game(7, 2, 3, false, 0));
        behind(game(3, 3, 3, true, 0, 0, 0));
    }

    private static void theBestMove() {
        term("THE BEST MOVE is that with the greatest WORTH, of as great ones the least column.");
        due("97 of 0 97 0", on(3, 1, 2, false).best(), 1);
        due("-98 twice, a full column between", made(game(3, 1, 2, false, 1)).best(), 0);
        due("0 of full 0 -98", made(game(3, 1, 2, false, 0)).best(), 1);
        due("-94 of -94 -98 -98 -98", made(game(4, 4, 3, false, 0, 3, 0)).best(), 0);
        due("-86 of -90 -92 -86 -92", made(game(4, 4, 3, false, 0)).best(), 2);
        due("91 of 85 91 91 85", new DropRows().best(), 1);
        due("the last column alone is not full", made(game(3, 1, 2, false, 0, 1)).best(), 2);
    }

    // ---- positions

    private static void onePosition() {
        term("POSITIONS: two games are at one POSITION, if the same men stand on the same SQUARES.");
        due("six games, three positions", on(3, 1, 3, false).positions(3), 3);
        due("men of other sides are another position", on(2, 1, 2, false).positions(2), 2);
        due("as many on other squares too", on(2, 2, 3, false).positions(2), 4);
        due("an image is another position", on(2, 1, 2, false).positions(1), 2);
        due("even() of one way", made(game(3, 1, 3, false, 0, 1, 2)).even(), made(game(3, 1, 3, false, 2, 1, 0)).even());
        due("worth() of both ways", made(game(4, 4, 3, false, 0, 1, 2)).worth(), made(game(4, 4, 3, false, 2, 1, 0)).worth());
    }

    private static void sideOfAPosition() {
        term("(SIDE 0 is to move, if so many men of both stand.)");
        due("none stands", new DropRows().game(0), 0);
        due("one of each", playing(new DropRows(), 0, 0).game(0), 0);
        due("one more of side 0", playing(new DropRows(), 0, 0, 1).game(0), 1);
        due("share(2, 1): side 0 is to move and wins", on(2, 2, 2, false).share(2, 1), 4);
        due("share(1, -1): side 1 is to move and loses", on(2, 2, 2, false).share(1, -1), 2);
    }

    private static void canCome() {
        term("A POSITION can COME, if a game leads to it that was not OVER ahead of its end.");
        due("the empty board", on(2, 2, 2, false).positions(0), 1);
        due("all over at their end", on(2, 2, 2, false).positions(3), 6);
        due("none behind it", on(2, 2, 2, false).positions(4), 0);
        due("drawn at the end", on(1, 2, 3, false).positions(2), 1);
        due("won at the end", on(4, 1, 2, false).positions(3), 12);
        due("not with two men side by side that moved ahead of the last", on(4, 1, 2, false).positions(4), 3);
        due("over by some ways of coming there, but not by all", on(5, 1, 2, false).positions(5), 6);
    }

    // ---- threats and waiting

    private static void aThreat() {
        term("A SQUARE is a THREAT of a SIDE, if it is empty, and that SIDE would HAVE a ROW with a man there.");
        DropRows x = made(game(3, 1, 2, false, 1));
        due("beside its man", x.threats(0), 2);
        due("not the other's", x.threats(1), 0);
        due("one is not empty", made(game(3, 1, 2, false, 1, 0)).threats(0), 1);
        due("of both sides", made(game(3, 1, 2, false, 0, 2)).threat(1, 0), made(game(3, 1, 2, false, 0, 2)).threat(0, 0));
        due("no man can come there yet", made(game(3, 3, 3, false, 0, 1, 1)).threat(0, 0), 8);
        due("two short of a row", made(game(3, 1, 3, false, 0)).threats(0), 0);
        due("a full board", made(game(3, 1, 2, false, 0, 1, 2)).threats(0), 0);
    }

    private static void waits(String what, Consumer<DropRows> before, int want) {
        due(what + ": waiting()", made(before).waiting(), want);
    }

    private static void waitingFromWhereItIs() {
        term("WAITING: the game goes on from where it is, each MOVE into the least column that is not full "
                + "of the first sort there is:");
        waits("from where it is", game(3, 1, 2, false, 1), 1);
        waits("from the empty board", game(3, 1, 2, false), 0);
        waits("not the greatest column", game(3, 3, 3, false, 0), 1);
        waits("not the greatest column, joined", game(4, 2, 3, true, 0), 1);
        waits("the least column is full", game(2, 1, 2, false, 0), 0);
        waits("threats as they are ahead of the move", game(5, 3, 3, false), 1);
        waits("threats as they are ahead of the move, joined", game(3, 3, 3, true, 1), -1);
    }

    private static void waitingOwnThreat() {
        term("where its SQUARE is a THREAT of the SIDE that moves;");
        waits("ahead of the other's", game(2, 3, 2, false), 1);
        waits("ahead of any", game(4, 1, 2, true), 1);
        waits("the only column", game(3, 1, 2, false, 0, 2), 1);
    }

    private static void waitingOthersThreat() {
        term("where it is one of the other SIDE;");
        waits("side 0 is kept from it", game(3, 2, 3, false), 0);
        waits("ahead of a lesser column", game(4, 2, 4, false), 0);
    }

    private static void waitingBelowNoThreat() {
        term("where the SQUARE above it (if there is one) is a THREAT of none;");
        waits("not below its own", game(4, 4, 3, false, 2), -1);
        waits("not below its own, two rows", game(5, 2, 3, false, 1, 1), -1);
        waits("not below the other's", game(6, 2, 3, false), 0);
        waits("not below the other's, joined", game(4, 3, 3, true), 1);
        waits("the highest square has none above it", game(2, 3, 3, true), 1);
        waits("the highest square, three columns", game(3, 3, 3, true), 1);
    }

    private static void waitingBelowNoneOfTheOther() {
        term("where that is none of the other SIDE;");
        waits("below its own", game(4, 4, 3, false, 1, 1), 1);
        waits("below its own, two rows", game(6, 2, 3, true, 1, 2, 1), 1);
    }

    private static void waitingAny() {
        term("any.");
        waits("all are below the other's", game(4, 3, 3, false, 0, 2), 1);
        waits("one column", game(1, 6, 2, false), 0);
        waits("one square", game(1, 1, 2, true), 0);
    }

    // ---- sheets and refusals

    private static void sheets() {
        term("SHEETS 0 .. 3 are LOST (at first) or a row of a FORM: 0 bytes, 1 shorts, 2 ints, of 0 to 20 items (0 at first).");
        int[] kept = {-1, 255, 255};
        int[] keptOfMore = {1, 1, 65537};
        for (int s = 0; s < 4; s++) {
            for (int form = 0; form < 3; form++) {
                DropRows x = new DropRows();
                due("lose(" + s + ") at first", x.lose(s), NULL);
                due("no items", x.sheet(s, form, 0), 0);
                due("put(), no items", x.put(s, form, 0, 0), INDEX);
                due("twenty items", x.sheet(s, form, 20), 20);
                due("twenty-one items", x.sheet(s, form, 21), BAD);
                due("get(), at first", x.get(s, form, 19), 0);
                x.put(s, form, 19, 255);
                x.put(s, form, 0, 65537);
                due("get(), form " + form, x.get(s, form, 19), kept[form]);
                due("get(), form " + form, x.get(s, form, 0), keptOfMore[form]);
            }
        }
        due("sheet(4, 0, 0)", new DropRows().sheet(4, 0, 0), BAD);
        due("sheet(-1, 0, 0)", new DropRows().sheet(-1, 0, 0), BAD);
        due("sheet(0, 3, 0)", new DropRows().sheet(0, 3, 0), BAD);
    }

    private static void findings() {
        term("FINDINGS (answers -10 less the number; they change nothing): 1 NULL: the SHEET is LOST; "
                + "2 INDEX: there is no such item; 3 CAST: it has another FORM; 4 STORE: unlike FORMS; 5 SIZE: below 0.");
        Consumer<DropRows> before = game(3, 2, 3, false, 0, 1, 2).andThen(x -> {
            x.sheet(0, 0, 2);
            x.put(0, 0, 1, 9);
            x.sheet(1, 1, 3);
        });
        refused("1 NULL", before, x -> x.lose(2), -11);
        refused("2 INDEX", before, x -> x.put(0, 0, 2, 1), -12);
        refused("2 INDEX of moves", before, x -> x.write(0), -12);
        refused("3 CAST", before, x -> x.put(0, 2, 1, 1), -13);
        refused("4 STORE", before, x -> x.copy(0, 0, 1, 0, 1), -14);
        refused("5 SIZE", before, x -> x.sheet(0, 0, -1), -15);
    }

    private static void refusalsInOrder() {
        term("Refusals, the first that fits: BAD -200 (a number not as told, no such thing), NOT -201, "
                + "FULL -202 (as told), FINDINGS.");
        refused("drop(), bad and over", WON_BY_0, x -> x.drop(2), -200);
        refused("drop(), over", WON_BY_0, x -> x.drop(1), -201);
        Consumer<DropRows> twelve = x -> {
            for (int i = 0; i < 12; i++) {
                x.board(2, 2, 2, false);
            }
        };
        refused("board(), bad and full", twelve, x -> x.board(2, 2, 5, false), -200);
        refused("board(), full", twelve, x -> x.board(2, 2, 2, true), -202);
        refused("take(), bad and a finding", x -> { }, x -> x.take(0, 17), -200);
        refused("take(), a finding", x -> { }, x -> x.take(0, 16), -11);
        refused("sheet(), bad and a finding", x -> { }, x -> x.sheet(0, 3, -1), -200);
    }

    private static void refusalsChangeNothing() {
        term("They change nothing (a FINDING but count() 6).");
        Consumer<DropRows> before = WON_BY_0.andThen(x -> {
            x.sheet(1, 0, 3);
            x.put(1, 0, 2, 4);
            x.lose(0);
        });
        refused("BAD", before, x -> x.back(6), BAD);
        refused("BAD of a board", before, x -> x.board(4, 4, 5, true), BAD);
        refused("NOT", before, DropRows::play, NOT);
        refused("a finding", before, x -> x.copy(1, 1, 1, 2, 2), INDEX);
        refused("no move", before, x -> x.take(1, 3), -102);
        stays("a finding of get()", before, x -> x.get(1, 2, 2), LEAST, 3);
    }
}
