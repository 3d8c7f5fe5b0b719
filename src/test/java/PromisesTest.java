/** The document's promises one by one, with answers worked out by hand. */
public final class PromisesTest extends Checks {
    public static void main(String[] args) {
        newObject();
        board();
        boardIsFull();
        drop();
        back();
        moveAndAt();
        game();
        won();
        wonOfSeveral();
        worth();
        worthOf();
        bestAsPlay();
        positionsWinsShare();
        countsBehindAnAskedGame();
        even();
        threats();
        waiting();
        waitingSorts();
        sheet();
        lose();
        putAndGet();
        copy();
        take();
        takeRefused();
        write();
        count();
        digest();
        finish();
    }

    // ---- promises 1 and 2

    private static void newObject() {
        DropRows x = new DropRows();
        int[] counts = {4, 4, 3, 0, 24, 16, 0};
        for (int i = 0; i < counts.length; i++) {
            due("1: count " + i, x.count(i), counts[i]);
        }
        int[] games = {0, 0, 0, 4, 48};
        for (int i = 0; i < games.length; i++) {
            due("1: game " + i, x.game(i), games[i]);
        }
        for (int square = 0; square < 16; square++) {
            due("1: at", x.at(square), -1);
        }
        for (int s = 0; s < 4; s++) {
            due("1: a sheet is lost", x.lose(s), NULL);
        }
    }

    private static void board() {
        due("2: too small for a row", new DropRows().board(1, 1, 2, false), 0);
        due("2: 4 4 4", new DropRows().board(4, 4, 4, false), 10);
        due("2: 4 4 4 joined: a line around is one row", new DropRows().board(4, 4, 4, true), 16);
        due("2: 2 2 2 joined: the same squares are one", new DropRows().board(2, 2, 2, true), 6);
        due("2: 2 3 3 joined: no square twice", new DropRows().board(2, 3, 3, true), 4);
        due("2: 1 4 3 joined: slanting is upright", new DropRows().board(1, 4, 3, true), 2);
        due("2: 7 2 4", new DropRows().board(7, 2, 4, false), 8);
        due("2: 2 6 2", new DropRows().board(2, 6, 2, false), 6 + 10 + 10);
        DropRows x = playing(new DropRows(), 1, 2);
        int[][] bad = {{0, 4, 3}, {8, 1, 3}, {4, 0, 3}, {2, 7, 3}, {6, 3, 3}, {4, 4, 1}, {4, 4, 5},
            {-1, -4, 3}, {LEAST, 2, 2}, {GREATEST, GREATEST, 2}, {65536, 65536, 2}, {4, 5, 3}};
        for (int[] b : bad) {
            due("2: bad " + b[0] + " " + b[1] + " " + b[2], x.board(b[0], b[1], b[2], false), BAD);
        }
        due("2: bad changes nothing", x.game(1), 2);
        due("2: still 4 columns", x.count(0), 4);
        x.sheet(2, 1, 7);
        x.get(0, 0, 0);
        x.board(7, 2, 4, true);
        due("2: no moves", x.game(1), 0);
        due("2: no men", x.at(1), -1);
        due("2: joined", x.count(3), 1);
        due("2: the finding stays", x.count(6), 1);
        due("2: the sheet stays", x.lose(2), 7);
        due("2: the widest column", x.drop(6), 6);
        due("2: width 7", x.drop(6), 13);
    }

    private static void boardIsFull() {
        DropRows x = new DropRows();
        for (int i = 0; i < 12; i++) {
            due("2: a bad board does not count", x.board(5, 5, 2, false), BAD);
            due("2: board " + i, x.board(1, 2, 2, false), 1);
        }
        x.drop(0);
        due("2: full", x.board(2, 2, 2, false), FULL);
        due("2: full again", x.board(2, 2, 2, false), FULL);
        due("2: bad goes ahead of full", x.board(2, 2, 9, false), BAD);
        due("2: full changes nothing", x.game(1), 1);
        due("2: nor the width", x.count(0), 1);
    }

    // ---- promises 3 to 8

    private static void drop() {
        DropRows x = on(2, 3, 3, false);
        due("3: bad below", x.drop(-1), BAD);
        due("3: bad above", x.drop(2), BAD);
        due("3: bad least", x.drop(LEAST), BAD);
        due("3: bad greatest", x.drop(GREATEST), BAD);
        due("3: lowest", x.drop(1), 1);
        due("3: above it", x.drop(1), 3);
        due("3: and again", x.drop(1), 5);
        due("3: the column is full", x.drop(1), BAD);
        due("3: refused, nothing changed", x.game(1), 3);
        DropRows y = playing(on(2, 3, 3, false), 0, 1, 0, 1, 0);
        due("3: over", y.drop(1), NOT);
        due("3: full goes ahead of over", y.drop(0), BAD);
        due("3: no column goes ahead of over", y.drop(2), BAD);
        due("3: still five", y.game(1), 5);
    }

    private static void back() {
        DropRows x = playing(on(2, 3, 3, false), 0, 1, 0, 1, 0);
        due("4: below 0", x.back(-1), BAD);
        due("4: more than there are", x.back(6), BAD);
        due("4: greatest", x.back(GREATEST), BAD);
        due("4: none", x.back(0), 5);
        due("4: still over", x.game(2), 1);
        due("4: one", x.back(1), 4);
        due("4: goes on", x.game(2), 0);
        due("4: the man is gone", x.at(4), -1);
        due("4: others stay", x.at(3), 1);
        due("4: no move there", x.move(4), BAD);
        due("4: the square is free", x.drop(0), 4);
        due("4: all", x.back(5), 0);
        due("4: nothing more", x.back(1), BAD);
        due("4: nothing of nothing", x.back(0), 0);
    }

    private static void moveAndAt() {
        DropRows x = playing(on(3, 2, 3, false), 2, 0, 2);
        int[] moves = {2, 0, 2};
        for (int i = 0; i < 3; i++) {
            due("5: move " + i, x.move(i), moves[i]);
        }
        due("5: below", x.move(-1), BAD);
        due("5: behind the last", x.move(3), BAD);
        due("5: least", x.move(LEAST), BAD);
        due("5: greatest", x.move(GREATEST), BAD);
        int[] men = {1, -1, 0, -1, -1, 0};
        for (int square = 0; square < 6; square++) {
            due("6: at " + square, x.at(square), men[square]);
        }
        due("6: below", x.at(-1), BAD);
        due("6: beyond the board", x.at(6), BAD);
        due("6: a bit's round", x.at(32), BAD);
        due("6: least", x.at(LEAST), BAD);
        due("6: greatest", x.at(GREATEST), BAD);
    }

    private static void game() {
        DropRows x = playing(on(3, 1, 2, false), 0);
        due("7: side 1", x.game(0), 1);
        due("7: one move", x.game(1), 1);
        due("7: goes on", x.game(2), 0);
        due("7: two columns", x.game(3), 2);
        due("7: side 0 two rows, side 1 one", x.game(4), 3);
        playing(x, 1, 2);
        due("7: side 1 also when over", x.game(0), 1);
        due("7: drawn", x.game(2), 2);
        due("7: no column", x.game(3), 0);
        due("7: no row left", x.game(4), 0);
        DropRows y = playing(on(3, 1, 2, false), 1, 0, 2);
        due("7: won by the last square is no draw", y.game(2), 1);
        due("7: a row that it has counts", y.game(4), 1);
        due("7: below", y.game(-1), BAD);
        due("7: above", y.game(5), BAD);
        due("7: least", y.game(LEAST), BAD);
        due("7: greatest", y.game(GREATEST), BAD);
    }

    private static void won() {
        DropRows x = playing(on(3, 3, 3, false), 1, 0, 1, 0, 2);
        due("8: none yet", x.won(0), BAD);
        x.drop(0);
        due("8: over", x.game(2), 1);
        int[] squares = {0, 3, 6};
        for (int i = 0; i < 3; i++) {
            due("8: square " + i, x.won(i), squares[i]);
        }
        due("8: below", x.won(-1), BAD);
        due("8: behind", x.won(3), BAD);
        due("8: least", x.won(LEAST), BAD);
        due("8: greatest", x.won(GREATEST), BAD);
        x.back(1);
        due("8: taken back", x.won(0), BAD);
        DropRows drawn = playing(on(2, 1, 2, true), 0, 1);
        due("8: none in a draw", drawn.won(0), BAD);
    }

    private static void wonOfSeveral() {
        DropRows x = playing(on(7, 1, 3, false), 1, 0, 2, 5, 4, 6, 3);
        int[] flat = {1, 2, 3};
        DropRows y = playing(on(7, 2, 3, true), 5, 5, 6, 2, 1, 1, 0);
        int[] around = {0, 1, 6};
        for (int i = 0; i < 3; i++) {
            due("8: of two the first " + i, x.won(i), flat[i]);
            due("8: of two around the first " + i, y.won(i), around[i]);
        }
    }

    // ---- promises 9 to 13

    private static void worth() {
        due("9: wins in three", on(3, 1, 2, false).worth(), 97);
        due("9: loses in two", playing(on(3, 1, 2, false), 1).worth(), -98);
        due("9: drawn", playing(on(3, 1, 2, false), 0).worth(), 0);
        due("9: wins at once", playing(on(3, 1, 2, false), 0, 2).worth(), 99);
        due("9: no row can be", on(1, 1, 2, false).worth(), 0);
        due("9: not when won", playing(on(3, 1, 2, false), 1, 0, 2).worth(), NOT);
        due("9: not when drawn", playing(on(1, 1, 2, false), 0).worth(), NOT);
        DropRows x = new DropRows();
        due("9: the first board", x.worth(), 91);
        due("9: asked again", x.worth(), 91);
        due("9: nothing is moved", x.game(1), 0);
        x.board(3, 1, 2, false);
        due("9: a new board is judged anew", x.worth(), 97);
        x.board(3, 1, 3, false);
        due("9: and K", x.worth(), 0);
        x.board(7, 2, 4, false);
        due("9: and a larger one", x.worth(), 0);
        x.board(4, 4, 3, false);
        due("9: and the first again", x.worth(), 91);
    }

    private static void worthOf() {
        DropRows x = on(3, 1, 2, false);
        due("10: side", x.worthOf(0), 0);
        due("10: middle", x.worthOf(1), 97);
        due("10: below", x.worthOf(-1), BAD);
        due("10: beyond", x.worthOf(3), BAD);
        due("10: greatest", x.worthOf(GREATEST), BAD);
        playing(x, 1);
        due("10: full", x.worthOf(1), BAD);
        due("10: loses", x.worthOf(2), -98);
        playing(x, 0);
        due("10: wins at once, on the last square too", x.worthOf(2), 99);
        playing(x, 2);
        due("10: over", x.worthOf(2), NOT);
        due("10: over goes ahead of bad", x.worthOf(7), NOT);
        due("10: fills the board", playing(on(2, 1, 2, false), 0).worthOf(1), 0);
    }

    private static void bestAsPlay() {
        DropRows x = on(3, 1, 2, false);
        due("11: the middle", x.best(), 1);
        due("12: it alone", x.as(), 1);
        due("11: nothing is moved", x.game(1), 0);
        due("13: three", x.play(), 3);
        int[] line = {1, 0, 2};
        for (int i = 0; i < 3; i++) {
            due("13: move " + i, x.move(i), line[i]);
        }
        due("13: won", x.game(2), 1);
        due("11: over", x.best(), NOT);
        due("12: over", x.as(), NOT);
        due("13: over", x.play(), NOT);
        x.back(2);
        due("11: of as good ones the least", x.best(), 0);
        due("12: both", x.as(), 2);
        due("13: the rest", x.play(), 2);
        DropRows drawn = playing(on(1, 6, 2, false), 0);
        due("13: to a draw", drawn.play(), 5);
        due("13: drawn", drawn.game(2), 2);
        due("12: full columns are no moves", playing(on(2, 1, 2, false), 0).as(), 1);
        due("11: nor the best", playing(on(2, 1, 2, false), 0).best(), 1);
    }

    // ---- promises 14 to 17

    private static void positionsWinsShare() {
        DropRows x = on(3, 1, 2, false);
        int[] come = {1, 3, 6, 3};
        int[] won = {0, 0, 0, 2};
        int[][] shares = {{0, 0, 1}, {1, 2, 0}, {0, 2, 4}, {0, 0, 0}};
        for (int n = 0; n <= 3; n++) {
            due("14: with " + n, x.positions(n), come[n]);
            due("15: with " + n, x.wins(n), won[n]);
            for (int sign = -1; sign <= 1; sign++) {
                due("16: with " + n + " sign " + sign, x.share(n, sign), shares[n][sign + 1]);
            }
        }
        int[] off = {-1, 4, LEAST, GREATEST};
        for (int n : off) {
            due("14: bad " + n, x.positions(n), BAD);
            due("15: bad " + n, x.wins(n), BAD);
            due("16: bad " + n, x.share(n, 0), BAD);
        }
        due("16: sign above", x.share(0, 2), BAD);
        due("16: sign below", x.share(0, -2), BAD);
        due("16: sign least", x.share(0, LEAST), BAD);
        DropRows four = on(4, 4, 4, false);
        int all = 0;
        for (int n = 0; n <= 16; n++) {
            all += four.positions(n);
        }
        due("14: all of 4 by 4 with four in a row", all, 161029);
    }

    private static void countsBehindAnAskedGame() {
        DropRows asked = playing(on(4, 3, 3, true), 1, 1, 0);
        asked.worth();
        asked.worthOf(2);
        asked.play();
        DropRows fresh = on(4, 3, 3, true);
        for (int n = 0; n <= 12; n++) {
            due("14: whatever was asked", asked.positions(n), fresh.positions(n));
            due("15: whatever was asked", asked.wins(n), fresh.wins(n));
            due("16: whatever was asked", asked.share(n, 1), fresh.share(n, 1));
        }
        fresh.board(3, 1, 2, false);
        due("14: counted anew for a new board", fresh.positions(2), 6);
    }

    private static void even() {
        DropRows x = on(3, 2, 3, false);
        due("17: empty", x.even(), 1);
        due("17: middle", playing(x, 1).even(), 1);
        due("17: side", playing(x, 0).even(), 0);
        due("17: the other side's man stands there", playing(x, 2).even(), 0);
        due("17: both sides alike", playing(on(3, 2, 3, false), 0, 1, 2).even(), 1);
        due("17: one column", playing(on(1, 3, 2, false), 0).even(), 1);
        due("17: four columns", playing(new DropRows(), 1, 0, 2, 3).even(), 1);
        due("17: joined, turned but not moved round", playing(on(3, 1, 3, true), 0).even(), 0);
    }

    // ---- promises 18 to 20

    private static void threats() {
        DropRows x = playing(new DropRows(), 0, 0, 1, 2, 3, 1);
        due("18: of 0", x.threats(0), 0);
        due("18: of 1", x.threats(1), 2);
        due("19: the least", x.threat(1, 0), 6);
        due("19: the next", x.threat(1, 1), 8);
        due("19: no more", x.threat(1, 2), BAD);
        due("19: below", x.threat(1, -1), BAD);
        due("19: greatest", x.threat(1, GREATEST), BAD);
        due("19: least int", x.threat(1, LEAST), BAD);
        due("19: none of 0", x.threat(0, 0), BAD);
        due("18: side above", x.threats(2), BAD);
        due("18: side below", x.threats(-1), BAD);
        due("19: side above", x.threat(2, 0), BAD);
        due("19: side below", x.threat(-1, 0), BAD);
        DropRows y = playing(on(3, 3, 3, false), 0, 1, 1);
        due("19: a square that nobody can come to yet", y.threat(0, 0), 8);
        due("18: it alone", y.threats(0), 1);
        DropRows around = playing(on(5, 1, 3, true), 4, 2, 0);
        due("19: around", around.threat(0, 0), 1);
        due("19: around, the other end", around.threat(0, 1), 3);
        DropRows won = playing(on(3, 2, 2, false), 0, 2, 1);
        due("18: who has a row has it with any man more", won.threats(0), 3);
        due("18: the other one's", won.threats(1), 2);
    }

    private static void waiting() {
        DropRows x = on(3, 1, 2, false);
        due("20: drawn", x.waiting(), 0);
        playing(x, 1);
        due("20: side 0", x.waiting(), 1);
        due("20: the game stays", x.game(1), 1);
        due("20: its men too", x.at(0), -1);
        playing(x, 0, 2);
        due("20: over", x.waiting(), NOT);
        due("20: side 1", new DropRows().waiting(), -1);
    }

    /** Each of these ends otherwise, if the sort that is named were left out or put elsewhere. */
    private static void waitingSorts() {
        due("20: its own threat goes ahead of the other's", on(2, 3, 2, false).waiting(), 1);
        due("20: the other's threat", on(4, 2, 3, false).waiting(), 0);
        due("20: below no threat, and below the top", on(3, 3, 3, false).waiting(), 1);
        due("20: below its own threat alone", playing(new DropRows(), 2).waiting(), -1);
        due("20: below a threat of the other, last", playing(on(4, 3, 3, false), 0, 2).waiting(), 1);
    }

    // ---- promises 21 to 25

    private static void sheet() {
        DropRows x = new DropRows();
        due("21: none", x.sheet(0, 0, 0), 0);
        due("21: twenty", x.sheet(3, 2, 20), 20);
        due("21: above", x.sheet(3, 2, 21), BAD);
        due("21: greatest", x.sheet(3, 2, GREATEST), BAD);
        due("21: no sheet", x.sheet(4, 0, 1), BAD);
        due("21: sheet below", x.sheet(-1, 0, 1), BAD);
        due("21: no form", x.sheet(0, 3, 1), BAD);
        due("21: form below", x.sheet(0, -1, 1), BAD);
        due("21: bad goes ahead of size", x.sheet(4, 0, -1), BAD);
        due("21: no finding yet", x.count(6), 0);
        due("21: size", x.sheet(3, 2, -1), SIZE);
        due("21: least size", x.sheet(3, 2, LEAST), SIZE);
        due("21: the finding", x.count(6), 5);
        due("21: nothing changed", x.put(3, 2, 19, 5), 1);
        due("21: told anew", x.sheet(3, 2, 20), 20);
        due("21: items are 0", x.get(3, 2, 19), 0);
        due("21: another form", x.sheet(3, 1, 2), 2);
        due("21: not the old one", x.put(3, 2, 0, 1), CAST);
        due("21: as many items as told", x.put(3, 1, 2, 1), INDEX);
    }

    private static void lose() {
        DropRows x = new DropRows();
        x.sheet(1, 1, 9);
        due("22: nine", x.lose(1), 9);
        due("22: lost", x.lose(1), NULL);
        due("22: the finding", x.count(6), 1);
        due("22: no sheet", x.lose(4), BAD);
        due("22: below", x.lose(-1), BAD);
        x.sheet(1, 1, 0);
        due("22: of no items", x.lose(1), 0);
    }

    private static void putAndGet() {
        DropRows x = new DropRows();
        int[][] kept = {{-56, -1, 0}, {200, -1, 0}, {200, 65535, -65536}};
        int[] given = {200, 65535, -65536};
        for (int form = 0; form < 3; form++) {
            x.sheet(form, form, 3);
            for (int i = 0; i < 3; i++) {
                due("23: put", x.put(form, form, i, given[i]), 1);
                due("24: form " + form + " keeps of " + given[i], x.get(form, form, i), kept[form][i]);
            }
        }
        x.put(0, 0, 0, 128);
        due("24: a byte's least", x.get(0, 0, 0), -128);
        x.put(1, 1, 0, 32768);
        due("24: a short's least", x.get(1, 1, 0), -32768);
        x.put(2, 2, 0, GREATEST);
        due("24: an int", x.get(2, 2, 0), GREATEST);
        int[][] calls = {{4, 0, 0, BAD}, {-1, 0, 0, BAD}, {0, 3, 0, BAD}, {0, -1, 0, BAD}, {3, 7, 9, BAD},
            {3, 2, 99, NULL}, {0, 1, 99, CAST}, {2, 0, -1, CAST}, {0, 0, 3, INDEX}, {0, 0, -1, INDEX},
            {2, 2, LEAST, INDEX}, {2, 2, GREATEST, INDEX}};
        for (int[] c : calls) {
            String name = c[0] + " " + c[1] + " " + c[2];
            int before = number(x, 3);
            due("23: refused " + name, x.put(c[0], c[1], c[2], 1), c[3]);
            due("23: the finding " + name, x.count(6), c[3] == BAD ? before : -10 - c[3]);
            before = number(x, 1);
            due("24: refused " + name, x.get(c[0], c[1], c[2]), LEAST);
            due("24: the finding " + name, x.count(6), c[3] == BAD ? before : -10 - c[3]);
        }
        due("23: nothing changed", x.get(0, 0, 0), -128);
    }

    /** Makes another finding the latest one, so that a call that tells none can be seen. */
    private static int number(DropRows x, int form) {
        if (form == 1) {
            x.lose(3);
        } else {
            x.sheet(3, 0, -1);
        }
        return x.count(6);
    }

    private static DropRows withItems() {
        DropRows x = new DropRows();
        x.sheet(0, 0, 6);
        x.sheet(1, 0, 3);
        x.sheet(2, 1, 6);
        for (int i = 0; i < 6; i++) {
            x.put(0, 0, i, i + 1);
        }
        return x;
    }

    private static void items(String what, DropRows x, int s, int... want) {
        for (int i = 0; i < want.length; i++) {
            due(what + ", item " + i, x.get(s, 0, i), want[i]);
        }
    }

    private static void copy() {
        DropRows x = withItems();
        due("25: to another", x.copy(0, 1, 1, 0, 3), 1);
        items("25: came", x, 1, 2, 3, 4);
        due("25: forward onto itself", x.copy(0, 0, 0, 2, 4), 1);
        items("25: as they were", x, 0, 1, 2, 1, 2, 3, 4);
        due("25: back onto itself", x.copy(0, 2, 0, 1, 4), 1);
        items("25: as they were, back", x, 0, 1, 1, 2, 3, 4, 4);
        due("25: none", x.copy(0, 6, 1, 3, 0), 1);
        due("25: no finding till now", x.count(6), 0);
        int[][] calls = {{4, 0, 0, 0, 0, BAD}, {-1, 0, 0, 0, 0, BAD}, {0, 0, 4, 0, 0, BAD}, {0, 0, -1, 0, 0, BAD},
            {3, 0, 9, 0, 0, BAD}, {3, 0, 0, 0, 1, NULL}, {0, 0, 3, 0, 1, NULL}, {3, -1, 2, -1, -1, NULL},
            {0, 0, 2, 0, 1, STORE}, {2, -1, 1, 0, 0, STORE}, {0, -1, 1, 0, 1, INDEX}, {0, 0, 1, -1, 1, INDEX},
            {0, 0, 1, 0, -1, INDEX}, {0, 0, 1, 0, 4, INDEX}, {1, 0, 0, 0, 4, INDEX}, {0, 7, 1, 0, 0, INDEX},
            {0, 0, 1, 4, 0, INDEX}, {0, 5, 1, 0, 2, INDEX}, {0, 1, 1, 0, GREATEST, INDEX},
            {0, GREATEST, 1, 0, GREATEST, INDEX}, {0, GREATEST, 1, 0, 1, INDEX}, {0, 0, 1, GREATEST, 2, INDEX},
            {0, 0, 1, 0, LEAST, INDEX}, {0, LEAST, 1, LEAST, LEAST, INDEX}};
        int latest = 0;
        for (int[] c : calls) {
            String name = c[0] + " " + c[1] + " " + c[2] + " " + c[3] + " " + c[4];
            due("25: refused " + name, x.copy(c[0], c[1], c[2], c[3], c[4]), c[5]);
            latest = c[5] == BAD ? latest : -10 - c[5];
            due("25: the finding " + name, x.count(6), latest);
        }
        items("25: nothing changed", x, 0, 1, 1, 2, 3, 4, 4);
        items("25: nothing changed there", x, 1, 2, 3, 4);
    }

    // ---- promises 26 and 27

    private static DropRows withMoves(int... columns) {
        DropRows x = on(3, 3, 3, false);
        x.sheet(0, 2, 20);
        for (int i = 0; i < columns.length; i++) {
            x.put(0, 2, i, columns[i]);
        }
        return x;
    }

    private static void take() {
        DropRows x = withMoves(1, 0, 1, 0, 1, 2);
        playing(x, 2, 2);
        due("26: goes on", x.take(0, 4), 0);
        due("26: four", x.game(1), 4);
        due("26: the old ones are gone", x.at(2), -1);
        due("26: the new ones", x.move(3), 0);
        due("26: the new men", x.at(3), 1);
        due("26: won", x.take(0, 5), 1);
        due("26: its row", x.won(0), 1);
        due("26: none", x.take(0, 0), 0);
        due("26: no moves", x.game(1), 0);
        DropRows one = on(1, 2, 2, false);
        one.sheet(3, 0, 16);
        due("26: drawn", one.take(3, 2), 2);
        due("26: behind it there is no move", one.take(3, 3), -102);
        due("26: sixteen may be asked", one.take(3, 16), -102);
        due("26: the game stays", one.game(1), 2);
    }

    private static void takeRefused() {
        DropRows x = withMoves(1, 0, 1, 0, 1, 2, 9);
        playing(x, 2, 2);
        due("26: a move behind the win", x.take(0, 6), -105);
        due("26: the first of several", x.take(0, 9), -105);
        due("26: the game stays", x.game(1), 2);
        due("26: its men too", x.at(5), 1);
        due("26: it goes on", x.drop(0), 0);
        due("26: no finding", x.count(6), 0);
        x.put(0, 2, 0, -1);
        due("26: no column", x.take(0, 1), -100);
        x.put(0, 2, 0, LEAST);
        due("26: no column at all", x.take(0, 1), -100);
        x.put(0, 2, 0, 0);
        x.put(0, 2, 2, 0);
        due("26: a full column", x.take(0, 4), -103);
        due("26: n above", x.take(0, 17), BAD);
        due("26: n below", x.take(0, -1), BAD);
        due("26: no sheet", x.take(4, 0), BAD);
        due("26: sheet below", x.take(-1, 0), BAD);
        due("26: bad goes ahead of lost", x.take(1, 17), BAD);
        due("26: lost", x.take(1, 0), NULL);
        due("26: the finding", x.count(6), 1);
        x.sheet(1, 0, 3);
        x.put(1, 0, 0, 9);
        due("26: not so many goes ahead of no move", x.take(1, 4), INDEX);
        due("26: the finding then", x.count(6), 2);
    }

    private static void write() {
        DropRows x = playing(new DropRows(), 3, 2, 0);
        due("27: lost", x.write(1), NULL);
        due("27: no sheet", x.write(4), BAD);
        due("27: below", x.write(-1), BAD);
        x.sheet(1, 0, 2);
        due("27: not so many", x.write(1), INDEX);
        due("27: the finding", x.count(6), 2);
        items("27: nothing written", x, 1, 0, 0);
        x.sheet(1, 0, 3);
        due("27: just so many", x.write(1), 3);
        items("27: written", x, 1, 3, 2, 0);
        x.sheet(2, 1, 5);
        x.put(2, 1, 4, 77);
        x.put(2, 1, 2, 77);
        due("27: to shorts", x.write(2), 3);
        due("27: an item of them", x.get(2, 1, 0), 3);
        due("27: a 0 is written", x.get(2, 1, 2), 0);
        due("27: others stay", x.get(2, 1, 4), 77);
        x.back(3);
        x.sheet(3, 2, 0);
        due("27: none", x.write(3), 0);
    }

    // ---- promises 28 and 29

    private static void count() {
        DropRows x = on(5, 3, 4, true);
        int[] counts = {5, 3, 4, 1, 15, 15, 0};
        for (int i = 0; i < counts.length; i++) {
            due("28: count " + i, x.count(i), counts[i]);
        }
        due("28: below", x.count(-1), BAD);
        due("28: above", x.count(7), BAD);
        due("28: least", x.count(LEAST), BAD);
        due("28: greatest", x.count(GREATEST), BAD);
        x.copy(0, 0, 0, 0, 0);
        due("28: null", x.count(6), 1);
        x.sheet(0, 0, -1);
        due("28: size", x.count(6), 5);
        x.sheet(0, 0, 1);
        due("28: it stays the latest", x.count(6), 5);
    }

    private static void digest() {
        DropRows x = on(2, 1, 2, false);
        due("29: empty", x.digest(), fold(2, 1, 2, 0, 1, 2, 0, 0, 0, 2, 2, -1, -1));
        playing(x, 1);
        due("29: one man", x.digest(), fold(2, 1, 2, 0, 1, 2, 1, 1, 0, 1, 1, 1, -1, 0));
        playing(x, 0);
        due("29: over", x.digest(), fold(2, 1, 2, 0, 1, 2, 0, 2, 2, 0, 0, 1, 0, 1, 0));
        due("29: the first board", new DropRows().digest(), fold(4, 4, 3, 0, 24, 16, 0, 0, 0, 4, 48,
                -1, -1, -1, -1, -1, -1, -1, -1, -1, -1, -1, -1, -1, -1, -1, -1));
        x.lose(0);
        due("29: findings are not in it", x.digest(), fold(2, 1, 2, 0, 1, 2, 0, 2, 2, 0, 0, 1, 0, 1, 0));
    }

    private static long fold(int... numbers) {
        long h = 17;
        for (int number : numbers) {
            h = h * 31 + number;
        }
        return h;
    }
}
