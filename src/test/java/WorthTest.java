import java.util.Arrays;
import java.util.function.Consumer;
import java.util.function.ToIntFunction;

/** Promises 9 to 13: a test for each sentence, at the edges that it names. */
public final class WorthTest extends Checks {
    private static final Consumer<DropRows> WON_BY_0 = game(2, 3, 3, false, 0, 1, 0, 1, 0);
    private static final Consumer<DropRows> WON_BY_1 = game(3, 3, 3, false, 1, 0, 1, 0, 2, 0);
    private static final Consumer<DropRows> WON_WITH_THE_LAST = game(3, 1, 2, false, 1, 0, 2);
    private static final Consumer<DropRows> DRAWN = game(4, 4, 4, false, SIXTEEN);

    public static void main(String[] args) {
        worthOfTheGame();
        worthNot();
        worthOfAMove();
        worthOfBad();
        worthOfNot();
        bestMove();
        bestNot();
        asGood();
        asNot();
        playMade();
        playNot();
        allNamed(9, 13);
        finish();
    }

    private static void notWhenOver(String call, ToIntFunction<DropRows> asked) {
        refused(call + ", won by side 0", WON_BY_0, asked, NOT);
        refused(call + ", won by side 1", WON_BY_1, asked, NOT);
        refused(call + ", won with the last square", WON_WITH_THE_LAST, asked, NOT);
        refused(call + ", drawn", DRAWN, asked, NOT);
        refused(call + ", one square, drawn", game(1, 1, 2, true, 0), asked, NOT);
    }

    // ---- promise 9

    private static void worthOfTheGame() {
        under(9, "The WORTH of the game.");
        due("worth(), wins at once", made(game(3, 1, 2, false, 0, 2)).worth(), 99);
        due("worth(), wins with the last square", made(game(3, 1, 2, false, 1, 0)).worth(), 99);
        due("worth(), loses in two", made(game(3, 1, 2, false, 1)).worth(), -98);
        due("worth(), wins in three", made(game(3, 1, 2, false)).worth(), 97);
        due("worth(), loses in fourteen", made(game(4, 4, 3, false, 0)).worth(), -86);
        due("worth(), drawn with the last square", made(game(3, 1, 2, false, 0, 1)).worth(), 0);
        due("worth(), no row can be", made(game(1, 1, 2, true)).worth(), 0);
        due("worth(), one square of sixteen is empty", made(game(4, 4, 4, false, Arrays.copyOf(SIXTEEN, 15))).worth(), 0);
        due("worth(), the largest board", on(4, 4, 4, true).worth(), 0);
        DropRows x = new DropRows();
        due("worth() of a new object", x.worth(), 91);
        due("worth() again", x.worth(), 91);
        due("no move is made", x.game(1), 0);
        x.board(4, 4, 3, true);
        due("worth() of another board, behind one move", playing(x, 2).worth(), -92);
        x.board(3, 1, 2, false);
        due("worth() of a smaller board", x.worth(), 97);
        x.board(3, 1, 3, false);
        due("worth() with another K", x.worth(), 0);
        x.board(4, 4, 3, false);
        due("worth() of a larger board", x.worth(), 91);
    }

    private static void worthNot() {
        under(9, "NOT: it is OVER.");
        notWhenOver("worth()", DropRows::worth);
        due("worth(), the end is taken back", made(WON_WITH_THE_LAST.andThen(x -> x.back(1))).worth(), 99);
    }

    // ---- promise 10

    private static void worths(Consumer<DropRows> before, int... worths) {
        DropRows x = made(before);
        int moves = x.game(1);
        for (int column = 0; column < worths.length; column++) {
            due("worthOf(" + column + ") behind " + moves, x.worthOf(column), worths[column]);
        }
        due("no move is made", x.game(1), moves);
    }

    private static void worthOfAMove() {
        under(10, "The WORTH of a MOVE.");
        worths(game(3, 1, 2, false), 0, 97, 0);
        worths(game(3, 1, 2, false, 1), -98, BAD, -98);
        worths(game(3, 1, 2, false, 1, 0), BAD, BAD, 99);
        worths(game(3, 1, 2, false, 0, 1), BAD, BAD, 0);
        worths(game(4, 4, 3, false, 0, 3, 0, 3), 99, -98, -98, 95);
        worths(game(5, 3, 3, false), -88, 91, 91, 91, -88);
        worths(game(7, 2, 3, false, 0), 0, 0, 0, 0, 87, 0, 0);
        worths(game(1, 1, 2, true), 0);
    }

    private static void worthOfBad() {
        under(10, "BAD: the column, or it is full;");
        for (int column : outside(0, 3)) {
            refused("worthOf(" + column + ")", x -> playing(x, 0, 1), x -> x.worthOf(column), BAD);
        }
        refused("worthOf(0), it is full", game(2, 2, 3, false, 0, 0), x -> x.worthOf(0), BAD);
        refused("worthOf(1), six stand there", game(2, 6, 4, false, 1, 1, 1, 1, 1, 1), x -> x.worthOf(1), BAD);
        refused("worthOf(3), a column of the board ahead", game(3, 2, 3, true), x -> x.worthOf(3), BAD);
    }

    private static void worthOfNot() {
        under(10, "NOT: it is OVER (ahead).");
        notWhenOver("worthOf(0)", x -> x.worthOf(0));
        refused("worthOf(1), a column that is not full", WON_BY_0, x -> x.worthOf(1), NOT);
        for (int column : outside(0, 1)) {
            refused("worthOf(" + column + "), over ahead of bad", WON_BY_0, x -> x.worthOf(column), NOT);
        }
        due("worthOf(0), the game is over behind the move alone", made(WON_BY_0.andThen(x -> x.back(1))).worthOf(0), 99);
    }

    // ---- promises 11 and 12

    private static void bestMove() {
        under(11, "THE BEST MOVE.");
        due("best(), it alone wins", on(3, 1, 2, false).best(), 1);
        due("best(), of as good ones the least", made(game(3, 1, 2, false, 1)).best(), 0);
        due("best(), the least is full", made(game(2, 1, 2, false, 0)).best(), 1);
        due("best(), the last square", made(game(4, 4, 4, false, Arrays.copyOf(SIXTEEN, 15))).best(), 3);
        due("best(), the earliest win", made(game(4, 4, 3, false, 0, 3, 0, 3)).best(), 0);
        due("best(), the latest loss", made(game(4, 4, 3, false, 0)).best(), 2);
        due("best(), a draw ahead of a loss", made(game(3, 3, 3, false, 0)).best(), 2);
        due("best(), a win ahead of a draw", made(game(7, 2, 3, false, 0)).best(), 4);
        due("best(), all drawn", on(7, 2, 4, true).best(), 0);
        due("best(), one square", on(1, 1, 2, true).best(), 0);
        DropRows x = new DropRows();
        due("best() of a new object", x.best(), 1);
        due("no move is made", x.game(1), 0);
    }

    private static void bestNot() {
        under(11, "NOT: it is OVER.");
        notWhenOver("best()", DropRows::best);
    }

    private static void asGood() {
        under(12, "How many MOVES are as good as THE BEST.");
        due("as(), it alone", on(3, 1, 2, false).as(), 1);
        due("as(), both that are left", made(game(3, 1, 2, false, 1)).as(), 2);
        due("as(), a full column is none", made(game(2, 1, 2, false, 0)).as(), 1);
        due("as(), all of seven", on(7, 2, 4, true).as(), 7);
        due("as(), a later win is not as good", made(game(4, 4, 3, false, 0, 3, 0, 3)).as(), 1);
        due("as(), an earlier loss is not as good", made(game(4, 4, 3, false, 1)).as(), 3);
        due("as(), one square", on(1, 1, 2, true).as(), 1);
        DropRows x = new DropRows();
        due("as() of a new object", x.as(), 2);
        due("no move is made", x.game(1), 0);
    }

    private static void asNot() {
        under(12, "NOT.");
        notWhenOver("as()", DropRows::as);
    }

    // ---- promise 13

    private static void line(Consumer<DropRows> before, int state, int... line) {
        DropRows x = made(before);
        int moves = x.game(1);
        due("play() behind " + moves, x.play(), line.length);
        due("how it is then", x.game(2), state);
        due("all moves then", x.game(1), moves + line.length);
        for (int i = 0; i < line.length; i++) {
            due("move(" + (moves + i) + ")", x.move(moves + i), line[i]);
        }
    }

    private static void playMade() {
        under(13, "BEST MOVES are made till it is OVER: how many.");
        line(game(3, 1, 2, false), 1, 1, 0, 2);
        line(game(3, 1, 2, false, 0), 2, 1, 2);
        line(game(3, 1, 2, false, 0, 2), 1, 1);
        line(game(1, 1, 2, true), 2, 0);
        line(game(1, 6, 2, false), 2, 0, 0, 0, 0, 0, 0);
        line(game(4, 4, 4, false), 2, SIXTEEN);
        line(game(4, 4, 4, false, Arrays.copyOf(SIXTEEN, 15)), 2, 3);
        line(game(4, 4, 3, false, 0), 1, 2, 2, 3, 1, 1, 1, 1, 2, 2, 3, 3, 3, 0, 0);
        line(game(4, 4, 3, false, 0, 3, 0, 3), 1, 0);
    }

    private static void playNot() {
        under(13, "NOT: it is OVER.");
        notWhenOver("play()", DropRows::play);
        DropRows x = on(3, 1, 2, false);
        x.play();
        due("play() again", x.play(), NOT);
    }
}
