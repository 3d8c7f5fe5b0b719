import java.util.Arrays;
import java.util.function.Consumer;

/** Promises 14 to 17: a test for each sentence, at the edges that it names. */
public final class PositionsTest extends Checks {
    private static final Consumer<DropRows> MIDWAY = game(3, 2, 3, false, 0, 1, 1);

    public static void main(String[] args) {
        positionsCome();
        positionsBad();
        winsOfThese();
        winsBad();
        shareByWorth();
        shareBad();
        evenImage();
        allNamed(14, 17);
        finish();
    }

    // ---- promise 14

    private static void positionsCome() {
        under(14, "How many POSITIONS can COME with n men (0 .. W times H).");
        each("one square: positions", on(1, 1, 2, true)::positions, 1, 1);
        each("one column: positions", on(1, 6, 2, false)::positions, 1, 1, 1, 1, 1, 1, 1);
        each("one row, and some are won: positions", on(3, 1, 2, false)::positions, 1, 3, 6, 3);
        each("all are over behind three: positions", on(2, 2, 2, false)::positions, 1, 2, 4, 6, 0);
        each("whatever was played: positions", made(game(3, 1, 2, false, 1, 0, 2))::positions, 1, 3, 6, 3);
        DropRows four = on(4, 4, 4, false);
        int all = 0;
        for (int n = 0; n <= 16; n++) {
            all += four.positions(n);
        }
        due("all of 4 by 4 with four in a row", all, 161029);
        DropRows x = playing(new DropRows(), 1, 1, 0);
        x.worth();
        DropRows y = new DropRows();
        for (int n = 0; n <= 16; n++) {
            due("positions(" + n + "), a worth was asked ahead", x.positions(n), y.positions(n));
        }
        x.board(3, 1, 2, false);
        each("a new board: positions", x::positions, 1, 3, 6, 3);
    }

    private static void positionsBad() {
        under(14, "BAD.");
        for (int n : outside(0, 6)) {
            refused("positions(" + n + ")", MIDWAY, x -> x.positions(n), BAD);
        }
        for (int n : outside(0, 16)) {
            refused("positions(" + n + ") of sixteen", x -> { }, x -> x.positions(n), BAD);
        }
        refused("positions(16), as the board ahead", game(5, 3, 4, true), x -> x.positions(16), BAD);
    }

    // ---- promise 15

    private static void winsOfThese() {
        under(15, "Of these: how many in which the SIDE that moved last HAS a ROW.");
        each("no row can be: wins", on(1, 1, 2, true)::wins, 0, 0);
        each("nobody wins in one column: wins", on(1, 6, 2, false)::wins, 0, 0, 0, 0, 0, 0, 0);
        each("with the last square alone: wins", on(3, 1, 2, false)::wins, 0, 0, 0, 2);
        each("all with three: wins", on(2, 2, 2, false)::wins, 0, 0, 0, 6, 0);
        each("whatever was played: wins", made(game(3, 1, 2, false, 1, 0, 2))::wins, 0, 0, 0, 2);
        DropRows x = on(4, 4, 4, false);
        due("wins(6), four in a row need seven men", x.wins(6), 0);
        // a column and three men in the three others: 4 times 10; the lowest row and three men on it: 20
        due("wins(7)", x.wins(7), 60);
        x.board(4, 4, 3, true);
        // with five: three up and two men in the three others, 4 times 6; three of the lowest row, around too, 4 times 10
        each("joined: wins", x::wins, 0, 0, 0, 0, 0, 64, 80, 688, 808, 2692, 2096, 2612, 1016, 656, 168, 76, 0);
        x.board(2, 2, 2, false);
        each("a new board: wins", x::wins, 0, 0, 0, 6, 0);
    }

    private static void winsBad() {
        under(15, "BAD.");
        for (int n : outside(0, 6)) {
            refused("wins(" + n + ")", MIDWAY, x -> x.wins(n), BAD);
        }
        for (int n : outside(0, 16)) {
            refused("wins(" + n + ") of sixteen", x -> { }, x -> x.wins(n), BAD);
        }
    }

    // ---- promise 16

    private static void shares(String what, DropRows x, int[]... belowEvenAbove) {
        for (int n = 0; n < belowEvenAbove.length; n++) {
            for (int sign = -1; sign <= 1; sign++) {
                due(what + ": share(" + n + ", " + sign + ")", x.share(n, sign), belowEvenAbove[n][sign + 1]);
            }
        }
    }

    private static void shareByWorth() {
        under(16, "Of those that are not OVER: how many with a WORTH above 0 (sign 1), 0, below (-1), for the SIDE to move.");
        shares("one square", on(1, 1, 2, true), new int[][] {{0, 1, 0}, {0, 0, 0}});
        shares("one row", on(3, 1, 2, false), new int[][] {{0, 0, 1}, {1, 2, 0}, {0, 2, 4}, {0, 0, 0}});
        shares("over behind three", on(2, 2, 2, false),
                new int[][] {{0, 0, 1}, {2, 0, 0}, {0, 0, 4}, {0, 0, 0}, {0, 0, 0}});
        shares("whatever was played", made(game(3, 1, 2, false, 1)),
                new int[][] {{0, 0, 1}, {1, 2, 0}, {0, 2, 4}, {0, 0, 0}});
        DropRows x = new DropRows();
        for (int n = 0; n < 16; n++) {
            due("all shares and the wins of " + n, x.share(n, -1) + x.share(n, 0) + x.share(n, 1) + x.wins(n), x.positions(n));
        }
        due("no share of a full board", x.share(16, -1) + x.share(16, 0) + x.share(16, 1), 0);
    }

    private static void shareBad() {
        under(16, "BAD.");
        for (int n : outside(0, 6)) {
            refused("share(" + n + ", 0)", MIDWAY, x -> x.share(n, 0), BAD);
        }
        for (int sign : outside(-1, 1)) {
            refused("share(0, " + sign + ")", MIDWAY, x -> x.share(0, sign), BAD);
        }
        refused("share(7, 2)", MIDWAY, x -> x.share(7, 2), BAD);
        refused("share(17, 1) of sixteen", x -> { }, x -> x.share(17, 1), BAD);
    }

    // ---- promise 17

    private static void evenImage() {
        under(17, "Whether the POSITION is its own image, columns turned from left to right: 1, 0.");
        int[][] boards = {{1, 1}, {1, 6}, {2, 6}, {7, 2}, {4, 4}, {3, 3}};
        for (int[] b : boards) {
            due("even() of an empty board " + Arrays.toString(b), on(b[0], b[1], 4, false).even(), 1);
        }
        due("even(), one column", made(game(1, 6, 2, false, 0, 0, 0)).even(), 1);
        due("even(), the middle of seven", made(game(7, 2, 3, false, 3, 3)).even(), 1);
        due("even(), the first of seven", made(game(7, 2, 3, false, 0)).even(), 0);
        due("even(), the last of seven", made(game(7, 2, 3, false, 6)).even(), 0);
        due("even(), men of both on the outer columns", made(game(7, 2, 3, false, 0, 6)).even(), 0);
        due("even(), a man of side 0 on each", made(game(7, 2, 3, false, 0, 3, 6)).even(), 1);
        due("even(), men of two sides beside the middle", made(game(4, 4, 3, false, 1, 2)).even(), 0);
        due("even(), four columns", made(game(4, 4, 3, false, 1, 0, 2, 3)).even(), 1);
        due("even(), an upper row is not", made(game(4, 4, 3, false, 1, 0, 2, 3, 3)).even(), 0);
        due("even(), the highest row is not", made(game(3, 2, 3, false, 0, 1, 2, 2, 0)).even(), 0);
        due("even(), the highest row too", made(game(3, 2, 3, false, 0, 1, 2, 2, 1, 0)).even(), 1);
        due("even(), joined columns are not moved round", made(game(3, 1, 3, true, 0)).even(), 0);
        due("even(), a full board", made(game(3, 1, 2, false, 0, 1, 2)).even(), 1);
        due("even(), won", made(game(3, 1, 2, false, 1, 0, 2)).even(), 0);
        DropRows x = made(game(7, 2, 3, false, 0));
        x.even();
        due("the game stays", x.at(0), 0);
    }
}
