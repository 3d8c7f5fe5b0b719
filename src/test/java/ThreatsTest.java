import java.util.Arrays;
import java.util.function.Consumer;

/** Promises 18 to 20: a test for each sentence, at the edges that it names. */
public final class ThreatsTest extends Checks {
    private static final Consumer<DropRows> TWO_OF_SIDE_1 = game(4, 4, 3, false, 0, 0, 1, 2, 3, 1);

    public static void main(String[] args) {
        threatsMany();
        threatsBad();
        threatSquares();
        threatBad();
        waitingEnds();
        waitingStays();
        waitingNot();
        allNamed(18, 20);
        finish();
    }

    // ---- promises 18 and 19

    private static void threatsMany() {
        under(18, "How many THREATS a SIDE has.");
        due("threats(0) of an empty board", new DropRows().threats(0), 0);
        due("threats(1) of an empty board", new DropRows().threats(1), 0);
        due("threats(0), none", made(TWO_OF_SIDE_1).threats(0), 0);
        due("threats(1), two", made(TWO_OF_SIDE_1).threats(1), 2);
        due("threats(0) of the middle of three", made(game(3, 1, 2, false, 1)).threats(0), 2);
        due("threats(0), one of them is taken", made(game(3, 1, 2, false, 1, 0)).threats(0), 1);
        due("threats(0), a full board", made(game(3, 1, 2, false, 0, 1, 2)).threats(0), 0);
        due("threats(1), a full board", made(game(3, 1, 2, false, 0, 1, 2)).threats(1), 0);
        due("threats(0), no row can be", made(game(1, 1, 2, true)).threats(0), 0);
        due("threats(0), all round one man", made(game(5, 3, 2, false, 2)).threats(0), 5);
        due("threats(0), who has won would have a row with any", made(game(3, 2, 2, false, 0, 2, 1)).threats(0), 3);
        due("threats(0), one that is beside none of its men too", made(game(5, 1, 2, false, 0, 2, 1)).threats(0), 2);
        due("threats(1), who has lost", made(game(3, 2, 2, false, 0, 2, 1)).threats(1), 2);
    }

    private static void threatsBad() {
        under(18, "BAD.");
        for (int side : outside(0, 1)) {
            refused("threats(" + side + ")", TWO_OF_SIDE_1, x -> x.threats(side), BAD);
        }
        refused("threats(2), over", game(3, 1, 2, false, 1, 0, 2), x -> x.threats(2), BAD);
    }

    private static void squares(String what, DropRows x, int side, int... squares) {
        each(what + ": threat of side " + side, k -> x.threat(side, k), squares);
    }

    private static void threatSquares() {
        under(19, "The k-th of these SQUARES, the least first.");
        squares("two of side 1", made(TWO_OF_SIDE_1), 1, 6, 8);
        squares("none of side 0", made(TWO_OF_SIDE_1), 0);
        squares("the least square", made(game(3, 1, 2, false, 1)), 0, 0, 2);
        squares("the least square alone", made(game(3, 1, 2, false, 1, 2)), 0, 0);
        squares("the greatest square", made(game(4, 4, 3, false, 3, 3, 0, 3)), 1, 15);
        squares("a square of both, side 0", made(game(3, 1, 2, false, 0, 2)), 0, 1);
        squares("a square of both, side 1", made(game(3, 1, 2, false, 0, 2)), 1, 1);
        squares("a square that no man can come to yet", made(game(3, 3, 3, false, 0, 1, 1)), 0, 8);
        squares("around", made(game(5, 1, 3, true, 4, 2, 0)), 0, 1, 3);
        squares("many", made(game(5, 3, 2, false, 2)), 0, 1, 3, 6, 7, 8);
        squares("all that are empty, who has won", made(game(3, 2, 2, false, 0, 2, 1)), 0, 3, 4, 5);
    }

    private static void threatBad() {
        under(19, "BAD.");
        for (int k : outside(0, 1)) {
            refused("threat(1, " + k + ")", TWO_OF_SIDE_1, x -> x.threat(1, k), BAD);
        }
        for (int side : outside(0, 1)) {
            refused("threat(" + side + ", 0)", TWO_OF_SIDE_1, x -> x.threat(side, 0), BAD);
        }
        refused("threat(0, 0) of none", TWO_OF_SIDE_1, x -> x.threat(0, 0), BAD);
        refused("threat(0, 0) of an empty board", x -> { }, x -> x.threat(0, 0), BAD);
        refused("threat(0, 0) of a full board", game(3, 1, 2, false, 0, 1, 2), x -> x.threat(0, 0), BAD);
    }

    // ---- promise 20

    private static void waitingEnds() {
        under(20, "WAITING: how it ends: 1 SIDE 0 has WON, -1 SIDE 1, 0 DRAWN");
        due("waiting(), side 0 wins at once", made(game(3, 1, 2, false, 1, 0)).waiting(), 1);
        due("waiting(), side 0 wins, side 1 is to move", made(game(3, 1, 2, false, 1)).waiting(), 1);
        due("waiting(), side 1 wins at once", made(game(3, 3, 3, false, 1, 0, 1, 0, 2)).waiting(), -1);
        due("waiting(), side 1 wins, side 0 is to move", new DropRows().waiting(), -1);
        due("waiting(), drawn with the last square", made(game(3, 1, 2, false, 0, 1)).waiting(), 0);
        due("waiting(), drawn", on(3, 1, 2, false).waiting(), 0);
        due("waiting(), sixteen moves, drawn", on(4, 4, 4, true).waiting(), 0);
        due("waiting(), one square", on(1, 1, 2, true).waiting(), 0);
        due("waiting(), one square of sixteen", made(game(4, 4, 4, false, Arrays.copyOf(SIXTEEN, 15))).waiting(), 0);
        DropRows x = on(3, 1, 2, false);
        due("waiting()", x.waiting(), 0);
        due("waiting() behind a move", playing(x, 1).waiting(), 1);
        x.back(1);
        due("waiting(), the move is taken back", x.waiting(), 0);
        x.board(2, 3, 2, false);
        due("waiting() of a new board", x.waiting(), 1);
    }

    private static void waitingStays() {
        under(20, "(the game stays as it is).");
        stays("waiting()", game(3, 1, 2, false, 1), DropRows::waiting, 1, 0);
        stays("waiting() at first", x -> { }, DropRows::waiting, -1, 0);
        stays("waiting(), one square of sixteen", game(4, 4, 4, false, Arrays.copyOf(SIXTEEN, 15)), DropRows::waiting, 0, 0);
        Consumer<DropRows> taken = game(3, 1, 2, false, 0).andThen(x -> {
            x.sheet(0, 0, 1);
            x.put(0, 0, 0, 1);
            x.take(0, 1);
        });
        stays("waiting() of a game that was taken from a sheet", taken, DropRows::waiting, 1, 0);
        DropRows x = made(game(3, 3, 3, false, 1, 0, 1, 0, 2));
        due("waiting()", x.waiting(), -1);
        due("waiting() again", x.waiting(), -1);
        due("worth() then", x.worth(), 99);
        due("drop(0) then", x.drop(0), 6);
    }

    private static void waitingNot() {
        under(20, "NOT: it is OVER.");
        refused("waiting(), won by side 0", game(2, 3, 3, false, 0, 1, 0, 1, 0), DropRows::waiting, NOT);
        refused("waiting(), won by side 1", game(3, 3, 3, false, 1, 0, 1, 0, 2, 0), DropRows::waiting, NOT);
        refused("waiting(), won with the last square", game(3, 1, 2, false, 1, 0, 2), DropRows::waiting, NOT);
        refused("waiting(), drawn", game(4, 4, 4, false, SIXTEEN), DropRows::waiting, NOT);
    }
}
