import java.util.ArrayList;
import java.util.Arrays;
import java.util.List;
import java.util.function.Consumer;

/** Promises 1 to 8: a test for each sentence, at the edges that it names. */
public final class BoardAndGameTest extends Checks {
    public static void main(String[] args) {
        newBoard();
        newMoves();
        newSheets();
        boardToldAnew();
        boardBehindAnyOther();
        boardHasNoMoves();
        boardRows();
        boardBad();
        boardFull();
        dropSquare();
        dropBad();
        dropNot();
        backTaken();
        backBad();
        moveColumn();
        moveBad();
        atWho();
        atBad();
        gameSide();
        gameMoves();
        gameHowItIs();
        gameColumns();
        gameRows();
        gameBad();
        wonSquare();
        wonOfSeveral();
        wonBad();
        allNamed(1, 8);
        finish();
    }

    // ---- promise 1

    private static void newBoard() {
        under(1, "W 4, H 4, K 3, not JOINED;");
        int[] counts = {4, 4, 3, 0, 24, 16};
        for (int i = 0; i < counts.length; i++) {
            due("count(" + i + ")", new DropRows().count(i), counts[i]);
        }
        DropRows x = new DropRows();
        due("drop(4)", x.drop(4), BAD);
        for (int row = 0; row < 4; row++) {
            due("drop(3)", x.drop(3), 4 * row + 3);
        }
        due("drop(3) once more", x.drop(3), BAD);
        due("two in a row", playing(new DropRows(), 0, 1, 0).game(2), 0);
        due("three in a row", playing(new DropRows(), 0, 1, 0, 1, 0).game(2), 1);
        due("three around the edge", playing(new DropRows(), 2, 2, 3, 3, 0).game(2), 0);
    }

    private static void newMoves() {
        under(1, "no MOVES;");
        DropRows used = playing(new DropRows(), 1, 1, 2);
        DropRows x = new DropRows();
        due("game(0)", x.game(0), 0);
        due("game(1)", x.game(1), 0);
        due("game(2)", x.game(2), 0);
        due("move(0)", x.move(0), BAD);
        due("back(1)", x.back(1), BAD);
        due("back(0)", x.back(0), 0);
        for (int square = 0; square < 16; square++) {
            due("at(" + square + ")", x.at(square), NONE);
        }
        due("game(1) of another one", used.game(1), 3);
    }

    private static void newSheets() {
        under(1, "all SHEETS are LOST.");
        DropRows used = new DropRows();
        for (int s = 0; s < 4; s++) {
            used.sheet(s, 0, 0);
        }
        due("count(6)", new DropRows().count(6), 0);
        for (int s = 0; s < 4; s++) {
            due("lose(" + s + ")", new DropRows().lose(s), NULL);
            due("take(" + s + ", 0)", new DropRows().take(s, 0), NULL);
            due("write(" + s + ")", new DropRows().write(s), NULL);
            due("lose(" + s + ") of another one", used.lose(s), 0);
        }
    }

    // ---- promise 2

    private static void boardToldAnew() {
        under(2, "The BOARD and K are told anew;");
        int[][] boards = {{1, 1, 2}, {7, 2, 4}, {1, 6, 3}, {2, 6, 4}, {7, 1, 2}, {4, 4, 4}, {5, 3, 3}, {3, 5, 2}, {1, 1, 4}};
        DropRows x = new DropRows();
        for (int[] b : boards) {
            String name = Arrays.toString(b);
            boolean joined = b[2] == 4;
            due(name + " is taken", x.board(b[0], b[1], b[2], joined) >= 0 ? 1 : 0, 1);
            int[] counts = {b[0], b[1], b[2], joined ? 1 : 0};
            for (int i = 0; i < counts.length; i++) {
                due(name + " count(" + i + ")", x.count(i), counts[i]);
            }
            due(name + " squares", x.count(5), b[0] * b[1]);
            due(name + " the last square", x.at(b[0] * b[1] - 1), NONE);
            due(name + " no further square", x.at(b[0] * b[1]), BAD);
            due(name + " no further column", x.drop(b[0]), BAD);
            due(name + " the last column", x.drop(b[0] - 1), b[0] - 1);
        }
        x.board(3, 1, 3, false);
        due("two in a row, where three win", playing(x, 1, 0, 2).game(2), 2);
        x.board(3, 1, 2, false);
        due("two in a row, where two win", playing(x, 1, 0, 2).game(2), 1);
    }

    /** A game on each board, behind each other board, ends as on an object that was told no other. */
    private static void boardBehindAnyOther() {
        List<int[]> boards = new ArrayList<>();
        for (int squares = 1; squares <= 16; squares++) {
            for (int w = 1; w <= 7 && w <= squares; w++) {
                for (int k = 2; k <= 4 && squares % w == 0 && squares / w <= 6; k++) {
                    boards.add(new int[] {w, squares / w, k, 0});
                    boards.add(new int[] {w, squares / w, k, 1});
                }
            }
        }
        for (int i = 0; i < boards.size(); i++) {
            for (int j = 0; j < boards.size(); j++) {
                DropRows x = new DropRows();
                tell(x, boards.get(i));
                long got = endOfAGame(x, boards.get(j), i + 1);
                String name = Arrays.toString(boards.get(j)) + " behind " + Arrays.toString(boards.get(i));
                due(name, got, endOfAGame(new DropRows(), boards.get(j), i + 1));
            }
        }
    }

    private static int tell(DropRows x, int[] board) {
        return x.board(board[0], board[1], board[2], board[3] == 1);
    }

    // some game of the board, the same for the same seed, and what can be asked at its end as one number
    private static long endOfAGame(DropRows x, int[] board, int seed) {
        long told = tell(x, board);
        for (int i = 0, drawn = seed; i < 40; i++) {
            drawn = drawn * 1103515245 + 12345;
            x.drop((drawn >>> 16) % board[0]);
        }
        for (int i = 0; i < 4; i++) {
            told = told * 31 + x.won(i);
        }
        return (told * 31 + x.threats(0)) * 31 + x.threats(1) + x.digest();
    }

    private static void boardHasNoMoves() {
        under(2, "there are no MOVES:");
        DropRows x = playing(new DropRows(), 0, 1, 0, 1, 0);
        x.sheet(2, 1, 7);
        x.put(2, 1, 6, 5);
        x.lose(0);
        x.board(4, 4, 3, false);
        due("game(0) behind a won game", x.game(0), 0);
        due("game(1)", x.game(1), 0);
        due("game(2)", x.game(2), 0);
        due("move(0)", x.move(0), BAD);
        due("back(1)", x.back(1), BAD);
        for (int square = 0; square < 16; square++) {
            due("at(" + square + ")", x.at(square), NONE);
        }
        due("the sheet stays", x.get(2, 1, 6), 5);
        due("the finding stays", x.count(6), 1);
        DropRows full = playing(on(1, 2, 3, false), 0, 0);
        full.board(1, 2, 3, false);
        due("drop(0) behind a full board", full.drop(0), 0);
    }

    private static void boardRows() {
        under(2, "how many ROWS there are.");
        int[][] flat = {{1, 1, 2, 0}, {3, 3, 4, 0}, {7, 1, 4, 4}, {1, 6, 2, 5}, {1, 4, 4, 1}, {2, 3, 3, 2}, {4, 4, 4, 10},
            {4, 4, 2, 42}, {5, 3, 3, 20}, {7, 2, 3, 10}, {2, 6, 4, 6}};
        int[][] round = {{1, 1, 2, 0}, {3, 3, 4, 0}, {7, 1, 4, 7}, {1, 6, 2, 5}, {1, 4, 4, 1}, {2, 3, 3, 4}, {4, 4, 4, 16},
            {4, 4, 2, 52}, {5, 3, 3, 30}, {7, 2, 3, 14}, {2, 6, 4, 12}};
        for (int[] b : flat) {
            due("board " + Arrays.toString(b), new DropRows().board(b[0], b[1], b[2], false), b[3]);
        }
        for (int[] b : round) {
            due("joined board " + Arrays.toString(b), new DropRows().board(b[0], b[1], b[2], true), b[3]);
        }
    }

    private static void boardBad() {
        under(2, "BAD;");
        Consumer<DropRows> before = game(5, 2, 3, true, 4, 4, 1);
        for (int n : outside(1, 7)) {
            refused("board(" + n + ", 2, 3, false)", before, x -> x.board(n, 2, 3, false), BAD);
        }
        for (int n : outside(1, 6)) {
            refused("board(2, " + n + ", 3, false)", before, x -> x.board(2, n, 3, false), BAD);
        }
        for (int n : outside(2, 4)) {
            refused("board(4, 4, " + n + ", true)", before, x -> x.board(4, 4, n, true), BAD);
        }
        int[][] large = {{3, 6}, {4, 5}, {5, 4}, {6, 3}, {7, 3}, {7, 6}, {65536, 65536}, {-4, -4}, {-1, -1}, {0, 0}};
        for (int[] b : large) {
            refused("board " + Arrays.toString(b), before, x -> x.board(b[0], b[1], 4, false), BAD);
        }
    }

    private static void boardFull() {
        under(2, "FULL: 12 such calls went ahead.");
        DropRows x = new DropRows();
        for (int i = 0; i < 12; i++) {
            due("a board that is refused is none of them", x.board(5, 5, 2, false), BAD);
            due("board " + i, x.board(1, 2, 2, false), 1);
        }
        due("the next", x.board(1, 2, 2, false), FULL);
        due("and again", x.board(7, 2, 4, true), FULL);
        Consumer<DropRows> twelve = y -> {
            for (int i = 0; i < 12; i++) {
                y.board(4 - i % 3, 3, 3, false);
            }
            playing(y, 0, 1, 0);
        };
        refused("board(4, 4, 4, true)", twelve, y -> y.board(4, 4, 4, true), FULL);
        refused("board(0, 4, 4, true), bad and full", twelve, y -> y.board(0, 4, 4, true), BAD);
        due("the last of twelve is the board", made(twelve).count(0), 2);
    }

    // ---- promise 3

    private static void dropSquare() {
        under(3, "A MOVE into a column: the SQUARE.");
        DropRows high = on(2, 6, 4, false);
        for (int row = 0; row < 6; row++) {
            due("drop(1) of six rows", high.drop(1), 2 * row + 1);
        }
        DropRows wide = on(7, 2, 4, false);
        for (int column = 6; column >= 0; column--) {
            due("drop(" + column + ") of seven columns", wide.drop(column), column);
        }
        due("drop(6) above", wide.drop(6), 13);
        due("drop(0) of one square", on(1, 1, 2, true).drop(0), 0);
        DropRows full = on(4, 4, 4, false);
        int[] heights = new int[4];
        for (int column : SIXTEEN) {
            due("drop(" + column + ") of sixteen", full.drop(column), 4 * heights[column] + column);
            heights[column]++;
        }
    }

    private static void dropBad() {
        under(3, "BAD: the column, or it is full;");
        for (int column : outside(0, 3)) {
            refused("drop(" + column + ")", x -> playing(x, 0, 1), x -> x.drop(column), BAD);
        }
        refused("drop(2), a column of the board ahead", game(2, 2, 3, true), x -> x.drop(2), BAD);
        refused("drop(0), it is full", game(2, 2, 3, false, 0, 0), x -> x.drop(0), BAD);
        refused("drop(0), six stand there", game(2, 6, 4, false, 0, 0, 0, 0, 0, 0), x -> x.drop(0), BAD);
        refused("drop(3), the board is full", game(4, 4, 4, false, SIXTEEN), x -> x.drop(3), BAD);
        refused("drop(0), full, and the game is over", game(2, 3, 3, false, 0, 1, 0, 1, 0), x -> x.drop(0), BAD);
        refused("drop(2), none, and the game is over", game(2, 3, 3, false, 0, 1, 0, 1, 0), x -> x.drop(2), BAD);
    }

    private static void dropNot() {
        under(3, "NOT: the game is OVER.");
        refused("drop(1)", game(2, 3, 3, false, 0, 1, 0, 1, 0), x -> x.drop(1), NOT);
        refused("drop(1), won by side 1", game(3, 3, 3, false, 1, 0, 1, 0, 2, 0), x -> x.drop(1), NOT);
        DropRows x = playing(on(2, 3, 3, false), 0, 1, 0, 1, 0);
        x.back(1);
        due("drop(1), the win is taken back", x.drop(1), 5);
    }

    // ---- promise 4

    private static void backTaken() {
        under(4, "The latest n MOVES (0 to how many there are) are taken back: how many there are then.");
        DropRows x = playing(on(2, 3, 3, false), 0, 1, 0, 1, 0);
        due("back(0)", x.back(0), 5);
        due("game(2) as it was", x.game(2), 1);
        due("back(1)", x.back(1), 4);
        due("game(2) then", x.game(2), 0);
        due("game(0) then", x.game(0), 0);
        due("the man is gone", x.at(4), NONE);
        due("the one ahead stays", x.at(3), 1);
        due("move(3) stays", x.move(3), 1);
        due("move(4) is none", x.move(4), BAD);
        due("back(4), all", x.back(4), 0);
        due("no man stays", x.at(0), NONE);
        due("back(0) of none", x.back(0), 0);
        DropRows full = made(game(4, 4, 4, false, SIXTEEN));
        due("back(16)", full.back(16), 0);
        due("game(3) then", full.game(3), 4);
        due("drop(3) then", full.drop(3), 3);
        due("side 0 begins again", full.at(3), 0);
    }

    private static void backBad() {
        under(4, "BAD.");
        for (int n : outside(0, 3)) {
            refused("back(" + n + ") of three", x -> playing(x, 0, 1, 0), x -> x.back(n), BAD);
        }
        refused("back(1) of none", game(3, 3, 3, false), x -> x.back(1), BAD);
        refused("back(17) of sixteen", game(4, 4, 4, false, SIXTEEN), x -> x.back(17), BAD);
        refused("back(2), one is there since a new board", x -> {
            playing(x, 0, 1, 0);
            game(3, 3, 3, false, 2).accept(x);
        }, x -> x.back(2), BAD);
    }

    // ---- promises 5 and 6

    private static void moveColumn() {
        under(5, "The column of MOVE i (from 0).");
        DropRows x = made(game(4, 4, 4, false, SIXTEEN));
        for (int i = 0; i < 16; i++) {
            due("move(" + i + ")", x.move(i), SIXTEEN[i]);
        }
        x.back(14);
        playing(x, 3);
        due("move(1), as it was", x.move(1), 0);
        due("move(2), made anew", x.move(2), 3);
        due("move(0), of the greatest column", playing(on(7, 1, 3, false), 6).move(0), 6);
    }

    private static void moveBad() {
        under(5, "BAD.");
        for (int i : outside(0, 1)) {
            refused("move(" + i + ") of two", x -> playing(x, 3, 2), x -> x.move(i), BAD);
        }
        refused("move(0) of none", x -> { }, x -> x.move(0), BAD);
        refused("move(16) of sixteen", game(4, 4, 4, false, SIXTEEN), x -> x.move(16), BAD);
        refused("move(1), taken back", x -> playing(x, 3, 2).back(1), x -> x.move(1), BAD);
        refused("move(0), of the board ahead", x -> playing(x, 3).board(4, 4, 3, false), x -> x.move(0), BAD);
    }

    private static void atWho() {
        under(6, "Who stands on a SQUARE: 0, 1; NONE.");
        DropRows x = playing(on(3, 2, 3, false), 2, 0, 2);
        int[] men = {1, NONE, 0, NONE, NONE, 0};
        for (int square = 0; square < 6; square++) {
            due("at(" + square + ")", x.at(square), men[square]);
        }
        DropRows full = made(game(4, 4, 4, false, SIXTEEN));
        int[] all = {0, 0, 0, 1, 1, 1, 0, 1, 0, 0, 1, 0, 1, 1, 0, 1};
        for (int square = 0; square < 16; square++) {
            due("at(" + square + ") of sixteen", full.at(square), all[square]);
        }
    }

    private static void atBad() {
        under(6, "BAD.");
        for (int square : outside(0, 15)) {
            refused("at(" + square + ")", x -> playing(x, 0, 1), x -> x.at(square), BAD);
        }
        for (int square : outside(0, 5)) {
            refused("at(" + square + ") of six", game(3, 2, 3, false, 0, 1), x -> x.at(square), BAD);
        }
        refused("at(1) of one", game(1, 1, 2, true, 0), x -> x.at(1), BAD);
        refused("at(15), of the board ahead", game(5, 3, 3, true, 0), x -> x.at(15), BAD);
    }

    // ---- promise 7

    private static void gameSide() {
        under(7, "0 the SIDE to move (also when it is OVER),");
        DropRows x = on(2, 3, 3, false);
        due("game(0) at first", x.game(0), 0);
        due("game(0) behind one", playing(x, 0).game(0), 1);
        due("game(0) behind two", playing(x, 1).game(0), 0);
        due("game(0), won by side 0", playing(x, 0, 1, 0).game(0), 1);
        due("game(0), won by side 1", playing(on(3, 3, 3, false), 1, 0, 1, 0, 2, 0).game(0), 0);
        due("game(0), a full board of three", playing(on(3, 1, 3, false), 0, 1, 2).game(0), 1);
        due("game(0), a full board of two", playing(on(2, 1, 3, false), 0, 1).game(0), 0);
    }

    private static void gameMoves() {
        under(7, "1 MOVES,");
        DropRows x = on(4, 4, 4, false);
        for (int i = 0; i < 16; i++) {
            due("game(1)", x.game(1), i);
            x.drop(SIXTEEN[i]);
        }
        due("game(1) of all", x.game(1), 16);
        x.back(3);
        due("game(1), three taken back", x.game(1), 13);
    }

    private static void gameHowItIs() {
        under(7, "2 how it is: 0 it goes on, 1 the one who moved last has WON, 2 DRAWN,");
        DropRows x = on(3, 1, 2, false);
        due("game(2) at first", x.game(2), 0);
        due("game(2), one square empty", playing(x, 1, 0).game(2), 0);
        due("game(2), won with the last square", playing(x, 2).game(2), 1);
        due("game(2), full", playing(on(3, 1, 2, false), 0, 1, 2).game(2), 2);
        due("game(2), won by side 1", playing(on(3, 3, 3, false), 1, 0, 1, 0, 2, 0).game(2), 1);
        due("game(2), one square and no row", playing(on(1, 1, 2, true), 0).game(2), 2);
        DropRows full = on(4, 4, 4, false);
        for (int i = 0; i < 16; i++) {
            due("game(2) with " + i, full.game(2), 0);
            full.drop(SIXTEEN[i]);
        }
        due("game(2) with sixteen", full.game(2), 2);
        full.back(1);
        due("game(2), one taken back", full.game(2), 0);
    }

    private static void gameColumns() {
        under(7, "3 columns that are not full,");
        DropRows x = on(3, 2, 3, false);
        due("game(3) at first", x.game(3), 3);
        due("game(3), one square of a column empty", playing(x, 1).game(3), 3);
        due("game(3), a column full", playing(x, 1).game(3), 2);
        due("game(3), all full", playing(x, 0, 2, 0, 2).game(3), 0);
        due("game(3) of seven", on(7, 2, 3, false).game(3), 7);
        due("game(3), won", playing(on(2, 3, 3, false), 0, 1, 0, 1, 0).game(3), 1);
    }

    private static void gameRows() {
        under(7, "4 how many ROWS each SIDE could still have (no man of the other one on it), both together.");
        DropRows x = on(3, 1, 2, false);
        due("game(4), all of both", x.game(4), 4);
        due("game(4), both rows side 0's, one side 1's", playing(x, 0).game(4), 3);
        due("game(4), a row with men of both is nobody's", playing(x, 1).game(4), 1);
        due("game(4), none", playing(x, 2).game(4), 0);
        due("game(4), the row that is won counts", playing(on(3, 1, 2, false), 1, 0, 2).game(4), 1);
        due("game(4), no row at all", on(1, 1, 2, true).game(4), 0);
        due("game(4), a row around counts once", on(4, 1, 4, true).game(4), 2);
    }

    private static void gameBad() {
        under(7, "BAD.");
        for (int what : outside(0, 4)) {
            refused("game(" + what + ")", x -> playing(x, 0, 1), x -> x.game(what), BAD);
        }
    }

    // ---- promise 8

    private static void wonSquare() {
        under(8, "The i-th SQUARE, the least first, of the ROW that was won");
        each("two: won", playing(on(3, 1, 2, false), 1, 0, 2)::won, 1, 2);
        each("three of side 1: won", playing(on(3, 3, 3, false), 1, 0, 1, 0, 2, 0)::won, 0, 3, 6);
        each("four up: won", playing(on(2, 4, 4, false), 1, 0, 1, 0, 1, 0, 1)::won, 1, 3, 5, 7);
        each("back and up: won", playing(on(2, 2, 2, false), 1, 0, 0)::won, 1, 2);
        each("around: won", playing(on(5, 2, 3, true), 4, 4, 3, 3, 0)::won, 0, 3, 4);
        each("around, of the upper squares: won", playing(on(7, 2, 3, true), 5, 6, 5, 0, 6, 3, 0)::won, 7, 12, 13);
    }

    private static void wonOfSeveral() {
        under(8, "(of several: at the first place at which their SQUARES, the least first, part, the lesser one).");
        each("012 and 123: won", playing(on(4, 2, 3, false), 0, 0, 1, 1, 3, 3, 2)::won, 0, 1, 2);
        each("036 and 246: won", playing(on(3, 3, 3, false), 0, 1, 1, 1, 2, 2, 0, 2, 0)::won, 0, 3, 6);
        each("048 and 678: won", playing(on(3, 3, 3, false), 0, 0, 0, 1, 1, 2, 1, 2, 2)::won, 0, 4, 8);
        each("0 5 10 and 2 5 8: won", playing(on(4, 3, 3, false), 0, 0, 0, 1, 2, 2, 2, 3, 1)::won, 0, 5, 10);
        each("1 2 3 and 1 6 11: won", playing(on(4, 3, 3, false), 2, 0, 2, 0, 3, 3, 3, 2, 1)::won, 1, 2, 3);
        each("2 5 8 and 2 7 8: won", playing(on(4, 3, 3, true), 0, 0, 2, 1, 1, 3, 3, 2, 0)::won, 2, 5, 8);
        each("024 and 034: won", playing(on(2, 6, 3, true), 0, 1, 1, 1, 0, 1, 0)::won, 0, 2, 4);
        each("125 and 135: won", playing(on(2, 6, 3, true), 1, 0, 0, 0, 1, 0, 1)::won, 1, 2, 5);
        each("0 1 2 and 0 1 4: won", playing(on(5, 2, 3, true), 0, 0, 2, 2, 4, 3, 1)::won, 0, 1, 2);
        each("016, 056 and 456: won", playing(on(7, 2, 3, true), 0, 0, 1, 1, 4, 2, 5, 3, 6)::won, 0, 1, 6);
        each("0126 and 0156: won", playing(on(7, 2, 4, true), 0, 0, 1, 1, 2, 2, 5, 3, 6)::won, 0, 1, 2, 6);
        each("0123, 0126 and 0156: won", playing(on(7, 2, 4, true), 0, 0, 2, 2, 3, 3, 5, 4, 6, 4, 1)::won, 0, 1, 2, 3);
    }

    private static void wonBad() {
        under(8, "BAD: also if none was.");
        Consumer<DropRows> over = game(3, 3, 3, false, 1, 0, 1, 0, 2, 0);
        for (int i : outside(0, 2)) {
            refused("won(" + i + ")", over, x -> x.won(i), BAD);
        }
        refused("won(2) of two", game(3, 1, 2, false, 1, 0, 2), x -> x.won(2), BAD);
        refused("won(4) of four", game(2, 4, 4, false, 1, 0, 1, 0, 1, 0, 1), x -> x.won(4), BAD);
        refused("won(0) at first", x -> { }, x -> x.won(0), BAD);
        refused("won(0), it goes on", game(3, 3, 3, false, 1, 0, 1, 0, 2), x -> x.won(0), BAD);
        refused("won(0), drawn", game(3, 1, 2, false, 0, 1, 2), x -> x.won(0), BAD);
        refused("won(0), taken back", over.andThen(x -> x.back(1)), x -> x.won(0), BAD);
        refused("won(0), a new board", over.andThen(x -> x.board(3, 3, 3, false)), x -> x.won(0), BAD);
    }
}
