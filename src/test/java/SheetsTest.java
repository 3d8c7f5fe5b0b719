import java.math.BigInteger;
import java.util.Arrays;
import java.util.function.Consumer;

/** Promises 21 to 29: a test for each sentence, at the edges that it names. */
public final class SheetsTest extends Checks {
    /** Sheet 0: six bytes, 1 three bytes, 2 six shorts, 3 lost; the latest finding is SIZE. */
    private static final Consumer<DropRows> SHEETS = x -> {
        fill(x, 0, 0, 1, 2, 3, 4, 5, 6);
        fill(x, 1, 0, 7, 8, 9);
        fill(x, 2, 1, 10, 11, 12, 13, 14, 15);
        playing(x, 3, 3);
        x.sheet(3, 0, -1);
    };

    public static void main(String[] args) {
        sheetNew();
        sheetBad();
        sheetSize();
        loseIt();
        loseBad();
        loseNull();
        putLowestBits();
        putBad();
        putNull();
        putCast();
        putIndex();
        getItem();
        getBad();
        getFindings();
        copyItems();
        copyBad();
        copyNull();
        copyStore();
        copyIndex();
        takeMoves();
        takeBad();
        takeNull();
        takeIndex();
        takeNoMove();
        writeMoves();
        writeBad();
        writeNull();
        writeIndex();
        countBoard();
        countFinding();
        countBad();
        digestParts();
        digestWraps();
        allNamed(21, 29);
        finish();
    }

    private static void fill(DropRows x, int s, int form, int... items) {
        x.sheet(s, form, items.length);
        for (int i = 0; i < items.length; i++) {
            x.put(s, form, i, items[i]);
        }
    }

    private static void items(String what, DropRows x, int s, int form, int... want) {
        for (int i = 0; i < want.length; i++) {
            due(what + ": get(" + s + ", " + form + ", " + i + ")", x.get(s, form, i), want[i]);
        }
        due(what + ": no further item", x.put(s, form, want.length, 0), INDEX);
    }

    // ---- promises 21 and 22

    private static void sheetNew() {
        under(21, "A SHEET is a new row of a FORM with n items: n.");
        int[] sizes = {0, 1, 20};
        for (int s = 0; s < 4; s++) {
            for (int form = 0; form < 3; form++) {
                for (int n : sizes) {
                    DropRows x = made(SHEETS);
                    String call = "sheet(" + s + ", " + form + ", " + n + ")";
                    due(call, x.sheet(s, form, n), n);
                    items(call, x, s, form, new int[n]);
                    due(call + ": another form", x.put(s, (form + 1) % 3, 0, 0), CAST);
                }
            }
        }
        DropRows x = made(SHEETS);
        x.sheet(1, 0, 20);
        items("others stay", x, 0, 0, 1, 2, 3, 4, 5, 6);
        fill(x, 1, 0, 1, 1, 1, 1, 1);
        x.sheet(1, 0, 1);
        x.sheet(1, 0, 5);
        items("nothing is left of the row ahead", x, 1, 0, 0, 0, 0, 0, 0);
        fill(x, 1, 0, 1, 1);
        x.lose(1);
        x.sheet(1, 0, 2);
        items("nor of one that was lost", x, 1, 0, 0, 0);
    }

    private static void sheetBad() {
        under(21, "BAD: SHEET, FORM, above 20;");
        for (int s : outside(0, 3)) {
            refused("sheet(" + s + ", 0, 1)", SHEETS, x -> x.sheet(s, 0, 1), BAD);
        }
        for (int form : outside(0, 2)) {
            refused("sheet(0, " + form + ", 1)", SHEETS, x -> x.sheet(0, form, 1), BAD);
        }
        int[] large = {21, 22, 256, 65536, GREATEST};
        for (int n : large) {
            refused("sheet(0, 0, " + n + ")", SHEETS, x -> x.sheet(0, 0, n), BAD);
        }
        refused("sheet(4, 0, -1), bad ahead of SIZE", SHEETS, x -> x.sheet(4, 0, -1), BAD);
        refused("sheet(0, 3, -1), bad ahead of SIZE", SHEETS, x -> x.sheet(0, 3, -1), BAD);
    }

    private static void sheetSize() {
        under(21, "SIZE.");
        int[] below = {-1, -2, -20, -256, LEAST, -GREATEST};
        for (int n : below) {
            refused("sheet(0, 0, " + n + ")", SHEETS.andThen(x -> x.lose(3)), x -> x.sheet(0, 0, n), SIZE);
            refused("sheet(3, 2, " + n + ") of one that is lost", SHEETS, x -> x.sheet(3, 2, n), SIZE);
        }
    }

    private static void loseIt() {
        under(22, "It is LOST: how many items it had.");
        DropRows x = made(SHEETS);
        due("lose(0)", x.lose(0), 6);
        due("lose(0) again", x.lose(0), NULL);
        due("write(0)", x.write(0), NULL);
        items("others stay", x, 1, 0, 7, 8, 9);
        x.sheet(3, 2, 20);
        due("lose(3) of twenty", x.lose(3), 20);
        x.sheet(3, 2, 0);
        due("lose(3) of none", x.lose(3), 0);
        due("the game stays", x.game(1), 2);
        due("sheet(0, 1, 4) behind it", x.sheet(0, 1, 4), 4);
    }

    private static void loseBad() {
        under(22, "BAD;");
        for (int s : outside(0, 3)) {
            refused("lose(" + s + ")", SHEETS, x -> x.lose(s), BAD);
        }
    }

    private static void loseNull() {
        under(22, "NULL.");
        refused("lose(3)", SHEETS, x -> x.lose(3), NULL);
        refused("lose(0), lost ahead", SHEETS.andThen(x -> x.lose(0)), x -> x.lose(0), NULL);
    }

    // ---- promises 23 and 24

    private static void putLowestBits() {
        under(23, "Item i, treated as of a FORM, becomes v (the lowest bits that it has): 1.");
        int[] given = {0, 127, 128, 255, 256, -128, -129, 32767, 32768, 65535, 65536, -32768, -32769, GREATEST, LEAST, -1};
        int[] bytes = {0, 127, -128, -1, 0, -128, 127, -1, 0, -1, 0, 0, -1, -1, 0, -1};
        int[] shorts = {0, 127, 128, 255, 256, -128, -129, 32767, -32768, -1, 0, -32768, 32767, -1, 0, -1};
        int[][] kept = {bytes, shorts, given};
        for (int form = 0; form < 3; form++) {
            DropRows x = new DropRows();
            x.sheet(1, form, 20);
            for (int i = 0; i < given.length; i++) {
                due("put(1, " + form + ", " + i + ", " + given[i] + ")", x.put(1, form, i, given[i]), 1);
                due("get(1, " + form + ", " + i + ")", x.get(1, form, i), kept[form][i]);
            }
            due("the last item", x.put(1, form, 19, 3), 1);
            due("the one ahead of it stays", x.get(1, form, 18), 0);
            due("the last item then", x.get(1, form, 19), 3);
            due("the first one stays", x.get(1, form, 0), 0);
        }
    }

    private static void putBad() {
        under(23, "BAD;");
        for (int s : outside(0, 3)) {
            refused("put(" + s + ", 0, 0, 5)", SHEETS, x -> x.put(s, 0, 0, 5), BAD);
        }
        for (int form : outside(0, 2)) {
            refused("put(0, " + form + ", 0, 5)", SHEETS, x -> x.put(0, form, 0, 5), BAD);
        }
        refused("put(3, 3, 0, 5), bad ahead of NULL", SHEETS, x -> x.put(3, 3, 0, 5), BAD);
        refused("put(0, -1, 9, 5), bad ahead of CAST and INDEX", SHEETS, x -> x.put(0, -1, 9, 5), BAD);
    }

    private static void putNull() {
        under(23, "NULL;");
        refused("put(3, 0, 0, 5)", SHEETS, x -> x.put(3, 0, 0, 5), NULL);
        refused("put(3, 2, 99, 5), NULL ahead of INDEX", SHEETS, x -> x.put(3, 2, 99, 5), NULL);
        refused("put(0, 1, 0, 5), NULL ahead of CAST", SHEETS.andThen(x -> x.lose(0)), x -> x.put(0, 1, 0, 5), NULL);
    }

    private static void putCast() {
        under(23, "CAST;");
        refused("put(0, 1, 0, 5)", SHEETS, x -> x.put(0, 1, 0, 5), CAST);
        refused("put(0, 2, 0, 5)", SHEETS, x -> x.put(0, 2, 0, 5), CAST);
        refused("put(2, 0, 0, 5)", SHEETS, x -> x.put(2, 0, 0, 5), CAST);
        refused("put(2, 2, 6, 5), CAST ahead of INDEX", SHEETS, x -> x.put(2, 2, 6, 5), CAST);
        refused("put(3, 0, 0, 5) of ints", SHEETS.andThen(x -> x.sheet(3, 2, 1)), x -> x.put(3, 0, 0, 5), CAST);
        refused("put(3, 0, 0, 5) of no ints", SHEETS.andThen(x -> x.sheet(3, 2, 0)), x -> x.put(3, 0, 0, 5), CAST);
    }

    private static void putIndex() {
        under(23, "INDEX.");
        for (int i : outside(0, 5)) {
            refused("put(0, 0, " + i + ", 5)", SHEETS, x -> x.put(0, 0, i, 5), INDEX);
        }
        refused("put(3, 1, 0, 5) of no items", SHEETS.andThen(x -> x.sheet(3, 1, 0)), x -> x.put(3, 1, 0, 5), INDEX);
        refused("put(3, 1, 20, 5) of twenty", SHEETS.andThen(x -> x.sheet(3, 1, 20)), x -> x.put(3, 1, 20, 5), INDEX);
    }

    private static void getItem() {
        under(24, "Item i of it.");
        DropRows x = made(SHEETS);
        due("get(0, 0, 0)", x.get(0, 0, 0), 1);
        due("get(0, 0, 5), the last", x.get(0, 0, 5), 6);
        due("get(2, 1, 5), the last", x.get(2, 1, 5), 15);
        stays("get(1, 0, 1)", SHEETS, y -> y.get(1, 0, 1), 8, 5);
        fill(x, 3, 2, LEAST, GREATEST);
        due("get(3, 2, 0), the least int itself", x.get(3, 2, 0), LEAST);
        due("get(3, 2, 1), the greatest", x.get(3, 2, 1), GREATEST);
        due("count(6), no finding", x.count(6), 5);
    }

    private static void getBad() {
        under(24, "BAD: the least int;");
        for (int s : outside(0, 3)) {
            stays("get(" + s + ", 0, 0)", SHEETS, x -> x.get(s, 0, 0), LEAST, 5);
        }
        for (int form : outside(0, 2)) {
            stays("get(0, " + form + ", 0)", SHEETS, x -> x.get(0, form, 0), LEAST, 5);
        }
        stays("get(3, 3, 0), bad ahead of NULL", SHEETS, x -> x.get(3, 3, 0), LEAST, 5);
        stays("get(0, -1, 9), bad ahead of CAST and INDEX", SHEETS, x -> x.get(0, -1, 9), LEAST, 5);
    }

    private static void getFindings() {
        under(24, "so are NULL, CAST, INDEX (count() 6 tells).");
        stays("get(3, 0, 0), NULL", SHEETS, x -> x.get(3, 0, 0), LEAST, 1);
        stays("get(3, 2, 99), NULL ahead of INDEX", SHEETS, x -> x.get(3, 2, 99), LEAST, 1);
        stays("get(0, 1, 0), CAST", SHEETS, x -> x.get(0, 1, 0), LEAST, 3);
        stays("get(2, 0, 6), CAST ahead of INDEX", SHEETS, x -> x.get(2, 0, 6), LEAST, 3);
        for (int i : outside(0, 5)) {
            stays("get(0, 0, " + i + "), INDEX", SHEETS, x -> x.get(0, 0, i), LEAST, 2);
        }
        stays("get(3, 1, 0) of no items, INDEX", SHEETS.andThen(x -> x.sheet(3, 1, 0)), x -> x.get(3, 1, 0), LEAST, 2);
        stays("get(3, 1, 20) of twenty, INDEX", SHEETS.andThen(x -> x.sheet(3, 1, 20)), x -> x.get(3, 1, 20), LEAST, 2);
    }

    // ---- promise 25

    private static void copyItems() {
        under(25, "n items of SHEET s, from i on, come to SHEET t (perhaps s, as they were), from j on: 1.");
        DropRows x = made(SHEETS);
        due("copy(0, 3, 1, 0, 3), up to both ends", x.copy(0, 3, 1, 0, 3), 1);
        items("to another", x, 1, 0, 4, 5, 6);
        items("from there", x, 0, 0, 1, 2, 3, 4, 5, 6);
        x = made(SHEETS);
        due("copy(1, 0, 0, 2, 2)", x.copy(1, 0, 0, 2, 2), 1);
        items("two alone", x, 0, 0, 1, 2, 7, 8, 5, 6);
        x = made(SHEETS);
        due("copy(0, 0, 0, 1, 5), onward over itself", x.copy(0, 0, 0, 1, 5), 1);
        items("as they were", x, 0, 0, 1, 1, 2, 3, 4, 5);
        x = made(SHEETS);
        due("copy(0, 1, 0, 0, 5), backward over itself", x.copy(0, 1, 0, 0, 5), 1);
        items("as they were, backward", x, 0, 0, 2, 3, 4, 5, 6, 6);
        stays("copy(0, 0, 0, 0, 6), all to where they are", SHEETS, y -> y.copy(0, 0, 0, 0, 6), 1, 5);
        stays("copy(0, 0, 1, 0, 0), none", SHEETS, y -> y.copy(0, 0, 1, 0, 0), 1, 5);
        stays("copy(0, 6, 1, 3, 0), none from the end", SHEETS, y -> y.copy(0, 6, 1, 3, 0), 1, 5);
        Consumer<DropRows> empty = SHEETS.andThen(y -> y.sheet(3, 0, 0));
        stays("copy(3, 0, 3, 0, 0), none of none", empty, y -> y.copy(3, 0, 3, 0, 0), 1, 5);
    }

    private static void copyBad() {
        under(25, "BAD: the SHEETS;");
        for (int s : outside(0, 3)) {
            refused("copy(" + s + ", 0, 0, 0, 1)", SHEETS, x -> x.copy(s, 0, 0, 0, 1), BAD);
            refused("copy(0, 0, " + s + ", 0, 1)", SHEETS, x -> x.copy(0, 0, s, 0, 1), BAD);
        }
        refused("copy(3, 0, 4, 0, 1), bad ahead of NULL", SHEETS, x -> x.copy(3, 0, 4, 0, 1), BAD);
        refused("copy(4, -1, 2, -1, -1), bad ahead of INDEX", SHEETS, x -> x.copy(4, -1, 2, -1, -1), BAD);
    }

    private static void copyNull() {
        under(25, "NULL: s, t;");
        refused("copy(3, 0, 0, 0, 1)", SHEETS, x -> x.copy(3, 0, 0, 0, 1), NULL);
        refused("copy(0, 0, 3, 0, 1)", SHEETS, x -> x.copy(0, 0, 3, 0, 1), NULL);
        refused("copy(3, 0, 3, 0, 0)", SHEETS, x -> x.copy(3, 0, 3, 0, 0), NULL);
        refused("copy(2, -1, 3, 0, 1), NULL ahead of STORE and INDEX", SHEETS, x -> x.copy(2, -1, 3, 0, 1), NULL);
        refused("copy(3, 0, 2, 0, -1), NULL ahead of STORE and INDEX", SHEETS, x -> x.copy(3, 0, 2, 0, -1), NULL);
    }

    private static void copyStore() {
        under(25, "STORE;");
        refused("copy(0, 0, 2, 0, 1)", SHEETS, x -> x.copy(0, 0, 2, 0, 1), STORE);
        refused("copy(2, 0, 0, 0, 1)", SHEETS, x -> x.copy(2, 0, 0, 0, 1), STORE);
        refused("copy(2, 0, 0, 0, 0), no items", SHEETS, x -> x.copy(2, 0, 0, 0, 0), STORE);
        refused("copy(2, -1, 0, 0, 1), STORE ahead of INDEX", SHEETS, x -> x.copy(2, -1, 0, 0, 1), STORE);
        Consumer<DropRows> ints = SHEETS.andThen(x -> x.sheet(3, 2, 6));
        refused("copy(3, 0, 2, 0, 1), ints to shorts", ints, x -> x.copy(3, 0, 2, 0, 1), STORE);
    }

    private static void copyIndex() {
        under(25, "INDEX: below 0, not so many.");
        int[][] calls = {{0, -1, 1, 0, 1}, {0, 0, 1, -1, 1}, {0, 0, 1, 0, -1}, {0, -1, 1, 0, 0}, {0, 0, 1, -1, 0},
            {0, 0, 1, 0, 4}, {1, 0, 0, 0, 4}, {0, 6, 1, 0, 1}, {0, 7, 1, 0, 0}, {0, 0, 1, 4, 0}, {0, 5, 1, 0, 2}, {0, 0, 1, 2, 2},
            {0, 0, 0, 1, 6}, {0, 1, 0, 0, 6}, {0, 0, 0, 0, 7}, {0, 1, 1, 0, GREATEST}, {0, GREATEST, 1, 0, 1},
            {0, 0, 1, GREATEST, 1}, {0, GREATEST, 1, GREATEST, GREATEST}, {0, LEAST, 1, 0, LEAST}, {0, 0, 1, LEAST, LEAST},
            {0, 0, 1, 0, LEAST}, {0, LEAST, 1, 0, 0}, {0, 2, 1, 2, -2}};
        for (int[] c : calls) {
            refused("copy " + Arrays.toString(c), SHEETS, x -> x.copy(c[0], c[1], c[2], c[3], c[4]), INDEX);
        }
    }

    // ---- promise 26

    private static void taken(String what, DropRows x, int state, int... columns) {
        due(what, x.take(0, columns.length), state);
        due(what + ": game(2)", x.game(2), state);
        due(what + ": game(1)", x.game(1), columns.length);
        for (int i = 0; i < columns.length; i++) {
            due(what + ": move(" + i + ")", x.move(i), columns[i]);
        }
    }

    private static void takeMoves() {
        under(26, "The first n items (0 to 16) of a SHEET are the game's MOVES, one behind the other: "
                + "how it is then (as game() 2).");
        for (int form = 0; form < 3; form++) {
            DropRows x = made(game(3, 3, 3, false, 2, 2));
            fill(x, 0, form, 1, 0, 1, 0, 1, 2, 9);
            taken("it goes on", x, 0, 1, 0, 1, 0);
            due("the men ahead are gone", x.at(2), NONE);
            due("the latest man", x.at(3), 1);
            taken("won", x, 1, 1, 0, 1, 0, 1);
            due("its row", x.won(2), 7);
            taken("the same behind the end of a game", x, 0, 1, 0, 1);
            taken("no moves", x, 0);
            due("no man", x.at(1), NONE);
        }
        DropRows full = on(4, 4, 4, false);
        fill(full, 0, 0, SIXTEEN);
        taken("sixteen", full, 2, SIXTEEN);
        full.sheet(0, 0, 0);
        taken("none of no items", full, 0);
    }

    private static void takeBad() {
        under(26, "BAD: the SHEET, n;");
        for (int s : outside(0, 3)) {
            refused("take(" + s + ", 1)", SHEETS, x -> x.take(s, 1), BAD);
        }
        for (int n : outside(0, 16)) {
            refused("take(0, " + n + ")", SHEETS, x -> x.take(0, n), BAD);
        }
        refused("take(3, 17), bad ahead of NULL", SHEETS, x -> x.take(3, 17), BAD);
        refused("take(3, -1), bad ahead of NULL", SHEETS, x -> x.take(3, -1), BAD);
        refused("take(3, 17) of twenty", SHEETS.andThen(x -> x.sheet(3, 0, 20)), x -> x.take(3, 17), BAD);
    }

    private static void takeNull() {
        under(26, "NULL;");
        refused("take(3, 0)", SHEETS, x -> x.take(3, 0), NULL);
        refused("take(3, 16)", SHEETS, x -> x.take(3, 16), NULL);
    }

    private static void takeIndex() {
        under(26, "INDEX;");
        refused("take(1, 4) of three", SHEETS, x -> x.take(1, 4), INDEX);
        refused("take(1, 16) of three", SHEETS, x -> x.take(1, 16), INDEX);
        refused("take(3, 1) of none", SHEETS.andThen(x -> x.sheet(3, 2, 0)), x -> x.take(3, 1), INDEX);
        refused("take(3, 16) of fifteen", SHEETS.andThen(x -> x.sheet(3, 2, 15)), x -> x.take(3, 16), INDEX);
    }

    private static void noMove(String what, int number, int... items) {
        Consumer<DropRows> before = game(3, 2, 3, false, 2, 2).andThen(x -> fill(x, 0, 2, items));
        refused(what, before, x -> x.take(0, items.length), -100 - number);
    }

    private static void takeNoMove() {
        under(26, "-100 less the number of the first that is no MOVE (the game stays).");
        for (int column : outside(0, 2)) {
            noMove("the first is " + column, 0, column);
            noMove("the last is " + column, 4, 0, 1, 2, 0, column);
        }
        noMove("a full column", 2, 1, 1, 1);
        noMove("the first of two", 1, 0, 3, -1);
        noMove("behind the end of a game that is won", 5, 0, 0, 1, 1, 2, 2);
        noMove("behind a full board", 6, 1, 1, 0, 2, 0, 2, 0);
        noMove("the last of sixteen asked", 6, 1, 1, 0, 2, 0, 2, 1, 1, 1, 1, 1, 1, 1, 1, 1, 1);
        Consumer<DropRows> one = game(1, 1, 2, true).andThen(x -> x.sheet(2, 0, 20));
        refused("take(2, 16) of one square", one, x -> x.take(2, 16), -101);
        Consumer<DropRows> over = game(3, 1, 2, false, 1, 0, 2).andThen(x -> fill(x, 0, 0, 0, 0));
        refused("take(0, 2), the game was over", over, x -> x.take(0, 2), -101);
        Consumer<DropRows> taken = game(3, 2, 3, false, 2).andThen(x -> {
            fill(x, 0, 0, 1, 0, 1);
            x.take(0, 3);
            fill(x, 0, 0, 2, 2, 2);
        });
        refused("take(0, 3), the game was taken too", taken, x -> x.take(0, 3), -102);
    }

    // ---- promise 27

    private static void writeMoves() {
        under(27, "The MOVES are written to a SHEET from item 0 on: how many.");
        for (int form = 0; form < 3; form++) {
            DropRows x = playing(new DropRows(), 3, 0, 2);
            fill(x, 1, form, 77, 77, 77, 77, 77);
            due("write(1)", x.write(1), 3);
            items("written", x, 1, form, 3, 0, 2, 77, 77);
            fill(x, 1, form, 77, 77, 77);
            due("write(1), just so many items", x.write(1), 3);
            items("written, just so many", x, 1, form, 3, 0, 2);
            due("the game stays", x.game(1), 3);
        }
        stays("write(0), no moves", x -> fill(x, 0, 0, 77, 78), x -> x.write(0), 0, 0);
        stays("write(0), no moves and no items", x -> x.sheet(0, 0, 0), x -> x.write(0), 0, 0);
        DropRows full = made(game(4, 4, 4, false, SIXTEEN));
        full.sheet(3, 1, 16);
        due("write(3), sixteen", full.write(3), 16);
        items("sixteen", full, 3, 1, SIXTEEN);
        due("take(3, 16) of them", full.take(3, 16), 2);
    }

    private static void writeBad() {
        under(27, "BAD;");
        for (int s : outside(0, 3)) {
            refused("write(" + s + ")", SHEETS, x -> x.write(s), BAD);
        }
    }

    private static void writeNull() {
        under(27, "NULL;");
        refused("write(3)", SHEETS, x -> x.write(3), NULL);
        refused("write(3), no moves", SHEETS.andThen(x -> x.back(2)), x -> x.write(3), NULL);
    }

    private static void writeIndex() {
        under(27, "INDEX: it has not so many items.");
        refused("write(1), four to three", SHEETS.andThen(x -> playing(x, 0, 0)), x -> x.write(1), INDEX);
        refused("write(3), two to none", SHEETS.andThen(x -> x.sheet(3, 2, 0)), x -> x.write(3), INDEX);
        Consumer<DropRows> full = game(4, 4, 4, false, SIXTEEN).andThen(x -> x.sheet(3, 1, 15));
        refused("write(3), sixteen to fifteen", full, x -> x.write(3), INDEX);
    }

    // ---- promise 28

    private static void counts(DropRows x, int... counts) {
        for (int i = 0; i < counts.length; i++) {
            due("count(" + i + ")", x.count(i), counts[i]);
        }
    }

    private static void countBoard() {
        under(28, "0 W, 1 H, 2 K, 3 whether it is JOINED (1, 0), 4 ROWS, 5 SQUARES,");
        counts(new DropRows(), 4, 4, 3, 0, 24, 16);
        counts(on(1, 1, 2, true), 1, 1, 2, 1, 0, 1);
        counts(on(7, 2, 4, false), 7, 2, 4, 0, 8, 14);
        counts(on(2, 6, 3, true), 2, 6, 3, 1, 16, 12);
        counts(made(game(5, 3, 4, true, 0, 1, 2)), 5, 3, 4, 1, 15, 15);
        DropRows x = on(5, 3, 4, true);
        x.board(5, 3, 4, false);
        counts(x, 5, 3, 4, 0, 6, 15);
    }

    private static void countFinding() {
        under(28, "6 the number of the latest FINDING (0 before any).");
        DropRows x = new DropRows();
        x.drop(9);
        x.lose(9);
        x.get(9, 9, 9);
        due("count(6), refused without a finding", x.count(6), 0);
        x.lose(0);
        due("count(6), NULL", x.count(6), 1);
        x.sheet(0, 0, -1);
        due("count(6), SIZE", x.count(6), 5);
        x.sheet(0, 0, 2);
        x.sheet(1, 1, 2);
        x.put(0, 0, 0, 9);
        due("count(6), it stays the latest", x.count(6), 5);
        x.put(0, 0, 2, 0);
        due("count(6), INDEX", x.count(6), 2);
        x.get(0, 1, 0);
        due("count(6), CAST", x.count(6), 3);
        x.copy(0, 0, 1, 0, 1);
        due("count(6), STORE", x.count(6), 4);
        due("no move", x.take(0, 1), -100);
        due("count(6), no move is no finding", x.count(6), 4);
        x.board(2, 2, 2, false);
        due("count(6), a new board", x.count(6), 4);
    }

    private static void countBad() {
        under(28, "BAD.");
        for (int what : outside(0, 6)) {
            refused("count(" + what + ")", SHEETS, x -> x.count(what), BAD);
        }
    }

    // ---- promise 29

    // in whole numbers without end, so that the wrap-around is not the tested class's own
    private static long folded(int... numbers) {
        BigInteger h = BigInteger.valueOf(17);
        for (int number : numbers) {
            h = h.multiply(BigInteger.valueOf(31)).add(BigInteger.valueOf(number));
        }
        return h.longValue();
    }

    private static void digestParts() {
        under(29, "h is 17; h becomes 31 h and each of: count() 0 to 5, game() 0 to 4, the MOVES, who stands on each SQUARE;");
        due("digest(), one square", on(1, 1, 2, true).digest(), folded(1, 1, 2, 1, 0, 1, 0, 0, 0, 1, 0, -1));
        due("digest(), one man", made(game(2, 1, 2, false, 1)).digest(), folded(2, 1, 2, 0, 1, 2, 1, 1, 0, 1, 1, 1, -1, 0));
        due("digest(), full", made(game(2, 1, 2, false, 1, 0)).digest(),
                folded(2, 1, 2, 0, 1, 2, 0, 2, 2, 0, 0, 1, 0, 1, 0));
        due("digest(), won", made(game(3, 1, 2, false, 1, 0, 2)).digest(),
                folded(3, 1, 2, 0, 2, 3, 1, 3, 1, 0, 1, 1, 0, 2, 1, 0, 0));
        due("digest(), sheets and findings are not in it", made(SHEETS).digest(), playing(new DropRows(), 3, 3).digest());
        DropRows x = on(2, 1, 2, false);
        x.digest();
        due("the game stays", x.drop(1), 1);
    }

    private static void digestWraps() {
        under(29, "as longs that wrap.");
        int[] empty = {4, 4, 3, 0, 24, 16, 0, 0, 0, 4, 48, -1, -1, -1, -1, -1, -1, -1, -1, -1, -1, -1, -1, -1, -1, -1, -1};
        due("digest() of a new object", new DropRows().digest(), folded(empty));
        int[] full = {4, 4, 4, 0, 10, 16, 0, 16, 2, 0, 0, 0, 0, 0, 0, 1, 1, 1, 1, 2, 3, 2, 2, 2, 3, 3, 3,
            0, 0, 0, 1, 1, 1, 0, 1, 0, 0, 1, 0, 1, 1, 0, 1};
        due("digest() of sixteen men", made(game(4, 4, 4, false, SIXTEEN)).digest(), folded(full));
    }
}
