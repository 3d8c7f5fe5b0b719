import java.util.function.Consumer;
import java.util.function.IntUnaryOperator;
import java.util.function.ToIntFunction;

/**
 * What the tests share. A test says first which sentence of which promise it holds the class to;
 * at the end it is seen to that no sentence went without a test.
 */
abstract class Checks {
    static final int NONE = -1, BAD = -200, NOT = -201, FULL = -202;
    static final int NULL = -11, INDEX = -12, CAST = -13, STORE = -14, SIZE = -15;
    static final int LEAST = Integer.MIN_VALUE, GREATEST = Integer.MAX_VALUE;
    /** A game that fills a board of 4 by 4 without four in a row. */
    static final int[] SIXTEEN = {0, 0, 0, 0, 1, 1, 1, 1, 2, 3, 2, 2, 2, 3, 3, 3};

    private static Document document;
    private static String place = "";
    private static int checked = 0;
    private static int wrong = 0;

    // ---- the sentences

    /** The checks that follow are of this sentence. */
    static void under(int promise, String sentence) {
        if (document == null) {
            document = new Document();
        }
        String name = promise == Document.TERMS ? "terms" : "promise " + promise;
        place = name + ", '" + sentence + "': ";
        if (!document.name(promise, sentence)) {
            tellWrong("the document does not say so");
        }
    }

    static void allNamed(int first, int last) {
        for (int promise = first; promise <= last; promise++) {
            place = "promise " + promise + ": ";
            for (String part : document.unnamed(promise)) {
                tellWrong("no test names '" + part + "'");
            }
        }
    }

    static void finish() {
        System.out.println(checked + " answers checked, " + wrong + " not as due");
        if (wrong != 0 || checked == 0) {
            System.exit(1);
        }
    }

    // ---- answers

    static void due(String call, long got, long want) {
        checked++;
        if (got != want) {
            tellWrong(call + " answered " + got + ", due is " + want);
        }
    }

    /** The answers to 0, 1 and so on; to the number behind the last it is BAD. */
    static void each(String call, IntUnaryOperator asked, int... want) {
        for (int i = 0; i < want.length; i++) {
            due(call + " " + i, asked.applyAsInt(i), want[i]);
        }
        due(call + " " + want.length, asked.applyAsInt(want.length), BAD);
    }

    private static void tellWrong(String what) {
        wrong++;
        System.out.println(place + what);
    }

    /** A call that is refused: all stays as on an object that is not asked (a finding but count() 6). */
    static void refused(String call, Consumer<DropRows> before, ToIntFunction<DropRows> asked, int want) {
        boolean isFinding = want <= NULL && want >= SIZE;
        stays(call, before, asked, want, isFinding ? -10 - want : made(before).count(6));
    }

    /** A call that changes nothing but, perhaps, count() 6. */
    static void stays(String call, Consumer<DropRows> before, ToIntFunction<DropRows> asked, int want,
            int findingThen) {
        DropRows x = made(before);
        due(call, asked.applyAsInt(x), want);
        due(call + ", then count(6)", x.count(6), findingThen);
        String is = stateOf(x);
        String was = stateOf(made(before));
        checked++;
        if (!is.equals(was)) {
            tellWrong(call + " left " + is + ", it was " + was);
        }
    }

    /** All that can be seen of an object but count() 6; it is used up by that. */
    private static String stateOf(DropRows x) {
        StringBuilder text = new StringBuilder("board");
        for (int i = 0; i <= 5; i++) {
            text.append(' ').append(x.count(i));
        }
        text.append(" game");
        for (int i = 0; i <= 4; i++) {
            text.append(' ').append(x.game(i));
        }
        text.append(" moves");
        int moves = x.game(1);
        for (int i = 0; i < moves; i++) {
            text.append(' ').append(x.move(i));
        }
        text.append(" men");
        int squares = x.count(5);
        for (int square = 0; square < squares; square++) {
            text.append(' ').append(x.at(square));
        }
        for (int s = 0; s < 4; s++) {
            text.append(" sheet").append(sheetOf(x, s));
        }
        int boardsLeft = 0;
        while (boardsLeft < 20 && x.board(1, 1, 2, false) != FULL) {
            boardsLeft++;
        }
        return text.append(" boards left ").append(boardsLeft).toString();
    }

    private static String sheetOf(DropRows x, int s) {
        StringBuilder text = new StringBuilder();
        for (int form = 0; form < 3; form++) {
            int item = x.get(s, form, 0);
            for (int i = 0; i < 20 && x.put(s, form, i, item) == 1; i++) {
                text.append(' ').append(item);
                item = x.get(s, form, i + 1);
            }
            text.append(" then ").append(x.put(s, form, 20, 0));
        }
        return text.append(" had ").append(x.lose(s)).toString();
    }

    // ---- objects

    static DropRows made(Consumer<DropRows> calls) {
        DropRows x = new DropRows();
        calls.accept(x);
        return x;
    }

    static DropRows on(int w, int h, int k, boolean joined) {
        DropRows x = new DropRows();
        x.board(w, h, k, joined);
        return x;
    }

    static DropRows playing(DropRows x, int... columns) {
        for (int column : columns) {
            if (x.drop(column) < 0) {
                due("a drop that a test needs, into " + column, BAD, 0);
            }
        }
        return x;
    }

    static Consumer<DropRows> game(int w, int h, int k, boolean joined, int... columns) {
        return x -> {
            x.board(w, h, k, joined);
            playing(x, columns);
        };
    }

    // ---- numbers

    /** Numbers that are not of least .. most: beside it, far off, and such that a shift or a cast would bring in. */
    static int[] outside(int least, int most) {
        return new int[] {least - 1, most + 1, least + 32, least + 256, least + 65536, -most - 2, LEAST, GREATEST};
    }
}
