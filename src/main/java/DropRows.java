import java.util.Arrays;

/** Men dropped into columns, so many in a row win; ../shared/DOC.md has every promise. */
public final class DropRows {
    public static final int NONE = -1, BAD = -200, NOT = -201, FULL = -202;

    private static final int MOST_COLUMNS = 7, MOST_ROWS = 6, MOST_SQUARES = 16;
    private static final int LEAST_LENGTH = 2, MOST_LENGTH = 4;
    private static final int MOST_BOARDS = 12;
    private static final int LEAST_INT = -2147483648;
    private static final int GOES_ON = 0, WON = 1, DRAWN = 2;
    private static final int SHEETS = 4, FORMS = 3, MOST_ITEMS = 20;
    private static final int BYTES = 0, SHORTS = 1;
    private static final int FOUND_NONE = 0, NULL = 1, INDEX = 2, CAST = 3, STORE = 4, SIZE = 5;

    private final Grid grid;
    private final Solver solver;
    private final Sheet[] sheets;
    private Game current;
    // take() and waiting() try moves here, so that the game itself can stay as it is
    private Game spare;
    private int boardsTold;
    private int latestFinding;

    public DropRows() {
        grid = new Grid();
        grid.tell(4, 4, 3, false);
        solver = new Solver(grid);
        current = new Game(grid);
        spare = new Game(grid);
        sheets = new Sheet[SHEETS];
        for (int s = 0; s < SHEETS; s++) {
            sheets[s] = new Sheet();
        }
    }

    public int board(int w, int h, int k, boolean joined) {
        if (!isWithin(w, 1, MOST_COLUMNS) || !isWithin(h, 1, MOST_ROWS) || w * h > MOST_SQUARES
                || !isWithin(k, LEAST_LENGTH, MOST_LENGTH)) {
            return BAD;
        }
        if (boardsTold >= MOST_BOARDS) {
            return FULL;
        }
        boardsTold++;
        grid.tell(w, h, k, joined);
        solver.forget();
        current.clear();
        return grid.rowCount;
    }

    // ---- the game

    public int drop(int column) {
        if (!current.isOpen(column)) {
            return BAD;
        }
        if (current.isOver()) {
            return NOT;
        }
        return current.make(column);
    }

    public int back(int n) {
        if (!isWithin(n, 0, current.moves)) {
            return BAD;
        }
        for (int i = 0; i < n; i++) {
            current.unmake();
        }
        return current.moves;
    }

    public int move(int i) {
        return isWithin(i, 0, current.moves - 1) ? current.columns[i] : BAD;
    }

    public int at(int square) {
        return isWithin(square, 0, grid.squares - 1) ? current.manOn(square) : BAD;
    }

    public int game(int what) {
        switch (what) {
            case 0:
                return current.side();
            case 1:
                return current.moves;
            case 2:
                return current.state();
            case 3:
                return current.openColumns();
            case 4:
                return grid.rowsWithout(current.men[0]) + grid.rowsWithout(current.men[1]);
            default:
                return BAD;
        }
    }

    public int won(int i) {
        if (current.state() != WON || !isWithin(i, 0, grid.length - 1)) {
            return BAD;
        }
        return nthSquare(grid.firstRowOf(current.men[1 - current.side()]), i);
    }

    // ---- worth

    public int worth() {
        if (current.isOver()) {
            return NOT;
        }
        solver.start(current);
        return solver.worthOfStart();
    }

    public int worthOf(int column) {
        if (current.isOver()) {
            return NOT;
        }
        if (!current.isOpen(column)) {
            return BAD;
        }
        solver.start(current);
        return solver.worthOfMove(column);
    }

    public int best() {
        return current.isOver() ? NOT : bestColumn();
    }

    public int as() {
        if (current.isOver()) {
            return NOT;
        }
        solver.start(current);
        int greatest = solver.worthOfStart();
        int asGood = 0;
        for (int column = 0; column < grid.width; column++) {
            if (current.isOpen(column) && solver.worthOfMove(column) == greatest) {
                asGood++;
            }
        }
        return asGood;
    }

    public int play() {
        if (current.isOver()) {
            return NOT;
        }
        int before = current.moves;
        for (int i = before; i < grid.squares && !current.isOver(); i++) {
            current.make(bestColumn());
        }
        return current.moves - before;
    }

    // ---- positions

    public int positions(int n) {
        return isWithin(n, 0, grid.squares) ? solver.tally(Solver.COME, n) : BAD;
    }

    public int wins(int n) {
        return isWithin(n, 0, grid.squares) ? solver.tally(Solver.ROW_WON, n) : BAD;
    }

    public int share(int n, int sign) {
        if (!isWithin(n, 0, grid.squares) || !isWithin(sign, -1, 1)) {
            return BAD;
        }
        return solver.tally(Solver.EVEN_SHARE + sign, n);
    }

    public int even() {
        for (int square = 0; square < grid.squares; square++) {
            if (current.manOn(square) != current.manOn(grid.imageOf(square))) {
                return 0;
            }
        }
        return 1;
    }

    // ---- threats

    public int threats(int side) {
        return isWithin(side, 0, 1) ? Integer.bitCount(current.threatsOf(side)) : BAD;
    }

    public int threat(int side, int k) {
        if (!isWithin(side, 0, 1)) {
            return BAD;
        }
        int squares = current.threatsOf(side);
        return isWithin(k, 0, Integer.bitCount(squares) - 1) ? nthSquare(squares, k) : BAD;
    }

    public int waiting() {
        if (current.isOver()) {
            return NOT;
        }
        spare.follow(current);
        for (int i = spare.moves; i < grid.squares && !spare.isOver(); i++) {
            spare.make(spare.waitingColumn());
        }
        if (spare.state() != WON) {
            return 0;
        }
        return spare.side() == 1 ? 1 : -1;
    }

    // ---- sheets

    public int sheet(int s, int form, int n) {
        if (!isSheet(s) || !isForm(form) || n > MOST_ITEMS) {
            return BAD;
        }
        if (n < 0) {
            return refuse(SIZE);
        }
        sheets[s].renew(form, n);
        return n;
    }

    public int lose(int s) {
        if (!isSheet(s)) {
            return BAD;
        }
        if (sheets[s].lost) {
            return refuse(NULL);
        }
        sheets[s].lost = true;
        return sheets[s].size;
    }

    public int put(int s, int form, int i, int v) {
        if (!isSheet(s) || !isForm(form)) {
            return BAD;
        }
        int finding = sheets[s].findingAt(form, i);
        if (finding != FOUND_NONE) {
            return refuse(finding);
        }
        sheets[s].store(i, v);
        return 1;
    }

    public int get(int s, int form, int i) {
        if (!isSheet(s) || !isForm(form)) {
            return LEAST_INT;
        }
        int finding = sheets[s].findingAt(form, i);
        if (finding != FOUND_NONE) {
            refuse(finding);
            return LEAST_INT;
        }
        return sheets[s].items[i];
    }

    public int copy(int s, int i, int t, int j, int n) {
        if (!isSheet(s) || !isSheet(t)) {
            return BAD;
        }
        Sheet from = sheets[s];
        Sheet to = sheets[t];
        if (from.lost || to.lost) {
            return refuse(NULL);
        }
        if (from.form != to.form) {
            return refuse(STORE);
        }
        if (!from.hasPart(i, n) || !to.hasPart(j, n)) {
            return refuse(INDEX);
        }
        System.arraycopy(from.items, i, to.items, j, n);
        return 1;
    }

    public int take(int s, int n) {
        if (!isSheet(s) || !isWithin(n, 0, MOST_SQUARES)) {
            return BAD;
        }
        Sheet source = sheets[s];
        if (source.lost) {
            return refuse(NULL);
        }
        if (!source.hasPart(0, n)) {
            return refuse(INDEX);
        }
        spare.clear();
        for (int i = 0; i < n; i++) {
            if (spare.isOver() || spare.make(source.items[i]) == NONE) {
                return -100 - i;
            }
        }
        Game taken = spare;
        spare = current;
        current = taken;
        return current.state();
    }

    public int write(int s) {
        if (!isSheet(s)) {
            return BAD;
        }
        Sheet target = sheets[s];
        if (target.lost) {
            return refuse(NULL);
        }
        if (!target.hasPart(0, current.moves)) {
            return refuse(INDEX);
        }
        for (int i = 0; i < current.moves; i++) {
            target.store(i, current.columns[i]);
        }
        return current.moves;
    }

    public int count(int what) {
        switch (what) {
            case 0:
                return grid.width;
            case 1:
                return grid.height;
            case 2:
                return grid.length;
            case 3:
                return grid.joined ? 1 : 0;
            case 4:
                return grid.rowCount;
            case 5:
                return grid.squares;
            case 6:
                return latestFinding;
            default:
                return BAD;
        }
    }

    public long digest() {
        long h = 17;
        for (int what = 0; what <= 5; what++) {
            h = 31 * h + count(what);
        }
        for (int what = 0; what <= 4; what++) {
            h = 31 * h + game(what);
        }
        for (int i = 0; i < current.moves; i++) {
            h = 31 * h + current.columns[i];
        }
        for (int square = 0; square < grid.squares; square++) {
            h = 31 * h + current.manOn(square);
        }
        return h;
    }

    // ---- helpers of the calls

    private static boolean isWithin(int number, int least, int most) {
        return number >= least && number <= most;
    }

    private static boolean isSheet(int s) {
        return isWithin(s, 0, SHEETS - 1);
    }

    private static boolean isForm(int form) {
        return isWithin(form, 0, FORMS - 1);
    }

    private int refuse(int finding) {
        latestFinding = finding;
        return -10 - finding;
    }

    private int bestColumn() {
        solver.start(current);
        int found = NONE;
        int greatest = Solver.BELOW_ALL;
        for (int column = 0; column < grid.width; column++) {
            if (current.isOpen(column)) {
                int worthHere = solver.worthOfMove(column);
                if (worthHere > greatest) {
                    greatest = worthHere;
                    found = column;
                }
            }
        }
        return found;
    }

    private static int nthSquare(int squares, int n) {
        int rest = squares;
        for (int i = 0; i < n; i++) {
            rest &= rest - 1;
        }
        return rest == 0 ? NONE : Integer.bitCount((rest & -rest) - 1);
    }

    /** The squares and the ROWS on them; a set of squares is an int with a bit for each. */
    static final class Grid {
        private static final int WAYS = 4;
        private static final int MOST_THROUGH = WAYS * MOST_LENGTH;

        int width, height, length, squares, rowCount;
        boolean joined;
        private final int[] rows = new int[WAYS * MOST_SQUARES];
        // a move can complete only ROWS through its own square: the search asks these alone
        private final int[] through = new int[MOST_SQUARES * MOST_THROUGH];
        private final int[] throughCount = new int[MOST_SQUARES];

        void tell(int w, int h, int k, boolean isJoined) {
            width = w;
            height = h;
            length = k;
            joined = isJoined;
            squares = w * h;
            rowCount = 0;
            Arrays.fill(throughCount, 0);
            for (int row = 0; row < h; row++) {
                for (int column = 0; column < w; column++) {
                    addRow(rowFrom(column, row, 1, 0));
                    addRow(rowFrom(column, row, 0, 1));
                    addRow(rowFrom(column, row, 1, 1));
                    addRow(rowFrom(column, row, -1, 1));
                }
            }
        }

        /** The set of a ROW's squares, or 0 if the way leaves the board or meets itself. */
        private int rowFrom(int column, int row, int columnStep, int rowStep) {
            int set = 0;
            int c = column;
            int r = row;
            for (int i = 0; i < length; i++) {
                if (c < 0 || c >= width || r >= height) {
                    return 0;
                }
                int man = 1 << (width * r + c);
                if ((set & man) != 0) {
                    return 0;
                }
                set |= man;
                c = beside(c, columnStep);
                r += rowStep;
            }
            return set;
        }

        private int beside(int column, int step) {
            int next = column + step;
            if (!joined) {
                return next;
            }
            if (next < 0) {
                return width - 1;
            }
            return next >= width ? 0 : next;
        }

        private void addRow(int set) {
            if (set == 0 || isRow(set) || rowCount >= rows.length) {
                return;
            }
            rows[rowCount] = set;
            rowCount++;
            for (int square = 0; square < squares; square++) {
                if ((set >> square & 1) != 0 && throughCount[square] < MOST_THROUGH) {
                    through[square * MOST_THROUGH + throughCount[square]] = set;
                    throughCount[square]++;
                }
            }
        }

        private boolean isRow(int set) {
            for (int i = 0; i < rowCount; i++) {
                if (rows[i] == set) {
                    return true;
                }
            }
            return false;
        }

        boolean hasRow(int men) {
            for (int i = 0; i < rowCount; i++) {
                if ((men & rows[i]) == rows[i]) {
                    return true;
                }
            }
            return false;
        }

        boolean hasRowThrough(int square, int men) {
            if (square < 0 || square >= MOST_SQUARES) {
                return false;
            }
            int from = square * MOST_THROUGH;
            int end = from + throughCount[square];
            for (int i = from; i < end; i++) {
                int row = through[i];
                if ((men & row) == row) {
                    return true;
                }
            }
            return false;
        }

        int rowsWithout(int men) {
            int free = 0;
            for (int i = 0; i < rowCount; i++) {
                if ((men & rows[i]) == 0) {
                    free++;
                }
            }
            return free;
        }

        /** Of the ROWS that the men stand on, the one whose squares come first; 0 if none. */
        int firstRowOf(int men) {
            int first = 0;
            for (int i = 0; i < rowCount; i++) {
                if ((men & rows[i]) == rows[i] && (first == 0 || comesAhead(rows[i], first))) {
                    first = rows[i];
                }
            }
            return first;
        }

        // both have as many squares, so they part at the least square that only one of them has
        private static boolean comesAhead(int row, int other) {
            int apart = row ^ other;
            return (row & apart & -apart) != 0;
        }

        int imageOf(int square) {
            int column = width < 1 ? 0 : square % width;
            return square - column + (width - 1 - column);
        }
    }

    /** A row of MOVES from the empty board. */
    static final class Game {
        // the sorts of columns that WAITING looks for, in its order
        private static final int WINS = 0, STOPS = 1, OPENS_NOTHING = 2, OPENS_OWN = 3, ANY = 4;
        private static final int SORTS = 5;

        private final Grid grid;
        final int[] columns = new int[MOST_SQUARES];
        final int[] men = new int[2];
        final int[] heights = new int[MOST_COLUMNS];
        int moves;

        Game(Grid board) {
            grid = board;
        }

        void clear() {
            moves = 0;
            Arrays.fill(men, 0);
            Arrays.fill(heights, 0);
        }

        void follow(Game other) {
            clear();
            for (int i = 0; i < other.moves; i++) {
                make(other.columns[i]);
            }
        }

        boolean isOpen(int column) {
            return isWithin(column, 0, grid.width - 1) && heights[column] < grid.height;
        }

        /** The square that the man comes to; NONE, and nothing done, if the column is not open. */
        int make(int column) {
            if (!isOpen(column) || moves >= MOST_SQUARES) {
                return NONE;
            }
            int square = squareIn(column);
            men[side()] |= 1 << square;
            heights[column]++;
            columns[moves] = column;
            moves++;
            return square;
        }

        void unmake() {
            if (moves < 1) {
                return;
            }
            moves--;
            int column = columns[moves];
            heights[column]--;
            men[side()] &= ~(1 << squareIn(column));
        }

        private int squareIn(int column) {
            return grid.width * heights[column] + column;
        }

        int side() {
            return moves & 1;
        }

        int state() {
            if (grid.hasRow(men[1 - side()])) {
                return WON;
            }
            return moves >= grid.squares ? DRAWN : GOES_ON;
        }

        boolean isOver() {
            return state() != GOES_ON;
        }

        int manOn(int square) {
            if ((men[0] >> square & 1) != 0) {
                return 0;
            }
            return (men[1] >> square & 1) != 0 ? 1 : NONE;
        }

        int openColumns() {
            int open = 0;
            for (int column = 0; column < grid.width; column++) {
                if (isOpen(column)) {
                    open++;
                }
            }
            return open;
        }

        int threatsOf(int side) {
            int found = 0;
            for (int square = 0; square < grid.squares; square++) {
                if (isThreat(side, square)) {
                    found |= 1 << square;
                }
            }
            return found;
        }

        private boolean isThreat(int side, int square) {
            return manOn(square) == NONE && grid.hasRow(men[side] | 1 << square);
        }

        /** The least column of the first sort that WAITING finds. */
        int waitingColumn() {
            int found = NONE;
            int foundSort = SORTS;
            for (int column = 0; column < grid.width; column++) {
                if (isOpen(column)) {
                    int sort = waitingSort(column);
                    if (sort < foundSort) {
                        foundSort = sort;
                        found = column;
                    }
                }
            }
            return found;
        }

        private int waitingSort(int column) {
            int mover = side();
            int square = squareIn(column);
            if (isThreat(mover, square)) {
                return WINS;
            }
            if (isThreat(1 - mover, square)) {
                return STOPS;
            }
            int above = square + grid.width;
            if (above >= grid.squares) {
                return OPENS_NOTHING;
            }
            if (isThreat(1 - mover, above)) {
                return ANY;
            }
            return isThreat(mover, above) ? OPENS_OWN : OPENS_NOTHING;
        }
    }

    /**
     * Every POSITION behind one that is asked for is judged once and kept, so that one search
     * from the empty board also counts all POSITIONS that can COME.
     */
    static final class Solver {
        static final int COME = 0, ROW_WON = 1, EVEN_SHARE = 3;
        static final int BELOW_ALL = -100;
        private static final int TALLIES = 5;
        private static final int UNSEEN = 0, KEPT_WON = 254, KEPT_FULL = 255;
        // a kept worth is shifted above UNSEEN, so that it fits a byte without a sign
        private static final int SHIFT = 101;

        private final Grid grid;
        private final int[] powers = new int[MOST_COLUMNS];
        // a column's men from the lowest on as bits behind a leading 1
        private final int[] codes = new int[MOST_COLUMNS];
        private final int[] heights = new int[MOST_COLUMNS];
        private final int[][] tallies = new int[TALLIES][MOST_SQUARES + 1];
        // eight positions share an element, since the room counts elements
        private long[] kept = new long[0];
        private boolean isPrepared;
        private int startMine, startOthers, startKey, startImage, startMen;

        Solver(Grid board) {
            grid = board;
        }

        void forget() {
            isPrepared = false;
        }

        private void prepare() {
            if (isPrepared) {
                return;
            }
            int columnStates = (2 << grid.height) - 1;
            int places = 1;
            for (int column = 0; column < grid.width; column++) {
                powers[column] = places;
                places *= columnStates;
            }
            int needed = (places + 7) >> 3;
            if (needed > kept.length) {
                kept = new long[needed];
            } else {
                Arrays.fill(kept, 0, needed, 0L);
            }
            for (int kind = 0; kind < TALLIES; kind++) {
                Arrays.fill(tallies[kind], 0);
            }
            isPrepared = true;
        }

        private void startEmpty() {
            prepare();
            Arrays.fill(codes, 1);
            Arrays.fill(heights, 0);
            startMine = 0;
            startOthers = 0;
            startKey = 0;
            startImage = 0;
            startMen = 0;
        }

        void start(Game game) {
            startEmpty();
            for (int i = 0; i < game.moves; i++) {
                int column = game.columns[i];
                int step = codes[column] + (i & 1);
                startKey += step * powers[column];
                startImage += step * powers[grid.width - 1 - column];
                codes[column] += step;
                heights[column]++;
            }
            startMine = game.men[game.side()];
            startOthers = game.men[1 - game.side()];
            startMen = game.moves;
        }

        int worthOfStart() {
            return search(startMine, startOthers, startKey, startImage, startMen);
        }

        int worthOfMove(int column) {
            return tryColumn(column, startMine, startOthers, startKey, startImage, startMen);
        }

        int tally(int kind, int men) {
            startEmpty();
            worthOfStart();
            return isWithin(kind, 0, TALLIES - 1) && isWithin(men, 0, MOST_SQUARES)
                    ? tallies[kind][men] : 0;
        }

        /** The WORTH of a game that goes on; men tells the depth, which the squares limit. */
        private int search(int mine, int others, int key, int image, int men) {
            int known = keptAt(Math.min(key, image));
            if (known != UNSEEN) {
                return known - SHIFT;
            }
            int greatest = BELOW_ALL;
            for (int column = 0; column < grid.width; column++) {
                if (heights[column] < grid.height) {
                    int found = tryColumn(column, mine, others, key, image, men);
                    if (found > greatest) {
                        greatest = found;
                    }
                }
            }
            keep(key, image, men, greatest + SHIFT);
            return greatest;
        }

        private int tryColumn(int column, int mine, int others, int key, int image, int men) {
            int code = codes[column];
            int step = code + (men & 1);
            int keyThen = key + step * powers[column];
            int imageThen = image + step * powers[grid.width - 1 - column];
            int square = grid.width * heights[column] + column;
            int mineThen = mine | 1 << square;
            if (grid.hasRowThrough(square, mineThen)) {
                keep(keyThen, imageThen, men + 1, KEPT_WON);
                return 99;
            }
            if (men + 1 >= grid.squares) {
                keep(keyThen, imageThen, men + 1, KEPT_FULL);
                return 0;
            }
            codes[column] = code + step;
            heights[column]++;
            int worthThen = search(others, mineThen, keyThen, imageThen, men + 1);
            heights[column]--;
            codes[column] = code;
            return seenFromAhead(worthThen);
        }

        private static int seenFromAhead(int worthThen) {
            if (worthThen == 0) {
                return 0;
            }
            return worthThen > 0 ? 1 - worthThen : -1 - worthThen;
        }

        private int keptAt(int place) {
            int slot = place >> 3;
            if (slot < 0 || slot >= kept.length) {
                return UNSEEN;
            }
            return (int) (kept[slot] >>> ((place & 7) << 3)) & 255;
        }

        // a position and its image are worth the same and COME both or neither: one place is both's
        private void keep(int key, int image, int men, int value) {
            int place = Math.min(key, image);
            int slot = place >> 3;
            if (slot < 0 || slot >= kept.length || keptAt(place) != UNSEEN) {
                return;
            }
            kept[slot] |= (long) value << ((place & 7) << 3);
            int many = key == image ? 1 : 2;
            tallies[COME][men] += many;
            if (value == KEPT_WON) {
                tallies[ROW_WON][men] += many;
            } else if (value != KEPT_FULL) {
                tallies[shareOf(value)][men] += many;
            }
        }

        private static int shareOf(int value) {
            if (value == SHIFT) {
                return EVEN_SHARE;
            }
            return value > SHIFT ? EVEN_SHARE + 1 : EVEN_SHARE - 1;
        }
    }

    /** A row of items, held as ints whatever its FORM, so that none is made anew. */
    static final class Sheet {
        boolean lost = true;
        int form, size;
        final int[] items = new int[MOST_ITEMS];

        void renew(int newForm, int n) {
            lost = false;
            form = newForm;
            size = n;
            Arrays.fill(items, 0);
        }

        int findingAt(int asForm, int i) {
            if (lost) {
                return NULL;
            }
            if (form != asForm) {
                return CAST;
            }
            return isWithin(i, 0, size - 1) ? FOUND_NONE : INDEX;
        }

        // size - n cannot wrap, where from + n could
        boolean hasPart(int from, int n) {
            return n >= 0 && n <= size && from >= 0 && from <= size - n;
        }

        void store(int i, int v) {
            if (form == BYTES) {
                items[i] = (byte) v;
            } else if (form == SHORTS) {
                items[i] = (short) v;
            } else {
                items[i] = v;
            }
        }
    }
}
