import java.util.ArrayDeque;
import java.util.ArrayList;
import java.util.Arrays;
import java.util.HashMap;
import java.util.HashSet;
import java.util.List;
import java.util.Map;
import java.util.Random;
import java.util.Set;
import java.util.TreeSet;

/**
 * Runs of calls drawn from fixed seeds, answered by DropRows and by a second, slow program that is
 * written from the document alone and shares nothing with it; and every board's counts.
 */
public final class ModelTest {
    private static final int LOST = -1;
    private static int wrong = 0;
    private static long compared = 0;

    public static void main(String[] args) {
        everyBoard();
        for (int seed = 1; seed <= 1500; seed++) {
            oneRun(seed);
        }
        System.out.println(compared + " answers compared, " + wrong + " not as due");
        if (wrong != 0) {
            System.exit(1);
        }
    }

    // ---- the comparison

    private static void same(String where, long got, long want) {
        compared++;
        if (got != want) {
            wrong++;
            if (wrong <= 40) {
                System.out.println(where + " answered " + got + ", due is " + want);
            }
        }
    }

    private static void everyBoard() {
        for (int w = 1; w <= 7; w++) {
            for (int h = 1; h <= 6 && w * h <= 16; h++) {
                for (int k = 2; k <= 4; k++) {
                    oneBoard(w, h, k, false);
                    oneBoard(w, h, k, true);
                }
            }
        }
    }

    private static void oneBoard(int w, int h, int k, boolean joined) {
        String name = "board " + w + " " + h + " " + k + " " + joined + ": ";
        DropRows x = new DropRows();
        Model m = new Model();
        same(name + "ROWS", x.board(w, h, k, joined), m.board(w, h, k, joined));
        same(name + "worth", x.worth(), m.worth());
        same(name + "as", x.as(), m.as());
        same(name + "waiting", x.waiting(), m.waiting());
        for (int n = 0; n <= w * h; n++) {
            same(name + "positions " + n, x.positions(n), m.positions(n));
            same(name + "wins " + n, x.wins(n), m.wins(n));
            for (int sign = -1; sign <= 1; sign++) {
                same(name + "share " + n + " " + sign, x.share(n, sign), m.share(n, sign));
            }
        }
        same(name + "play", x.play(), m.play());
        same(name + "digest", x.digest(), m.digest());
        Model.forgetLarge();
    }

    private static void oneRun(int seed) {
        Random random = new Random(seed);
        DropRows x = new DropRows();
        Model m = new Model();
        int calls = 240;
        for (int i = 0; i < calls && wrong < 40; i++) {
            oneCall("seed " + seed + " call " + i + ": ", x, m, random);
            same("seed " + seed + " call " + i + ": digest", x.digest(), m.digest());
        }
    }

    private static int near(Random random, int least, int most) {
        int choice = random.nextInt(40);
        if (choice == 0) {
            return random.nextBoolean() ? Integer.MIN_VALUE : Integer.MAX_VALUE;
        }
        if (choice == 1) {
            return random.nextBoolean() ? least - 1 : most + 1;
        }
        return least + random.nextInt(Math.max(1, most - least + 1));
    }

    private static void oneCall(String at, DropRows x, Model m, Random r) {
        int side = near(r, 0, 1);
        int s = near(r, 0, 3);
        int form = r.nextInt(4) == 0 ? near(r, 0, 2) : 0;
        int n = near(r, 0, 20);
        int column = near(r, 0, m.w - 1);
        int men = near(r, 0, m.w * m.h);
        switch (r.nextInt(45)) {
            case 0: {
                int w = near(r, 1, 5);
                int h = near(r, 1, 4);
                int k = near(r, 2, 4);
                boolean joined = r.nextBoolean();
                if (r.nextInt(3) == 0) {
                    same(at + "board " + w + " " + h + " " + k + " " + joined,
                            x.board(w, h, k, joined), m.board(w, h, k, joined));
                }
                break;
            }
            case 1: { int v = r.nextInt(4) == 0 ? near(r, 0, m.moves.size()) : near(r, 0, Math.min(1, m.moves.size()));
                same(at + "back " + v, x.back(v), m.back(v)); break; }
            case 2: { int v = near(r, 0, m.moves.size()); same(at + "move " + v, x.move(v), m.move(v)); break; }
            case 3: { int v = near(r, 0, m.w * m.h - 1); same(at + "at " + v, x.at(v), m.at(v)); break; }
            case 4: { int v = near(r, 0, 4); same(at + "game " + v, x.game(v), m.game(v)); break; }
            case 5: case 6: { int v = near(r, 0, m.k - 1); same(at + "won " + v, x.won(v), m.won(v)); break; }
            case 7: same(at + "worth", x.worth(), m.worth()); break;
            case 8: case 9: same(at + "worthOf " + column, x.worthOf(column), m.worthOf(column)); break;
            case 10: same(at + "best", x.best(), m.best()); break;
            case 11: same(at + "as", x.as(), m.as()); break;
            case 12: if (r.nextInt(4) == 0) { same(at + "play", x.play(), m.play()); } break;
            case 13: same(at + "positions " + men, x.positions(men), m.positions(men)); break;
            case 14: same(at + "wins " + men, x.wins(men), m.wins(men)); break;
            case 15: { int v = near(r, -1, 1); same(at + "share " + men + " " + v, x.share(men, v), m.share(men, v)); break; }
            case 16: same(at + "even", x.even(), m.even()); break;
            case 17: case 18: same(at + "threats " + side, x.threats(side), m.threats(side)); break;
            case 19: case 20: { int v = near(r, 0, 3); same(at + "threat " + side + " " + v, x.threat(side, v), m.threat(side, v)); break; }
            case 21: case 22: same(at + "waiting", x.waiting(), m.waiting()); break;
            case 23: case 24: same(at + "sheet " + s + " " + form + " " + n, x.sheet(s, form, n), m.sheet(s, form, n)); break;
            case 25: if (r.nextInt(3) == 0) { same(at + "lose " + s, x.lose(s), m.lose(s)); } break;
            case 26: case 27: case 28: { int v = r.nextInt(4) == 0 ? r.nextInt() : near(r, 0, m.w - 1);
                same(at + "put " + s + " " + form + " " + n + " " + v, x.put(s, form, n, v), m.put(s, form, n, v)); break; }
            case 29: case 30: same(at + "get " + s + " " + form + " " + n, x.get(s, form, n), m.get(s, form, n)); break;
            case 31: { int t = near(r, 0, 3); int i = near(r, 0, 8); int j = near(r, 0, 8); int v = near(r, 0, 8);
                same(at + "copy " + s + " " + i + " " + t + " " + j + " " + v, x.copy(s, i, t, j, v), m.copy(s, i, t, j, v)); break; }
            case 32: case 33: { int v = near(r, 0, 16); same(at + "take " + s + " " + v, x.take(s, v), m.take(s, v)); break; }
            case 34: same(at + "write " + s, x.write(s), m.write(s)); break;
            case 35: { int v = near(r, 0, 6); same(at + "count " + v, x.count(v), m.count(v)); break; }
            default: same(at + "drop " + column, x.drop(column), m.drop(column)); break;
        }
        same(at + "count 6", x.count(6), m.count(6));
    }

    // ---- what a board's games come to, by plain enumeration

    private static final class Solved {
        // a board as text: '.', '0', '1', square by square
        final Map<String, int[]> ends = new HashMap<>();
        final int[] come = new int[17];
        final int[] rowWon = new int[17];
        final int[][] shares = new int[3][17];

        Solved(Model m) {
            char[] empty = new char[m.w * m.h];
            Arrays.fill(empty, '.');
            Set<String> level = new HashSet<>();
            level.add(new String(empty));
            List<Set<String>> going = new ArrayList<>();
            for (int men = 0; men <= m.w * m.h; men++) {
                Set<String> open = new HashSet<>();
                Set<String> next = new HashSet<>();
                char mover = men % 2 == 0 ? '0' : '1';
                char last = men % 2 == 0 ? '1' : '0';
                come[men] = level.size();
                for (String p : level) {
                    if (m.has(p, last)) {
                        rowWon[men]++;
                    } else if (men < m.w * m.h) {
                        open.add(p);
                        for (int c = 0; c < m.w; c++) {
                            if (m.landing(p, c) >= 0) {
                                next.add(with(p, m.landing(p, c), mover));
                            }
                        }
                    }
                }
                going.add(open);
                level = next;
            }
            for (int men = m.w * m.h - 1; men >= 0; men--) {
                for (String p : going.get(men)) {
                    int[] end = judge(m, p, men);
                    ends.put(p, end);
                    shares[end[0] + 1][men]++;
                }
            }
        }

        static String with(String p, int square, char man) {
            return p.substring(0, square) + man + p.substring(square + 1);
        }

        // {1 the mover wins, 0, -1; how many moves are still made}
        int[] judge(Model m, String p, int men) {
            int[] chosen = null;
            for (int c = 0; c < m.w; c++) {
                if (m.landing(p, c) >= 0) {
                    int[] end = behind(m, p, men, c);
                    if (chosen == null || better(end, chosen)) {
                        chosen = end;
                    }
                }
            }
            return chosen;
        }

        int[] behind(Model m, String p, int men, int column) {
            char mover = men % 2 == 0 ? '0' : '1';
            String then = with(p, m.landing(p, column), mover);
            if (m.has(then, mover)) {
                return new int[] {1, 1};
            }
            if (men + 1 == m.w * m.h) {
                return new int[] {0, 1};
            }
            int[] end = ends.get(then);
            return new int[] {-end[0], end[1] + 1};
        }

        static boolean better(int[] one, int[] other) {
            if (one[0] != other[0]) {
                return one[0] > other[0];
            }
            return one[0] == 1 && one[1] < other[1] || one[0] == -1 && one[1] > other[1];
        }

        static int number(int[] end) {
            return end[0] == 0 ? 0 : end[0] == 1 ? 100 - end[1] : end[1] - 100;
        }
    }

    // ---- the document's object

    private static final class Model {
        private static final Map<String, Solved> SOLVED = new HashMap<>();

        int w = 4;
        int h = 4;
        int k = 3;
        boolean joined = false;
        List<List<Integer>> rows = findRows();
        List<Integer> moves = new ArrayList<>();
        int told = 0;
        int finding = 0;
        final int[] forms = {LOST, LOST, LOST, LOST};
        final int[][] items = new int[4][0];

        static void forgetLarge() {
            SOLVED.values().removeIf(solved -> solved.ends.size() > 60000);
        }

        List<List<Integer>> findRows() {
            int[][] ways = {{1, 0}, {0, 1}, {1, 1}, {-1, 1}};
            Set<TreeSet<Integer>> found = new HashSet<>();
            for (int square = 0; square < w * h; square++) {
                for (int[] way : ways) {
                    TreeSet<Integer> row = new TreeSet<>();
                    for (int i = 0; i < k; i++) {
                        int c = square % w + i * way[0];
                        int r = square / w + i * way[1];
                        if (joined) {
                            c = Math.floorMod(c, w);
                        }
                        if (c >= 0 && c < w && r < h) {
                            row.add(r * w + c);
                        }
                    }
                    if (row.size() == k) {
                        found.add(row);
                    }
                }
            }
            List<List<Integer>> all = new ArrayList<>();
            for (TreeSet<Integer> row : found) {
                all.add(new ArrayList<>(row));
            }
            all.sort((a, b) -> Arrays.compare(a.toArray(new Integer[0]), b.toArray(new Integer[0])));
            return all;
        }

        Solved solved() {
            return SOLVED.computeIfAbsent(w + " " + h + " " + k + " " + joined, key -> new Solved(this));
        }

        int landing(String p, int column) {
            for (int r = 0; r < h; r++) {
                if (p.charAt(r * w + column) == '.') {
                    return r * w + column;
                }
            }
            return -1;
        }

        List<Integer> firstRow(String p, char man) {
            for (List<Integer> row : rows) {
                if (row.stream().allMatch(square -> p.charAt(square) == man)) {
                    return row;
                }
            }
            return null;
        }

        boolean has(String p, char man) {
            for (List<Integer> row : rows) {
                boolean all = true;
                for (int square : row) {
                    all &= p.charAt(square) == man;
                }
                if (all) {
                    return true;
                }
            }
            return false;
        }

        String place(List<Integer> of) {
            char[] empty = new char[w * h];
            Arrays.fill(empty, '.');
            String p = new String(empty);
            for (int i = 0; i < of.size(); i++) {
                p = Solved.with(p, landing(p, of.get(i)), i % 2 == 0 ? '0' : '1');
            }
            return p;
        }

        String place() {
            return place(moves);
        }

        int state(List<Integer> of) {
            String p = place(of);
            if (has(p, of.size() % 2 == 0 ? '1' : '0')) {
                return 1;
            }
            return of.size() == w * h ? 2 : 0;
        }

        boolean over() {
            return state(moves) != 0;
        }

        boolean open(List<Integer> of, int column) {
            return column >= 0 && column < w && landing(place(of), column) >= 0;
        }

        int board(int nw, int nh, int nk, boolean nj) {
            if (nw < 1 || nw > 7 || nh < 1 || nh > 6 || nw * nh > 16 || nk < 2 || nk > 4) {
                return -200;
            }
            if (told == 12) {
                return -202;
            }
            told++;
            w = nw;
            h = nh;
            k = nk;
            joined = nj;
            rows = findRows();
            moves = new ArrayList<>();
            return rows.size();
        }

        int drop(int column) {
            if (!open(moves, column)) {
                return -200;
            }
            if (over()) {
                return -201;
            }
            int square = landing(place(), column);
            moves.add(column);
            return square;
        }

        int back(int n) {
            if (n < 0 || n > moves.size()) {
                return -200;
            }
            moves = new ArrayList<>(moves.subList(0, moves.size() - n));
            return moves.size();
        }

        int move(int i) {
            return i < 0 || i >= moves.size() ? -200 : moves.get(i);
        }

        int at(int square) {
            if (square < 0 || square >= w * h) {
                return -200;
            }
            char man = place().charAt(square);
            return man == '.' ? -1 : man - '0';
        }

        int game(int what) {
            String p = place();
            int found = 0;
            switch (what) {
                case 0: return moves.size() % 2;
                case 1: return moves.size();
                case 2: return state(moves);
                case 3:
                    for (int c = 0; c < w; c++) {
                        found += landing(p, c) >= 0 ? 1 : 0;
                    }
                    return found;
                case 4:
                    for (List<Integer> row : rows) {
                        found += row.stream().noneMatch(square -> p.charAt(square) == '1') ? 1 : 0;
                        found += row.stream().noneMatch(square -> p.charAt(square) == '0') ? 1 : 0;
                    }
                    return found;
                default: return -200;
            }
        }

        int won(int i) {
            if (state(moves) != 1 || i < 0 || i >= k) {
                return -200;
            }
            return firstRow(place(), moves.size() % 2 == 0 ? '1' : '0').get(i);
        }

        int worth() {
            return over() ? -201 : Solved.number(solved().ends.get(place()));
        }

        int worthOf(int column) {
            if (over()) {
                return -201;
            }
            if (!open(moves, column)) {
                return -200;
            }
            return Solved.number(solved().behind(this, place(), moves.size(), column));
        }

        int best() {
            if (over()) {
                return -201;
            }
            for (int c = 0; c < w; c++) {
                if (worthOf(c) == worth()) {
                    return c;
                }
            }
            return -999;
        }

        int as() {
            if (over()) {
                return -201;
            }
            int found = 0;
            for (int c = 0; c < w; c++) {
                found += worthOf(c) == worth() ? 1 : 0;
            }
            return found;
        }

        int play() {
            if (over()) {
                return -201;
            }
            int made = 0;
            while (!over()) {
                moves.add(best());
                made++;
            }
            return made;
        }

        int positions(int n) {
            return n < 0 || n > w * h ? -200 : solved().come[n];
        }

        int wins(int n) {
            return n < 0 || n > w * h ? -200 : solved().rowWon[n];
        }

        int share(int n, int sign) {
            return n < 0 || n > w * h || sign < -1 || sign > 1 ? -200 : solved().shares[sign + 1][n];
        }

        int even() {
            String p = place();
            for (int r = 0; r < h; r++) {
                String line = p.substring(r * w, r * w + w);
                if (!new StringBuilder(line).reverse().toString().equals(line)) {
                    return 0;
                }
            }
            return 1;
        }

        List<Integer> threatList(List<Integer> of, int side) {
            String p = place(of);
            List<Integer> found = new ArrayList<>();
            for (int square = 0; square < w * h; square++) {
                if (p.charAt(square) == '.' && has(Solved.with(p, square, (char) ('0' + side)), (char) ('0' + side))) {
                    found.add(square);
                }
            }
            return found;
        }

        int threats(int side) {
            return side < 0 || side > 1 ? -200 : threatList(moves, side).size();
        }

        int threat(int side, int i) {
            if (side < 0 || side > 1) {
                return -200;
            }
            List<Integer> found = threatList(moves, side);
            return i < 0 || i >= found.size() ? -200 : found.get(i);
        }

        int waiting() {
            if (over()) {
                return -201;
            }
            List<Integer> then = new ArrayList<>(moves);
            while (state(then) == 0) {
                then.add(waitingMove(then));
            }
            return state(then) == 2 ? 0 : then.size() % 2 == 1 ? 1 : -1;
        }

        int waitingMove(List<Integer> then) {
            int side = then.size() % 2;
            List<Integer> own = threatList(then, side);
            List<Integer> others = threatList(then, 1 - side);
            String p = place(then);
            for (int sort = 1; sort <= 5; sort++) {
                for (int c = 0; c < w; c++) {
                    int square = landing(p, c);
                    int above = square + w;
                    boolean fits = sort == 1 && own.contains(square)
                            || sort == 2 && others.contains(square)
                            || sort == 3 && !own.contains(above) && !others.contains(above)
                            || sort == 4 && !others.contains(above)
                            || sort == 5;
                    if (square >= 0 && fits) {
                        return c;
                    }
                }
            }
            return -1;
        }

        int refuse(int number) {
            finding = number;
            return -10 - number;
        }

        boolean badSheet(int s) {
            return s < 0 || s > 3;
        }

        int sheet(int s, int form, int n) {
            if (badSheet(s) || form < 0 || form > 2 || n > 20) {
                return -200;
            }
            if (n < 0) {
                return refuse(5);
            }
            forms[s] = form;
            items[s] = new int[n];
            return n;
        }

        int lose(int s) {
            if (badSheet(s)) {
                return -200;
            }
            if (forms[s] == LOST) {
                return refuse(1);
            }
            forms[s] = LOST;
            return items[s].length;
        }

        int itemFinding(int s, int form, int i) {
            if (forms[s] == LOST) {
                return 1;
            }
            if (forms[s] != form) {
                return 3;
            }
            return i < 0 || i >= items[s].length ? 2 : 0;
        }

        int put(int s, int form, int i, int v) {
            if (badSheet(s) || form < 0 || form > 2) {
                return -200;
            }
            int number = itemFinding(s, form, i);
            if (number != 0) {
                return refuse(number);
            }
            int bits = form == 0 ? 24 : form == 1 ? 16 : 0;
            items[s][i] = v << bits >> bits;
            return 1;
        }

        int get(int s, int form, int i) {
            if (badSheet(s) || form < 0 || form > 2) {
                return Integer.MIN_VALUE;
            }
            int number = itemFinding(s, form, i);
            if (number != 0) {
                refuse(number);
                return Integer.MIN_VALUE;
            }
            return items[s][i];
        }

        int copy(int s, int i, int t, int j, int n) {
            if (badSheet(s) || badSheet(t)) {
                return -200;
            }
            if (forms[s] == LOST || forms[t] == LOST) {
                return refuse(1);
            }
            if (forms[s] != forms[t]) {
                return refuse(4);
            }
            if (i < 0 || j < 0 || n < 0 || (long) i + n > items[s].length || (long) j + n > items[t].length) {
                return refuse(2);
            }
            int[] were = items[s].clone();
            for (int a = 0; a < n; a++) {
                items[t][j + a] = were[i + a];
            }
            return 1;
        }

        int take(int s, int n) {
            if (badSheet(s) || n < 0 || n > 16) {
                return -200;
            }
            if (forms[s] == LOST) {
                return refuse(1);
            }
            if (n > items[s].length) {
                return refuse(2);
            }
            List<Integer> taken = new ArrayList<>();
            for (int i = 0; i < n; i++) {
                if (state(taken) != 0 || !open(taken, items[s][i])) {
                    return -100 - i;
                }
                taken.add(items[s][i]);
            }
            moves = taken;
            return state(moves);
        }

        int write(int s) {
            if (badSheet(s)) {
                return -200;
            }
            if (forms[s] == LOST) {
                return refuse(1);
            }
            if (items[s].length < moves.size()) {
                return refuse(2);
            }
            for (int i = 0; i < moves.size(); i++) {
                items[s][i] = moves.get(i);
            }
            return moves.size();
        }

        int count(int what) {
            int[] answers = {w, h, k, joined ? 1 : 0, rows.size(), w * h, finding};
            return what < 0 || what > 6 ? -200 : answers[what];
        }

        long digest() {
            ArrayDeque<Integer> each = new ArrayDeque<>();
            for (int i = 0; i <= 5; i++) {
                each.add(count(i));
            }
            for (int i = 0; i <= 4; i++) {
                each.add(game(i));
            }
            each.addAll(moves);
            for (int i = 0; i < w * h; i++) {
                each.add(at(i));
            }
            long digest = 17;
            for (int number : each) {
                digest = digest * 31 + number;
            }
            return digest;
        }
    }
}
