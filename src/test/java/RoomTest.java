import java.lang.management.ManagementFactory;

/** How much room a run takes: what is made is made once for an object, not call by call. */
public final class RoomTest {
    private static final com.sun.management.ThreadMXBean ROOM =
            (com.sun.management.ThreadMXBean) ManagementFactory.getThreadMXBean();
    private static int wrong = 0;
    private static long answers = 0;

    public static void main(String[] args) {
        // what the machine makes for itself at the first use is not the program's
        largestRun();
        plainCalls(new DropRows());
        long before = made();
        largestRun();
        below("a run with twelve boards, each larger than the last", made() - before, 8L * 500_000);
        DropRows x = new DropRows();
        x.worth();
        before = made();
        plainCalls(x);
        below("calls behind the first search", made() - before, 2_000);
        before = made();
        for (int i = 0; i < 100; i++) {
            answers += new DropRows().drop(0);
        }
        below("a hundred objects that are asked for no worth", made() - before, 100L * 8 * 1_000);
        System.out.println(wrong == 0 ? "the room is kept" : wrong + " runs take too much room");
        if (wrong != 0) {
            System.exit(1);
        }
    }

    private static long made() {
        return ROOM.getThreadAllocatedBytes(Thread.currentThread().getId());
    }

    private static void below(String what, long bytes, long most) {
        System.out.println(what + ": " + bytes + " bytes");
        if (bytes > most) {
            wrong++;
            System.out.println("that is above " + most);
        }
    }

    private static void largestRun() {
        int[][] boards = {{1, 1}, {3, 2}, {3, 3}, {4, 2}, {2, 5}, {4, 3}, {5, 2}, {6, 2}, {3, 5}, {5, 3}, {7, 2}, {4, 4}};
        DropRows x = new DropRows();
        for (int[] b : boards) {
            answers += x.board(b[0], b[1], 4, false);
            for (int i = 0; i < 41; i++) {
                answers += x.positions(i % (b[0] * b[1])) + x.worth();
            }
        }
    }

    private static void plainCalls(DropRows x) {
        for (int i = 0; i < 30; i++) {
            answers += x.sheet(i % 4, 0, 20) + x.put(i % 4, 0, 1, 1) + x.get(i % 4, 0, 1) + x.write(i % 4)
                    + x.copy(i % 4, 0, i % 4, 1, 9) + x.drop(i % 4) + x.best() + x.as() + x.threats(0)
                    + x.threat(1, 0) + x.waiting() + x.even() + x.digest() + x.take(i % 4, 3) + x.back(0) + x.lose(i % 4);
        }
    }
}
