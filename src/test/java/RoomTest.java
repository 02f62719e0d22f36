import java.lang.management.ManagementFactory;
import java.util.NoSuchElementException;
import java.util.Random;

/** Any arguments in any state: nothing but what the document says is thrown, and calls make next to nothing. */
public final class RoomTest {
    private static final Due due = new Due("RoomTest");
    private static final String DEAR = "wires 8;vow 9;switch a 0 1;switch b 2 3;switch c 4 5;switch d 6 7;switch e 1 2;"
        + "switch f 3 4;switch g 5 6;switch h 0 7;switch i 0 4;switch j 3 7;sister k a;";

    public static void main(String[] args) {
        wildArguments();
        thriftyCalls();
        due.close();
    }

    private static void wildArguments() {
        int[] edges = {Integer.MIN_VALUE, Integer.MIN_VALUE + 1, -1000, -2, -1, 0, 1, 2, 3, 4, 5, 6, 7, 8, 9, 10, 11, 12,
            20, 21, 30, 31, 60, 61, 255, 256, 399, 400, 940, 941, Integer.MAX_VALUE - 1, Integer.MAX_VALUE};
        Random r = new Random(4);
        for (int run = 0; run < 300; run++) {
            SistersBoard x = run % 3 == 0 ? new SistersBoard() : Due.boardOf(DEAR);
            for (int i = 0; i < 400; i++) {
                int[] p = new int[5];
                for (int k = 0; k < 5; k++) {
                    p[k] = r.nextInt(3) == 0 ? edges[r.nextInt(edges.length)] : r.nextInt(9);
                }
                any(x, r.nextInt(39), p);
            }
        }
    }

    private static void any(SistersBoard x, int which, int[] p) {
        boolean threw = false;
        boolean none = which == 0 && (p[0] < 0 || p[0] >= x.count(1) || p[1] < 0 || p[1] > 5);
        try {
            ask(x, which, p);
        } catch (NoSuchElementException e) {
            threw = true;
        }
        due.is("throws: call " + which + " with " + p[0] + ", " + p[1], threw, none);
    }

    private static void ask(SistersBoard x, int which, int[] p) {
        switch (which) {
            case 0 -> x.lever(p[0], p[1]);
            case 1 -> x.feed(p[0], p[1], p[2], p[3], p[4]);
            case 2 -> x.end(p[0]);
            case 3 -> x.fault();
            case 4 -> x.line(p[0], p[1]);
            case 5 -> x.out(p[0]);
            case 6 -> x.way(p[0], p[1]);
            case 7 -> x.now(p[0]);
            case 8 -> x.call(p[0], p[1], p[2], p[3]);
            case 9 -> x.hang(p[0]);
            case 10 -> x.turn(p[0]);
            case 11 -> x.jam(p[0]);
            case 12 -> x.free(p[0]);
            case 13 -> x.hours(p[0]);
            case 14 -> x.undo();
            case 15 -> x.shifts(p[0], p[1]);
            case 16 -> x.sets();
            case 17 -> x.setting();
            case 18 -> x.orders();
            case 19 -> x.deaf();
            case 20 -> x.deafAt();
            case 21 -> x.key();
            case 22 -> x.faulty();
            case 23 -> x.trial();
            case 24 -> x.hears(p[0]);
            case 25 -> x.share(p[0], p[1]);
            case 26 -> x.slip(p[0]);
            case 27 -> x.byteAt(p[0]);
            case 28 -> x.drawn(p[0], p[1]);
            case 29 -> x.odds(p[0], p[1], p[2]);
            case 30 -> x.book(p[0]);
            case 31 -> x.told(p[0]);
            case 32 -> x.sentence();
            case 33 -> x.said(p[0]);
            case 34 -> x.image(p[0]);
            case 35 -> x.restore(p[0]);
            case 36 -> x.count(p[0]);
            case 37 -> x.call(p[0] & 7, p[1] & 7, 1 + (p[2] & 15), p[3] & 1);
            default -> x.board();
        }
    }

    private static void thriftyCalls() {
        int[] board = Due.bytesOf(DEAR);
        long[] before = new long[2];
        SistersBoard x = null;
        long made = 0;
        long kept = 0;
        for (int round = 0; round < 2; round++) {
            // The first round loads classes; the second is the one that is measured.
            before[0] = allocated();
            x = new SistersBoard();
            before[1] = allocated();
            made = before[1] - before[0];
            Due.put(x, board);
            before[0] = allocated();
            x.board();
            for (int i = 0; i < 40; i++) {
                x.call(i & 7, (i + 3) & 7, 4, 1);
                x.odds(i & 7, 20, i);
                x.drawn(3, i);
                x.orders();
                x.key();
                x.deaf();
                x.image(i & 1);
                x.undo();
                x.slip(i & 7);
                x.restore(i & 1);
                x.said(-1);
                x.sentence();
                x.book(1);
            }
            kept = allocated() - before[0];
        }
        due.is("an object takes at most 60,000 bytes: " + made, made <= 60000, true);
        due.is("calls make next to nothing: " + kept, kept <= 4096, true);
    }

    private static long allocated() {
        com.sun.management.ThreadMXBean bean =
            (com.sun.management.ThreadMXBean) ManagementFactory.getThreadMXBean();
        return bean.getCurrentThreadAllocatedBytes();
    }
}
