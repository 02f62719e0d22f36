import java.util.NoSuchElementException;
import java.util.Random;

/** Runs of calls by a fixed seed, on the class and on the plain model: each answer must be the same. */
public final class ModelTest {
    private static final Due due = new Due("ModelTest");
    private static final String[] NAMES = {"north", "south", "mid", "east", "west", "a", "bb", "ccc", "dddd",
        "eeeee", "ffffff", "ggggggg", "ada", "bea", "cia", "dora", "eva"};

    public static void main(String[] args) {
        int runs = args.length > 0 ? Integer.parseInt(args[0]) : 400;
        for (int run = 0; run < runs; run++) {
            new ModelTest(run).go();
        }
        due.close();
    }

    private final Random r;
    private final int run;
    private final SistersBoard x = new SistersBoard();
    private final Model m = new Model();
    private int calls;

    private ModelTest(int run) {
        this.run = run;
        this.r = new Random(run * 7919L + 17);
    }

    private void same(String what, long got, long want) {
        calls++;
        due.is("run " + run + " call " + calls + " " + what, got, want);
    }

    private void go() {
        if (r.nextInt(10) > 0) {
            board(boardText());
        }
        for (int i = 0; i < 150; i++) {
            step();
        }
        lookAll();
    }

    private void lookAll() {
        for (int w = -1; w <= 8; w++) {
            same("now(" + w + ")", x.now(w), m.now(w));
            same("out(" + w + ")", x.out(w), m.out(w));
            for (int k = -1; k < 4; k++) {
                same("line(" + w + "," + k + ")", x.line(w, k), m.line(w, k));
            }
            same("said(" + w + ")", x.said(w), m.said(w));
            same("hears(" + w + ")", x.hears(w), m.hears(w));
            same("count(" + w + ")", x.count(w), m.count(w));
            same("told(" + w + ")", x.told(w), m.told(w));
        }
        for (int s = -1; s <= 10; s++) {
            for (int k = -1; k <= 6; k++) {
                lever(s, k);
            }
        }
    }

    private void lever(int s, int what) {
        same("lever(" + s + "," + what + ")", leverOf(true, s, what), leverOf(false, s, what));
    }

    private long leverOf(boolean real, int s, int what) {
        try {
            return real ? x.lever(s, what) : m.lever(s, what);
        } catch (NoSuchElementException e) {
            return -777;
        }
    }

    private int pick(String of) {
        return r.nextInt(of.length());
    }

    private int wire() {
        return r.nextInt(20) == 0 ? r.nextInt(12) - 2 : r.nextInt(m.plan.wires);
    }

    private int sw() {
        int n = m.plan.levers.size();
        return r.nextInt(15) == 0 || n == 0 ? r.nextInt(14) - 2 : r.nextInt(n);
    }

    private void feed(int[] bytes) {
        int had = m.tape.length;
        for (int from = 0; from < bytes.length; from += 20) {
            int[] f = Due.twenty(bytes, from);
            same("feed", x.feed(f[0], f[1], f[2], f[3], f[4]), m.feed(f[0], f[1], f[2], f[3], f[4]));
        }
        same("end", x.end(had + bytes.length) ? 1 : 0, m.end(had + bytes.length) ? 1 : 0);
    }

    private void board(String text) {
        feed(Due.bytesOf(text));
        same("board() " + text, x.board(), m.board());
        same("fault()", x.fault(), m.fault());
    }

    private void book(String text) {
        feed(Due.bytesOf(text));
        int lives = r.nextInt(20) == 0 ? 2 : r.nextInt(2);
        same("book(" + lives + ") " + text, x.book(lives), m.book(lives));
        same("fault()", x.fault(), m.fault());
        for (int k = 0; k < 4; k++) {
            same("told(" + k + ")", x.told(k), m.told(k));
        }
    }

    private void sentence(String text) {
        feed(Due.bytesOf(text));
        same("sentence() " + text, x.sentence(), m.sentence());
        same("fault()", x.fault(), m.fault());
        for (int k = -2; k < 4; k++) {
            same("said(" + k + ") " + text, x.said(k), m.said(k));
        }
    }

    private void step() {
        int kind = r.nextInt(100);
        if (kind < 30) {
            int in = wire();
            int out = wire();
            int n = r.nextInt(15) == 0 ? r.nextInt(34) - 1 : r.nextInt(12) + 1;
            int how = r.nextInt(25) == 0 ? r.nextInt(5) - 2 : r.nextInt(3) > 0 ? 1 : 0;
            same("shifts", x.shifts(in, out), m.shifts(in, out));
            same("call(" + in + "," + out + "," + n + "," + how + ")", x.call(in, out, n, how),
                m.call(in, out, n, how));
        } else if (kind < 34) {
            int in = wire();
            same("hang", x.hang(in), m.hang(in));
        } else if (kind < 39) {
            int s = sw();
            same("turn", x.turn(s), m.turn(s));
        } else if (kind < 43) {
            int s = sw();
            same("jam", x.jam(s), m.jam(s));
        } else if (kind < 48) {
            int s = sw();
            same("free", x.free(s), m.free(s));
        } else if (kind < 53) {
            int n = r.nextInt(10) == 0 ? r.nextInt(64) - 1 : r.nextInt(4) + 1;
            same("hours", x.hours(n), m.hours(n));
        } else if (kind < 57) {
            for (int k = r.nextInt(r.nextInt(8) == 0 ? 12 : 3); k >= 0; k--) {
                same("undo", x.undo(), m.undo());
            }
        } else if (kind < 62) {
            sets();
        } else if (kind < 66) {
            same("orders", x.orders(), m.orders());
            same("deaf", x.deaf(), m.deaf());
            same("deafAt", x.deafAt(), m.deafAt());
        } else if (kind < 68) {
            same("key", x.key(), m.key());
        } else if (kind < 73) {
            faulty();
        } else {
            rarer(kind);
        }
        look();
    }

    private void rarer(int kind) {
        if (kind < 76) {
            int n = r.nextInt(10) == 0 ? r.nextInt(64) - 1 : r.nextInt(4) + 1;
            int seed = r.nextInt();
            same("drawn(" + n + "," + seed + ")", x.drawn(n, seed), m.drawn(n, seed));
        } else if (kind < 77) {
            int in = wire();
            int n = r.nextInt(10) == 0 ? r.nextInt(24) - 1 : r.nextInt(2) + 1;
            int seed = r.nextBoolean() ? r.nextInt() : Integer.MAX_VALUE;
            same("odds", x.odds(in, n, seed), m.odds(in, n, seed));
        } else if (kind < 84) {
            book(spoil(bookText()));
        } else if (kind < 91) {
            sentence(spoil(condText(3)));
        } else if (kind < 92) {
            board(spoil(boardText()));
        } else if (kind < 95) {
            int k = r.nextInt(8) == 0 ? r.nextInt(5) - 2 : r.nextInt(2);
            same("image", x.image(k) ? 1 : 0, m.image(k) ? 1 : 0);
        } else if (kind < 97) {
            int k = r.nextInt(8) == 0 ? r.nextInt(5) - 2 : r.nextInt(2);
            same("restore", x.restore(k) ? 1 : 0, m.restore(k) ? 1 : 0);
        } else if (kind < 98) {
            int n = r.nextInt(60) - 3;
            same("end", x.end(n) ? 1 : 0, m.end(n) ? 1 : 0);
        } else {
            int in = wire();
            same("slip", x.slip(in), m.slip(in));
            for (int i = -1; i < 15; i++) {
                same("byteAt", x.byteAt(i), m.byteAt(i));
            }
        }
    }

    private void look() {
        for (int k = 0; k < 8; k++) {
            same("now(" + k + ")", x.now(k), m.now(k));
        }
        int w = wire();
        int v = wire();
        int k = r.nextInt(13) - 1;
        same("way", x.way(w, k), m.way(w, k));
        same("share", x.share(w, v), m.share(w, v));
        same("line", x.line(w, k), m.line(w, k));
        same("said", x.said(k), m.said(k));
        same("hears", x.hears(k), m.hears(k));
        same("setting", x.setting(), m.setting());
        same("trial", x.trial(), m.trial());
        same("fault", x.fault(), m.fault());
        lever(sw(), r.nextInt(8) - 1);
    }

    private void sets() {
        int n = m.plan.wires;
        int[] t = new int[r.nextInt(15) == 0 ? r.nextInt(10) : n];
        int setting = r.nextInt(1 << m.plan.levers.size());
        for (int i = 0; i < t.length; i++) {
            t[i] = r.nextInt(3) == 0 ? 255 : i < n ? m.ends(setting, i) : i;
        }
        if (t.length > 0 && r.nextInt(10) == 0) {
            t[r.nextInt(t.length)] = r.nextInt(10);
        }
        feed(t);
        same("sets", x.sets(), m.sets());
        same("setting", x.setting(), m.setting());
    }

    private void faulty() {
        int[] t = new int[r.nextInt(12) == 0 ? r.nextInt(20) : 2 * (1 + r.nextInt(3))];
        int n = m.plan.levers.size();
        int setting = m.sit.setting ^ (n > 0 && r.nextInt(4) > 0 ? 1 << r.nextInt(n) : 0);
        for (int i = 0; i < t.length; i++) {
            t[i] = i % 2 == 0 ? r.nextInt(m.plan.wires) : m.ends(setting, t[i - 1]);
        }
        if (t.length > 0 && r.nextInt(10) == 0) {
            t[r.nextInt(t.length)] = r.nextInt(10);
        }
        feed(t);
        same("faulty", x.faulty(), m.faulty());
        same("trial", x.trial(), m.trial());
    }

    // ---- texts

    private String gap() {
        return r.nextInt(6) == 0 ? "\n  " : " ";
    }

    private String boardText() {
        StringBuilder b = new StringBuilder();
        int wires = 2 + r.nextInt(7);
        if (r.nextInt(8) > 0) {
            b.append("wires").append(gap()).append(wires).append(";");
        } else {
            wires = 4;
        }
        if (r.nextInt(4) > 0) {
            b.append("vow ").append(r.nextInt(4)).append(";");
        }
        int n = r.nextInt(4) == 0 ? r.nextInt(12) : 4 + r.nextInt(4);
        for (int i = 0; i < n; i++) {
            int p = r.nextInt(wires - 1);
            int q = r.nextInt(3) > 0 ? p + 1 : p + 1 + r.nextInt(wires - 1 - p);
            b.append("switch ").append(NAMES[i]).append(gap()).append(p).append(" ").append(q);
            b.append(r.nextInt(4) == 0 ? " changed" : "").append(gap()).append(";");
        }
        for (int i = 0; n > 0 && i < r.nextInt(7); i++) {
            b.append("sister ").append(NAMES[12 + i % 5]).append(" ").append(NAMES[r.nextInt(n)]).append(";");
        }
        return b.toString();
    }

    private String switchName() {
        int n = m.plan.levers.size();
        return n == 0 || r.nextInt(25) == 0 ? NAMES[r.nextInt(NAMES.length)] : NAMES[r.nextInt(n)];
    }

    private String bookText() {
        StringBuilder b = new StringBuilder();
        int n = r.nextInt(12) == 0 ? r.nextInt(45) : r.nextInt(9);
        int wires = r.nextInt(12) == 0 ? 8 : m.plan.wires;
        for (int i = 0; i < n; i++) {
            String[] verbs = {"turn ", "jam ", "free "};
            switch (r.nextInt(n > 9 ? 3 : 6)) {
                case 0 -> b.append("hour ").append(r.nextInt(15) == 0 ? r.nextInt(63) : 1 + r.nextInt(3));
                case 1 -> b.append("end ").append(r.nextInt(wires));
                case 2 -> b.append(verbs[r.nextInt(3)]).append(switchName());
                default -> b.append("call ").append(r.nextInt(wires)).append(gap()).append(r.nextInt(wires))
                    .append(" ").append(1 + r.nextInt(9)).append(r.nextBoolean() ? " strict" : " shift");
            }
            b.append(";");
        }
        return b.toString();
    }

    private String condText(int depth) {
        StringBuilder b = new StringBuilder(oneText(depth));
        for (int k = r.nextInt(r.nextInt(20) == 0 ? 24 : 4); k > 0; k--) {
            b.append(r.nextBoolean() ? " and " : " or ").append(oneText(depth));
        }
        return b.toString();
    }

    private String oneText(int depth) {
        if (depth > 0 && r.nextInt(4) == 0) {
            return r.nextBoolean() ? "not " + oneText(r.nextInt(10) == 0 ? 9 : depth - 1)
                : "(" + condText(depth - 1) + ")";
        }
        String sign = "<=>".substring(pick("<=>")).substring(0, 1);
        switch (r.nextInt(8)) {
            case 0: return "changed";
            case 1: return "jammed";
            case 2: return "used";
            case 3: return m.plan.sisters.isEmpty() ? "used"
                : "by " + m.plan.sisters.get(r.nextInt(m.plan.sisters.size())).name();
            case 4: return "on " + r.nextInt(9);
            case 5: return "calls " + sign + r.nextInt(4);
            case 6: return "turns" + sign + " " + r.nextInt(6);
            default: return "number" + sign + r.nextInt(10);
        }
    }

    /** Now and then a text with a byte or a word more, less or otherwise. */
    private String spoil(String text) {
        if (r.nextInt(3) > 0 || text.isEmpty()) {
            return text;
        }
        int at = r.nextInt(text.length());
        String[] bits = {"", " ", "\n", ";", "7", "999", "1000", "x", "ada", "(", ")", "<", " not ", " and ", "Q", "-",
            " changed ", " switch ", " 3 ", ".", " wires ", " north "};
        return text.substring(0, at) + bits[r.nextInt(bits.length)]
            + text.substring(Math.min(text.length(), at + r.nextInt(3)));
    }
}
