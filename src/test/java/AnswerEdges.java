import java.util.Arrays;

/** Boundary cases of the promises that tell: 1 to 3, 6 to 10, 18 to 30, 32, 34, 36 and 39. */
final class AnswerEdges {
    private static final int NONE = -1;
    private static final int[] FAR = {-2, -1000, Integer.MIN_VALUE, Integer.MAX_VALUE, 255, 256, 1 << 16, -256};

    /** By setting, where 0, 1, 2 come out: 0: 012, 1: 102, 2: 021, 3: 201, 4: 102, 5: 012, 6: 120, 7: 210. */
    private static final String THREE = "wires 3;switch a 0 1;switch b 1 2;switch c 0 1;sister ada b;sister bea c;";
    private static final String TEN = "wires 8;switch a 0 1;switch b 2 3;switch c 4 5;switch d 6 7;switch e 1 2;"
        + "switch f 3 4;switch g 5 6;switch h 0 7;switch i 0 4;switch j 3 7;";

    private final Due due;

    AnswerEdges(Due due) {
        this.due = due;
    }

    void go() {
        newObject();
        manyCalls();
        feeds();
        feedFull();
        ends();
        levers();
        leverThrows();
        lines();
        outs();
        ways();
        nows();
        shiftsTold();
        setsNotAsTold();
        setsCounted();
        leastSetting();
        ordersCounted();
        deafPairs();
        firstDeaf();
        keys();
        faultyNotAsTold();
        faultyOnes();
        trials();
        hearing();
        sharing();
        slips();
        bytesOfSlip();
        oddsNotAsTold();
        oddsWrap();
        told();
        said();
        counts();
    }

    private static SistersBoard three() {
        return Due.boardOf(THREE);
    }

    /** Boards of 2 to 8 wires. */
    private static SistersBoard wires(int n) {
        return Due.boardOf("wires " + n + ";switch a 0 1;switch b 0 " + (n - 1) + ";");
    }

    private static String tenOn(String wires) {
        StringBuilder b = new StringBuilder();
        for (char c = 'a'; c < 'k'; c++) {
            b.append("switch ").append(c).append(' ').append(wires).append(';');
        }
        return b.toString();
    }

    private static void asThree(SistersBoard x) {
        Due.text(x, THREE).board();
        x.call(0, 1, 9, 0);
        x.jam(1);
        x.slip(0);
        Due.text(x, "vow 7;");
    }

    // ---- a new object, its tape

    private void newObject() {
        due.by(1, "A BOARD of 4 wires without SWITCHES; an empty tape.");
        SistersBoard x = new SistersBoard();
        int[] want = {4, 0, 0, 1, 0};
        for (int what = 0; what < 5; what++) {
            due.is("count " + what, x.count(what), want[what]);
        }
        for (int what = 0; what < 8; what++) {
            due.is("now " + what, x.now(what), 0);
        }
        for (int in = 0; in < 4; in++) {
            due.is("out", x.out(in), in);
        }
        due.is("no wire 4", x.out(4), NONE);
        due.is("no switch 0", Looks.leverOf(x, 0, 0), Looks.THROWS);
        due.is("no sister 0", x.hears(0), NONE);
        due.is("nothing to undo", x.undo(), NONE);
        due.is("no sentence", x.said(NONE), NONE);
        due.is("no slip", x.byteAt(0), NONE);
        due.is("no image", x.restore(0) || x.restore(1), false);
        due.is("nothing on the tape", x.end(1), false);
        due.is("as an empty board", x.board(), 0);
        Looks.alike(due, "an empty board is as a new object", x, new SistersBoard());
        // Two objects have nothing in common.
        SistersBoard y = new SistersBoard();
        asThree(new SistersBoard());
        Looks.alike(due, "another object's acts", y, new SistersBoard());
    }

    private void manyCalls() {
        due.by(1, "An object is used for at most 512 calls after it has been made");
        SistersBoard x = new SistersBoard();
        for (int i = 1; i <= 511; i++) {
            int k = i % 2 == 1 ? x.call(i / 2 % 4, i / 2 % 4, 30, i / 8 % 2) : x.hang((i - 1) / 2 % 4);
            due.is("call " + i, k, 0);
        }
        due.is("call 512", x.now(5), 256);
    }

    private void feeds() {
        due.by(2, "Twenty bytes come behind the tape, of each number the highest first: how many it has");
        SistersBoard x = Due.boardOf("wires 8;");
        due.is("20", x.feed(0x00010203, 0x04050607, 0, 0, 0), 20);
        x.end(8);
        due.is("each byte at its place", x.sets(), 1);
        due.is("20", x.feed(0x03020100, 0x07060504, 0, 0, 0), 20);
        x.end(8);
        due.is("the lowest first is another order", x.sets(), 0);
        due.is("highest bits", x.feed(-1, 0x80FFFFFF, 0, 0, 0), 20);
        x.end(8);
        due.is("128 is no wire", x.sets(), NONE);
        due.is("255 is any", x.feed(-1, -1, 0, 0, 0), 20);
        x.end(8);
        due.is("255 is any", x.sets(), 1);
        // All five numbers, in their order, behind what is there.
        due.is("20", x.feed(0x766F7720, 0x333B2020, 0x20202020, 0x20202020, 0x20202020), 20);
        due.is("40", x.feed(0x20202020, 0x20202020, 0x77697265, 0x73202020, 0x2020353B), 40);
        due.is("a text of forty bytes", x.board(), 2);
        due.is("vow", x.count(3), 3);
        due.is("wires", x.count(0), 5);
        // Behind what end() left.
        x.feed(0x766F7720, 0x333B2020, 0, 0, 0);
        x.end(4);
        due.is("24", x.feed(0x373B2020, 0x20202020, 0x20202020, 0x20202020, 0x20202020), 24);
        due.is("behind four bytes", x.board(), 1);
        due.is("vow", x.count(3), 7);
    }

    private void feedFull() {
        due.by(2, "NONE, and none come, if it would have more than 940.");
        SistersBoard x = new SistersBoard();
        for (int i = 1; i <= 47; i++) {
            due.is("feed " + i, x.feed(0x20202020, 0x20202020, 0x20202020, 0x20202020, 0x20202020), 20 * i);
        }
        due.is("full", x.feed(1, 2, 3, 4, 5), NONE);
        due.is("none came", x.count(4), 940);
        due.is("it stays as it was", x.board(), -901);
        int[] left = {940, 939, 921, 920, 901};
        for (int n : left) {
            SistersBoard y = new SistersBoard();
            for (int i = 0; i < 47; i++) {
                y.feed(0, 0, 0, 0, 0);
            }
            y.end(n);
            due.is("with " + n, y.feed(0, 0, 0, 0, 0), n > 920 ? NONE : n + 20);
            due.is("then it has", y.count(4), n > 920 ? n : n + 20);
        }
    }

    private void ends() {
        due.by(3, "The tape has its first n bytes alone: true; false, if it has not so many, or n is below 0.");
        SistersBoard x = new SistersBoard();
        due.is("0 of none", x.end(0), true);
        due.is("1 of none", x.end(1), false);
        due.is("-1 of none", x.end(-1), false);
        Due.text(x, "vow 3;");
        due.is("one too many", x.end(7), false);
        due.is("it stays", x.count(4), 6);
        due.is("all", x.end(6), true);
        due.is("it stays", x.count(4), 6);
        due.is("below 0", x.end(-1), false);
        for (int far : FAR) {
            due.is("far " + far, x.end(far), false);
            due.is("it stays", x.count(4), 6);
        }
        due.is("the text is there", x.board(), 1);
        due.is("vow", x.count(3), 3);
        Due.text(x, "vow 3;vow");
        due.is("one less", x.end(8), true);
        due.is("what is gone does not come back", x.end(9), false);
        due.is("the first", x.end(6), true);
        due.is("the first alone", x.board(), 1);
        Due.text(x, "vow 3;");
        due.is("none", x.end(0), true);
        due.is("none is left", x.count(4), 0);
        tapeAlone();
    }

    /** Bytes that are gone from the tape are read by no call. */
    private void tapeAlone() {
        SistersBoard x = three();
        Due.text(x, "usedused").end(4);
        due.is("a word's end", x.sentence(), 1);
        Due.text(x, "on 12").end(4);
        due.is("a number's end", x.sentence(), 1);
        due.is("on 1", x.said(NONE), 3);
        Due.text(x, "used or used").end(4);
        due.is("a sentence's end", x.sentence(), 1);
        Due.text(x, "hour 1;hour 1;").end(7);
        due.is("a book's end", x.book(0), NONE);
        due.is("one line", x.told(1), 1);
        Due.put(x, 1, 0, 2, 9).end(3);
        due.is("an order's end", x.sets(), 2);
        Due.put(x, 0, 1, 255, 255).end(2);
        due.is("the pairs' end", x.faulty(), 5);
        Due.put(x, 0, 1, 0, 0).end(2);
        due.is("the pairs' end", x.faulty(), 5);
        // The same by bytes that an earlier text left: it was longer.
        Due.text(x, "@".repeat(300)).board();
        x.feed(0x75736564, -1, -1, -1, -1);
        x.end(4);
        due.is("behind a longer text", x.sentence(), 1);
        fullTapes();
    }

    /** A token may go on to the very last byte of a full tape. */
    private void fullTapes() {
        String[] signs = {"a", "7", " ", ";", "(", "@", "vow 7", "used and "};
        for (String sign : signs) {
            String text = sign.repeat(940 / sign.length() + 1).substring(0, 940);
            for (int kind = 0; kind < 3; kind++) {
                SistersBoard x = three();
                Due.text(x, text);
                due.is("full", x.count(4), 940);
                int answer = kind == 0 ? x.board() : kind == 1 ? x.book(0) : x.sentence();
                due.is("a fault in a full tape of " + sign, answer < 0 && x.fault() > 0, true);
                due.is("it is empty then", x.count(4), 0);
            }
        }
    }

    // ---- what is so

    private void levers() {
        due.by(6, "Of a SWITCH: 0, 1 its wires, 2 changed (1, 0), 3 JAMMED (1, 0), 4 calls that go through it, as bits by IN, 5 how often it was turned so far.");
        SistersBoard x = Due.boardOf(TEN);
        int[] low = {0, 2, 4, 6, 1, 3, 5, 0, 0, 3};
        int[] high = {1, 3, 5, 7, 2, 4, 6, 7, 4, 7};
        for (int s = 0; s < 10; s++) {
            due.is("low", x.lever(s, 0), low[s]);
            due.is("high", x.lever(s, 1), high[s]);
            for (int what = 2; what <= 5; what++) {
                due.is("at first", x.lever(s, what), 0);
            }
            x.turn(s);
            due.is("changed is 1", x.lever(s, 2), 1);
            due.is("turned", x.lever(s, 5), 1);
            x.turn(s);
            due.is("straight is 0", x.lever(s, 2), 0);
            due.is("turned again", x.lever(s, 5), 2);
            x.jam(s);
            due.is("jammed is 1", x.lever(s, 3), 1);
            x.free(s);
            due.is("freed is 0", x.lever(s, 3), 0);
        }
        for (int in = 0; in < 8; in++) {
            x.call(in, in, 1, 0);
        }
        due.is("both calls of the last wires", x.lever(3, 4), 192);
        due.is("both calls of the first wires", x.lever(0, 4), 3);
        due.is("by the last", x.lever(9, 4), 128 + 8);
        x.hours(1);
        due.is("no calls", x.lever(9, 4), 0);
    }

    private void leverThrows() {
        due.by(6, "NoSuchElementException: no such ones.");
        SistersBoard x = three();
        due.is("the last", x.lever(2, 5), 0);
        int[][] bad = {{3, 0}, {-1, 0}, {0, 6}, {0, -1}, {3, 6}, {-1, -1}, {10, 0}, {32, 0}, {0, 32}};
        for (int[] b : bad) {
            due.is("lever(" + b[0] + ", " + b[1] + ")", Looks.leverOf(x, b[0], b[1]), Looks.THROWS);
        }
        for (int far : FAR) {
            due.is("far switch", Looks.leverOf(x, far, 0), Looks.THROWS);
            due.is("far what", Looks.leverOf(x, 0, far), Looks.THROWS);
        }
        SistersBoard ten = Due.boardOf(TEN);
        due.is("switch 9 of ten", ten.lever(9, 0), 3);
        due.is("switch 10 of ten", Looks.leverOf(ten, 10, 0), Looks.THROWS);
        due.by(6, "A call that throws changes nothing.");
        Looks.leaves(due, "no such switch", AnswerEdges::asThree, y -> Looks.leverOf(y, 3, 0), Looks.THROWS);
        Looks.leaves(due, "no such what", AnswerEdges::asThree, y -> Looks.leverOf(y, 0, 6), Looks.THROWS);
    }

    private void lines() {
        due.by(7, "Of a wire on which a call is: 0 OUT, 1 HOURS that are left, 2 how often it was SHIFTED.");
        SistersBoard x = three();
        x.call(0, 1, 2, 0);
        due.is("OUT", x.line(0, 0), 1);
        due.is("HOURS", x.line(0, 1), 2);
        due.is("SHIFTED", x.line(0, 2), 0);
        x.hours(1);
        due.is("the last HOUR", x.line(0, 1), 1);
        x.call(2, 0, 9, 1);
        due.is("SHIFTED once", x.line(0, 2), 1);
        due.is("OUT stays", x.line(0, 0), 1);
        x.hours(1);
        due.by(7, "NONE: no call, no such ones.");
        for (int what = 0; what < 3; what++) {
            due.is("it has ended", x.line(0, what), NONE);
            due.is("none was there", x.line(1, what), NONE);
            due.is("no wire 3", x.line(3, what), NONE);
            due.is("no wire -1", x.line(-1, what), NONE);
            for (int far : FAR) {
                due.is("far wire", x.line(far, what), NONE);
            }
        }
        due.is("one is here", x.line(2, 0), 0);
        due.is("no what 3", x.line(2, 3), NONE);
        due.is("no what -1", x.line(2, -1), NONE);
        for (int far : FAR) {
            due.is("far what", x.line(2, far), NONE);
        }
        // A call anew on the same wire has not been shifted.
        x.call(0, 1, 1, 1);
        due.is("anew", x.line(0, 2), 0);
        SistersBoard y = Due.boardOf("wires 8;");
        y.call(7, 7, 30, 0);
        due.is("the last wire", y.line(7, 0), 7);
        due.is("30 HOURS", y.line(7, 1), 30);
        due.is("no wire 8", y.line(8, 0), NONE);
    }

    private void outs() {
        due.by(8, "Where a wire comes out now; NONE: no such one.");
        for (int n = 2; n <= 8; n++) {
            SistersBoard x = wires(n);
            x.turn(1);
            due.is("0", x.out(0), n - 1);
            due.is("the last", x.out(n - 1), 0);
            due.is("beyond", x.out(n), NONE);
            due.is("below", x.out(-1), NONE);
        }
        for (int far : FAR) {
            due.is("far", wires(8).out(far), NONE);
        }
    }

    private void ways() {
        due.by(9, "On which wire it is behind k SWITCHES (0: itself); NONE: no such ones.");
        SistersBoard x = three();
        x.turn(0);
        x.turn(1);
        int[][] way = {{0, 1, 2, 2}, {1, 0, 0, 0}, {2, 2, 1, 1}};
        for (int in = 0; in < 3; in++) {
            for (int k = 0; k <= 3; k++) {
                due.is("way " + in + " " + k, x.way(in, k), way[in][k]);
            }
            due.is("beyond the last switch", x.way(in, 4), NONE);
            due.is("below none", x.way(in, -1), NONE);
            for (int far : FAR) {
                due.is("far k", x.way(in, far), NONE);
            }
        }
        due.is("no wire 3", x.way(3, 0), NONE);
        due.is("no wire -1", x.way(-1, 0), NONE);
        for (int far : FAR) {
            due.is("far wire", x.way(far, 0), NONE);
        }
        SistersBoard y = new SistersBoard();
        due.is("without switches", y.way(3, 0), 3);
        due.is("without switches", y.way(3, 1), NONE);
        SistersBoard z = Due.boardOf(TEN);
        due.is("behind ten", z.way(7, 10), 7);
        due.is("behind eleven", z.way(7, 11), NONE);
    }

    private void nows() {
        due.by(10, "NONE for another what.");
        SistersBoard x = three();
        x.call(0, 1, 9, 0);
        x.call(2, 0, 8, 1);
        x.hours(3);
        x.jam(1);
        int[] want = {3, 6, 2, 5, 3, 2, 1, 4};
        for (int what = 0; what < 8; what++) {
            due.is("now " + what, x.now(what), want[what]);
        }
        due.is("8", x.now(8), NONE);
        due.is("-1", x.now(-1), NONE);
        for (int far : FAR) {
            due.is("far", x.now(far), NONE);
        }
        due.by(10, "3 wires on which calls are, 4 at which they come out, as bits each");
        SistersBoard y = Due.boardOf(TEN);
        for (int in = 0; in < 8; in++) {
            y.call(in, in, 1, 0);
        }
        due.is("all wires", y.now(3), 255);
        due.is("all wires", y.now(4), 255);
        y.hours(1);
        due.is("none", y.now(3) + y.now(4), 0);
        due.is("so far", y.now(5), 8);
        for (int s = 0; s < 10; s++) {
            y.turn(s);
            y.jam(s);
        }
        due.is("all changed", y.now(1), 1023);
        due.is("all jammed", y.now(2), 1023);
        due.is("turned so far", y.now(7), 10);
    }

    private void shiftsTold() {
        due.by(18, "How many calls must be shifted so that one could be put through (0: strict)");
        SistersBoard x = three();
        due.is("no call is up", x.shifts(0, 1), 0);
        x.call(0, 1, 9, 0);
        due.is("strict", x.shifts(2, 2), 0);
        due.is("one", x.shifts(2, 0), 1);
        Looks.leaves(due, "it only tells", AnswerEdges::asThree, y -> y.shifts(2, 2), 0);
        due.by(18, "NONE: not by any, one is on either, no such ones.");
        due.is("one is on IN", x.shifts(0, 0), NONE);
        due.is("one comes out at OUT", x.shifts(2, 1), NONE);
        due.is("one is on IN, one comes out at OUT", x.shifts(0, 1), NONE);
        due.is("not by any", new SistersBoard().shifts(0, 1), NONE);
        x.jam(0);
        due.is("not by any, one is jammed", x.shifts(2, 0), NONE);
        for (int n = 2; n <= 8; n++) {
            SistersBoard y = wires(n);
            due.is("the last wires", y.shifts(n - 1, n - 1), 0);
            due.is("no such IN", y.shifts(n, 0), NONE);
            due.is("no such OUT", y.shifts(0, n), NONE);
            due.is("IN below", y.shifts(-1, 0), NONE);
            due.is("OUT below", y.shifts(0, -1), NONE);
        }
        for (int far : FAR) {
            due.is("far IN", x.shifts(far, 0), NONE);
            due.is("far OUT", x.shifts(1, far), NONE);
        }
    }

    // ---- by all settings

    private void setsNotAsTold() {
        due.by(19, "SETS: how many SETTINGS; NONE: not as told.");
        for (int n = 2; n <= 8; n++) {
            SistersBoard x = wires(n);
            int[] order = new int[n];
            for (int i = 0; i < n; i++) {
                order[i] = i;
            }
            due.is("as many bytes as wires", Due.put(x, order).sets() > 0, true);
            due.is("one more", Due.put(x, Arrays.copyOf(order, n + 1)).sets(), NONE);
            due.is("one less", Due.put(x, Arrays.copyOf(order, n - 1)).sets(), NONE);
            due.is("none", x.sets(), NONE);
            due.is("twenty", x.feed(0, 0, 0, 0, 0) + x.sets(), 19);
            int[] bad = {n, 8, 128, 254};
            for (int b : bad) {
                int[] other = order.clone();
                other[n - 1] = b;
                due.is("a byte " + b, Due.put(x, other).sets(), b < n ? 0 : NONE);
                other = order.clone();
                other[0] = b;
                due.is("a byte " + b, Due.put(x, other).sets(), b < n ? 0 : NONE);
            }
            order[n - 1] = 255;
            due.is("255: anywhere", Due.put(x, order).sets() > 0, true);
        }
    }

    private void setsCounted() {
        due.by(19, "how many SETTINGS (JAMMED ones as they are) do so; the least number.");
        SistersBoard x = three();
        due.is("all", Due.put(x, 255, 255, 255).sets(), 8);
        due.is("two", Due.put(x, 1, 0, 2).sets(), 2);
        due.is("two come out at one: none", Due.put(x, 1, 1, 255).sets(), 0);
        x.jam(0);
        due.is("a as it is, straight", Due.put(x, 1, 0, 2).sets(), 1);
        due.is("the least", x.setting(), 4);
        x.free(0);
        x.turn(0);
        x.jam(0);
        due.is("a as it is, changed", Due.put(x, 1, 0, 2).sets(), 1);
        due.is("the least", x.setting(), 1);
        x.jam(1);
        x.jam(2);
        due.is("all as they are", Due.put(x, 255, 255, 255).sets(), 1);
        due.is("the least is as it is", x.setting(), 1);
        due.is("another order: none", Due.put(x, 0, 1, 2).sets(), 0);
        SistersBoard y = Due.boardOf(TEN);
        int[] any = {255, 255, 255, 255, 255, 255, 255, 255};
        due.is("all of ten", Due.put(y, any).sets(), 1024);
        due.is("without switches", Due.put(new SistersBoard(), 0, 1, 2, 3).sets(), 1);
        due.is("without switches", Due.put(new SistersBoard(), 1, 0, 2, 3).sets(), 0);
    }

    private void leastSetting() {
        due.by(20, "The least of them by the latest sets() above 0; NONE ahead of any.");
        SistersBoard x = three();
        due.is("ahead of any", x.setting(), NONE);
        due.is("not as told", x.sets(), NONE);
        due.is("still ahead of any", x.setting(), NONE);
        due.is("none", Due.put(x, 1, 1, 1).sets(), 0);
        due.is("still ahead of any", x.setting(), NONE);
        due.is("one", Due.put(x, 2, 1, 0).sets(), 1);
        due.is("the least", x.setting(), 7);
        due.is("none", Due.put(x, 1, 1, 1).sets(), 0);
        due.is("by the latest above 0", x.setting(), 7);
        due.is("not as told", x.sets(), NONE);
        due.is("by the latest above 0", x.setting(), 7);
        due.is("two", Due.put(x, 0, 1, 2).sets(), 2);
        due.is("the least of two", x.setting(), 0);
        due.is("two", Due.put(x, 1, 0, 2).sets(), 2);
        x.turn(0);
        x.jam(0);
        due.is("what is so now does not matter", x.setting(), 1);
        x.image(0);
        x.restore(0);
        x.board();
        due.is("a new board does not either", x.setting(), 1);
    }

    private void ordersCounted() {
        due.by(21, "ORDERS: how many unlike orders of wires come out by all SETTINGS (JAMMED ones as they are).");
        due.is("without switches", new SistersBoard().orders(), 1);
        due.is("two wires", Due.boardOf("wires 2;switch a 0 1;switch b 0 1;").orders(), 2);
        SistersBoard x = three();
        due.is("six of eight settings are unlike", x.orders(), 6);
        x.jam(1);
        due.is("b as it is", x.orders(), 2);
        x.jam(0);
        due.is("a, too", x.orders(), 2);
        x.jam(2);
        due.is("all jammed", x.orders(), 1);
        SistersBoard y = Due.boardOf("wires 8;switch a 0 1;switch b 2 3;switch c 4 5;switch d 6 7;switch e 1 2;"
            + "switch f 3 4;switch g 5 6;switch h 0 7;");
        due.is("all unlike", y.orders(), 256);
        Looks.leaves(due, "it only tells", AnswerEdges::asThree, z -> z.orders(), 2);
    }

    private void deafPairs() {
        due.by(22, "DEAF: pairs of IN and OUT of which no call is on either, between which no call can be put through (strict).");
        due.is("two wires without a switch", Due.boardOf("wires 2;").deaf(), 2);
        due.is("eight wires without a switch", Due.boardOf("wires 8;").deaf(), 56);
        SistersBoard x = three();
        due.is("none", x.deaf(), 0);
        x.call(0, 1, 9, 0);
        due.is("1 to 2 and 2 to 0, though with shifts they can", x.deaf(), 2);
        x.hang(0);
        x.turn(0);
        x.jam(1);
        due.is("by a jammed one", x.deaf(), 4);
        SistersBoard y = Due.boardOf("wires 2;");
        y.call(0, 0, 9, 0);
        due.is("of what is left, 1 to 1 can", y.deaf(), 0);
        y.call(1, 1, 9, 0);
        due.is("calls on all wires", y.deaf(), 0);
    }

    private void firstDeaf() {
        due.by(23, "The first of them (by IN, then OUT) by the latest deaf() above 0: 8 by IN and OUT; NONE ahead of any.");
        SistersBoard x = three();
        due.is("ahead of any", x.deafAt(), NONE);
        due.is("none", x.deaf(), 0);
        due.is("still ahead of any", x.deafAt(), NONE);
        x.call(0, 1, 9, 0);
        due.is("two", x.deaf(), 2);
        due.is("1 to 2", x.deafAt(), 10);
        x.hang(0);
        due.is("the latest stays", x.deafAt(), 10);
        due.is("none", x.deaf(), 0);
        due.is("by the latest above 0", x.deafAt(), 10);
        Due.text(x, "wires 2;").board();
        due.is("a new board leaves it", x.deafAt(), 10);
        due.is("key leaves it", x.key() + x.deafAt(), 9);
        due.is("two", x.deaf(), 2);
        due.is("0 to 1", x.deafAt(), 1);
        SistersBoard one = three();
        one.turn(1);
        one.jam(1);
        due.is("one alone", one.deaf(), 1);
        due.is("2 to 2", one.deafAt(), 18);
        SistersBoard least = Due.boardOf("wires 2;switch a 0 1 changed;");
        least.jam(0);
        due.is("0 to 0 and 1 to 1", least.deaf(), 2);
        due.is("0 to 0", least.deafAt(), 0);
        // Deaf is 7 to 6 (and 6 to 7) alone if all other wires have calls.
        SistersBoard y = Due.boardOf("wires 8;");
        for (int in = 0; in < 6; in++) {
            y.call(in, in, 9, 0);
        }
        due.is("the last pairs", y.deaf(), 2);
        due.is("6 to 7", y.deafAt(), 55);
        SistersBoard z = Due.boardOf("wires 8;switch a 6 7 changed;");
        for (int in = 0; in < 6; in++) {
            z.call(in, in, 9, 0);
        }
        // The calls were put through by the least number: straight.
        z.turn(0);
        z.jam(0);
        due.is("the last pairs", z.deaf(), 2);
        due.is("6 to 6", z.deafAt(), 54);
        Looks.leaves(due, "key leaves what deaf() told", w -> {
            Due.text(w, "switch a 0 1;").board();
            w.deaf();
        }, w -> w.key(), 0);
    }

    private void keys() {
        due.by(24, "KEY; NONE: there are no SWITCHES.");
        due.is("without switches", new SistersBoard().key(), NONE);
        due.is("without switches", Due.boardOf("wires 8;vow 2;").key(), NONE);
        due.is("one switch", Due.boardOf("switch a 0 1;").key(), 0);
        due.by(24, "KEY: the SWITCH that, if it was JAMMED as it is set, would leave most pairs DEAF (JAMMED ones may be it; of like ones the first).");
        due.is("of like ones the first", Due.boardOf("switch a 0 1;switch b 0 1;").key(), 0);
        due.is("of like ones the first", Due.boardOf("switch a 0 1;switch b 2 3;").key(), 0);
        due.is("0 to 0 counts, too", Due.boardOf("switch a 0 1 changed;switch b 2 3;").key(), 0);
        due.is("b leaves four", three().key(), 1);
        SistersBoard x = Due.boardOf("switch a 0 1;switch b 2 3;");
        x.jam(1);
        due.is("a leaves two more, b none more", x.key(), 0);
        x.free(1);
        x.jam(0);
        due.is("b leaves two more", x.key(), 1);
        x.jam(1);
        due.is("all are jammed: the first", x.key(), 0);
        due.is("it is not jammed by that", x.now(2), 3);
        SistersBoard y = Due.boardOf(TEN);
        for (int in = 0; in < 8; in++) {
            y.call(in, in, 9, 0);
        }
        due.is("no pair is left: the first", y.key(), 0);
        SistersBoard z = Due.boardOf("wires 6;switch a 0 1;switch b 0 1;switch c 2 3;switch d 4 5;");
        due.is("a and b make up for one another; c is ahead of d", z.key(), 2);
        SistersBoard v = three();
        v.turn(1);
        due.is("as it is set: b changed leaves one, as a and c do", v.key(), 0);
        Looks.leaves(due, "it only tells", AnswerEdges::asThree, w -> w.key(), 0);
    }

    // ---- faults

    private void faultyNotAsTold() {
        due.by(25, "FAULTY: as bits; NONE: not as told.");
        SistersBoard x = three();
        for (int n = 0; n <= 20; n++) {
            boolean told = n >= 2 && n <= 16 && n % 2 == 0;
            due.is(n + " bytes", Due.put(x, new int[n]).faulty(), told ? 1024 + 2 : NONE);
        }
        for (int n = 2; n <= 8; n++) {
            SistersBoard y = wires(n);
            due.is("the last wire", Due.put(y, n - 1, n - 1).faulty() >= 1024, true);
            due.is("no such IN", Due.put(y, n, 0).faulty(), NONE);
            due.is("no such OUT", Due.put(y, 0, n).faulty(), NONE);
            due.is("255 is no wire here", Due.put(y, 255, 0).faulty(), NONE);
            due.is("255 is no wire here", Due.put(y, 0, 255).faulty(), NONE);
            due.is("in the second pair", Due.put(y, 0, 0, 0, n).faulty(), NONE);
            due.is("in the eighth pair", Due.put(y, 0, 0, 0, 0, 0, 0, 0, 0, 0, 0, 0, 0, 0, 0, n, 0).faulty(), NONE);
            due.is("in the eighth pair", Due.put(y, 0, 1, 0, 0, 0, 0, 0, 0, 0, 0, 0, 0, 0, 0, 0, n).faulty(), NONE);
        }
    }

    private void faultyOnes() {
        due.by(25, "SWITCHES that alone, set otherwise than they seem to be, explain all of these, and bit 10, if no fault does.");
        SistersBoard x = three();
        due.is("b or none", Due.put(x, 0, 0).faulty(), 1024 + 2);
        due.is("a or c", Due.put(x, 0, 1).faulty(), 5);
        due.is("not by any", Due.put(x, 0, 2).faulty(), 0);
        due.is("none of them by both", Due.put(x, 0, 0, 0, 1).faulty(), 0);
        due.is("all of these", Due.put(x, 0, 0, 1, 2).faulty(), 2);
        due.is("the same again", Due.put(x, 0, 1, 0, 1, 0, 1, 0, 1, 0, 1, 0, 1, 0, 1, 0, 1).faulty(), 5);
        due.is("the eighth counts", Due.put(x, 0, 0, 0, 0, 0, 0, 0, 0, 0, 0, 0, 0, 0, 0, 1, 2).faulty(), 2);
        x.jam(0);
        due.is("a jammed one may be it", Due.put(x, 0, 1).faulty(), 5);
        due.is("without switches none", Due.put(new SistersBoard(), 3, 3).faulty(), 1024);
        due.is("without switches not by any", Due.put(new SistersBoard(), 3, 2).faulty(), 0);
        SistersBoard y = Due.boardOf(TEN);
        due.is("all of ten but those on wire 2", Due.put(y, 2, 2).faulty(), 1024 + 1023 - 2 - 16);
        due.is("the tenth", Due.put(y, 7, 3, 3, 7).faulty(), 512);
    }

    private void trials() {
        due.by(26, "TRY by the latest faulty() above 0; NONE ahead of any.");
        SistersBoard x = three();
        due.is("ahead of any", x.trial(), NONE);
        due.is("not as told", x.faulty(), NONE);
        due.is("still ahead of any", x.trial(), NONE);
        due.is("not by any", Due.put(x, 0, 2).faulty(), 0);
        due.is("still ahead of any", x.trial(), NONE);
        due.is("b or none", Due.put(x, 0, 0).faulty(), 1026);
        due.is("1 tells", x.trial(), 1);
        due.is("not by any", Due.put(x, 0, 2).faulty(), 0);
        due.is("by the latest above 0", x.trial(), 1);
        due.is("not as told", x.faulty(), NONE);
        due.is("by the latest above 0", x.trial(), 1);
        x.turn(0);
        due.is("what is so now does not matter", x.trial(), 1);
        Due.text(x, "wires 2;").board();
        due.is("a new board does not either", x.trial(), 1);
        due.by(26, "TRY: the wire IN by whose OUT the greatest number of these that may still be left is the least (of like ones the first).");
        SistersBoard y = three();
        due.is("a or c", Due.put(y, 0, 1).faulty(), 5);
        due.is("no wire tells them apart: the first", y.trial(), 0);
        due.is("one alone", Due.put(y, 1, 2).faulty(), 2);
        due.is("one alone: the first", y.trial(), 0);
        SistersBoard first = three();
        Due.put(first, 0, 0).faulty();
        due.is("b or none: 1 tells", first.trial(), 1);
        first.turn(1);
        due.is("a alone, the least above 0", Due.put(first, 0, 2).faulty(), 1);
        due.is("one alone: the first", first.trial(), 0);
        SistersBoard alike = Due.boardOf("wires 2;" + tenOn("0 1"));
        due.is("any of ten", Due.put(alike, 0, 1).faulty(), 1023);
        due.is("no wire tells ten apart: the first", alike.trial(), 0);
        SistersBoard all = Due.boardOf("wires 3;" + tenOn("1 2"));
        due.is("any of ten, or none", Due.put(all, 0, 0).faulty(), 2047);
        due.is("1 tells none from ten, 0 tells nothing", all.trial(), 1);
        SistersBoard z = Due.boardOf("wires 8;switch a 6 7;");
        due.is("a or none", Due.put(z, 0, 0).faulty(), 1025);
        due.is("6 and 7 tell: the first of them", z.trial(), 6);
        SistersBoard w = Due.boardOf("wires 3;switch a 0 1;switch b 1 2;");
        due.is("all", Due.put(w, 2, 2).faulty(), 1025);
        due.is("0 and 1 tell", w.trial(), 0);
        due.is("none on 0", Due.put(w, 0, 0).faulty(), 1026);
        due.is("1 and 2 tell", w.trial(), 1);
        // One of three alone is told by 0 or 3, two and one by 1: greatest 2 each; 2 tells all apart.
        SistersBoard v = Due.boardOf("wires 5;switch a 1 2;switch b 2 3;switch c 3 4;");
        due.is("any or none", Due.put(v, 0, 0).faulty(), 1024 + 7);
        due.is("2: to 1, to 3, two to 2", v.trial(), 2);
    }

    // ---- who hears, who shares, slips

    private void hearing() {
        due.by(27, "HEARS: calls, as bits; NONE: no such SISTER.");
        SistersBoard x = three();
        due.is("no call", x.hears(0), 0);
        x.call(0, 1, 1, 0);
        x.call(2, 2, 2, 0);
        due.is("both go through b", x.hears(0), 5);
        due.is("one through c", x.hears(1), 1);
        x.hours(1);
        due.is("one has ended", x.hears(0), 4);
        due.is("no sister 2", x.hears(2), NONE);
        due.is("no sister -1", x.hears(-1), NONE);
        due.is("no sisters", new SistersBoard().hears(0), NONE);
        for (int far : FAR) {
            due.is("far", x.hears(far), NONE);
        }
        SistersBoard y = Due.boardOf("wires 8;switch a 0 7;sister c a;sister d a;sister e a;sister f a;sister g a;");
        y.call(7, 7, 9, 0);
        due.is("the last of five", y.hears(4), 128);
        due.is("no sixth", y.hears(5), NONE);
    }

    private void sharing() {
        due.by(28, "SHARE of two wires: SWITCHES, as bits; NONE: no such ones.");
        SistersBoard x = three();
        due.is("itself", x.share(0, 0), 5);
        due.is("0 and 1", x.share(0, 1), 5);
        due.is("none", x.share(0, 2), 0);
        due.is("without switches", new SistersBoard().share(0, 0), 0);
        for (int n = 2; n <= 8; n++) {
            SistersBoard y = wires(n);
            due.is("the last", y.share(n - 1, 0) & 2, 2);
            due.is("no a", y.share(n, 0), NONE);
            due.is("no b", y.share(0, n), NONE);
            due.is("a below", y.share(-1, 0), NONE);
            due.is("b below", y.share(0, -1), NONE);
            due.is("neither", y.share(n, n), NONE);
        }
        for (int far : FAR) {
            due.is("far a", x.share(far, 0), NONE);
            due.is("far b", x.share(0, far), NONE);
        }
        due.is("all ten", Due.boardOf("wires 2;" + tenOn("0 1")).share(0, 1), 1023);
    }

    private void slips() {
        due.by(29, "SLIP of a wire: how many bytes; NONE: no such one.");
        SistersBoard x = Due.boardOf("wires 8;");
        slipIs(x, 0, "0 goes to 0");
        slipIs(x, 7, "7 goes to 7");
        int[] hours = {1, 9, 10, 19, 20, 29, 30};
        for (int n : hours) {
            x.call(7, 7, n, 0);
            slipIs(x, 7, "7 to 7 for " + n);
            x.hang(7);
        }
        x.call(3, 3, 11, 0);
        x.hours(1);
        slipIs(x, 3, "3 to 3 for 10");
        x.hours(1);
        slipIs(x, 3, "3 to 3 for 9");
        x.hours(8);
        slipIs(x, 3, "3 to 3 for 1");
        x.hours(1);
        slipIs(x, 3, "3 goes to 3");
        for (int n = 2; n <= 8; n++) {
            due.is("no such wire", wires(n).slip(n), NONE);
            due.is("below", wires(n).slip(-1), NONE);
        }
        for (int far : FAR) {
            due.is("far", x.slip(far), NONE);
        }
        SistersBoard y = three();
        y.call(0, 1, 9, 0);
        slipIs(y, 0, "0 to 1 for 9");
        slipIs(y, 1, "1 goes to 0");
    }

    private void slipIs(SistersBoard x, int in, String text) {
        due.is(text, x.slip(in), text.length());
        for (int i = 0; i < text.length(); i++) {
            due.is(text + ", byte " + i, x.byteAt(i), text.charAt(i));
        }
        due.is(text + ", beyond", x.byteAt(text.length()), NONE);
    }

    private void bytesOfSlip() {
        due.by(30, "Byte i of the latest SLIP; NONE: none such.");
        SistersBoard x = three();
        due.is("ahead of any", x.byteAt(0), NONE);
        due.is("none such", x.slip(3), NONE);
        due.is("still ahead of any", x.byteAt(0), NONE);
        x.call(0, 1, 10, 0);
        due.is("a long one", x.slip(0), 13);
        due.is("the last byte", x.byteAt(12), '0');
        due.is("beyond", x.byteAt(13), NONE);
        due.is("below", x.byteAt(-1), NONE);
        for (int far : FAR) {
            due.is("far", x.byteAt(far), NONE);
        }
        due.is("no such wire", x.slip(-1), NONE);
        due.is("the latest stays", x.byteAt(12), '0');
        due.is("a short one", x.slip(1), 11);
        due.is("its last byte", x.byteAt(10), '0');
        due.is("nothing of the longer one", x.byteAt(11), NONE);
        x.hang(0);
        Due.text(x, "wires 2;").board();
        due.is("it stays as it was told", x.byteAt(0), '1');
    }

    // ---- odds, what a book told, what may be said, counts

    private void oddsNotAsTold() {
        due.by(32, "NONE: no such ones.");
        for (int n = 2; n <= 8; n++) {
            SistersBoard x = wires(n);
            due.is("the last wire", x.odds(n - 1, 1, 5) >= 0, true);
            due.is("no such wire", x.odds(n, 1, 5), NONE);
            due.is("below", x.odds(-1, 1, 5), NONE);
        }
        SistersBoard x = three();
        due.is("no seeds", x.odds(0, 0, 5), NONE);
        due.is("21 seeds", x.odds(0, 21, 5), NONE);
        due.is("20 seeds", x.odds(0, 20, 5) >= 0, true);
        for (int far : FAR) {
            due.is("far wire", x.odds(far, 1, 5), NONE);
            due.is("far n", x.odds(0, far, 5), NONE);
        }
        Looks.leaves(due, "it only tells", AnswerEdges::asThree, y -> y.odds(2, 20, 7) >= 0 ? 1 : 0, 1);
        Looks.leaves(due, "refused", AnswerEdges::asThree, y -> y.odds(3, 20, 7), NONE);
    }

    private void oddsWrap() {
        due.by(32, "Of n (1 to 20) seeds x, x and 1, .. by how many a call is on a wire behind 12 HOURS DRAWN from now on");
        SistersBoard x = Due.boardOf(TEN);
        int[] seeds = {0, -10, Integer.MAX_VALUE - 9, Integer.MAX_VALUE, Integer.MIN_VALUE};
        for (int seed : seeds) {
            for (int in = 0; in < 8; in += 7) {
                int many = 0;
                for (int i = 0; i < 20; i++) {
                    // An int, wrapping: behind the greatest comes the least.
                    SistersBoard y = Due.boardOf(TEN);
                    y.drawn(12, seed + i);
                    int up = (y.now(3) >> in) & 1;
                    due.is("one seed", x.odds(in, 1, seed + i), up);
                    many += up;
                    due.is("seeds so far", x.odds(in, i + 1, seed), many);
                }
            }
        }
        // From now on: a call of 13 hours outlives 12, one of 12 does not.
        SistersBoard y = Due.boardOf("wires 2;switch a 0 1;");
        y.jam(0);
        y.call(0, 0, 13, 0);
        due.is("13 hours", y.odds(0, 20, 1), 20);
        y.hang(0);
        y.call(0, 0, 30, 0);
        due.is("30 hours", y.odds(0, 20, 1), 20);
        // While a call of 12 hours is up no other is on its wire, and it ends with the twelfth.
        SistersBoard z = Due.boardOf("wires 2;");
        int calls = 0;
        for (int seed = 0; seed < 20; seed++) {
            SistersBoard w = Due.boardOf("wires 2;");
            w.call(0, 0, 12, 0);
            w.drawn(11, seed);
            due.is("behind 11 hours it is up", w.line(0, 1), 1);
            w.drawn(1, 0);
            calls += w.now(3) & 1;
        }
        due.is("behind 12 it has ended", calls, 0);
        z.call(0, 0, 12, 0);
        due.is("12 hours", z.odds(0, 20, 0), 0);
        z.hang(0);
        // By the last hours fewer go by.
        for (int i = 0; i < 6; i++) {
            z.hours(60);
        }
        z.hours(39);
        z.call(0, 0, 2, 0);
        due.is("one hour is left: it is up still", z.odds(0, 20, 1), 20);
        z.hours(1);
        due.is("no hour is left", z.odds(0, 20, 1), 20);
        due.is("no hour is left, nothing is drawn", z.odds(1, 20, 1), 0);
    }

    private void told() {
        due.by(34, "NONE: another what, or ahead of any.");
        SistersBoard x = three();
        for (int what = -1; what <= 4; what++) {
            due.is("ahead of any", x.told(what), NONE);
        }
        Due.text(x, "hour 1;");
        due.is("other lives", x.book(2), -1000);
        due.is("still ahead of any", x.told(0), NONE);
        x.end(0);
        due.is("a fault", Due.text(x, "hour;").book(1), -2 - 4);
        due.is("still ahead of any", x.told(0), NONE);
        due.is("wrong", Due.text(x, "hour 2;call 0 1 9 strict;end 2;").book(0), 2);
        int[] want = {11, 2, 2, 1};
        toldIs(x, want);
        due.is("4", x.told(4), NONE);
        due.is("-1", x.told(-1), NONE);
        for (int far : FAR) {
            due.is("far", x.told(far), NONE);
        }
        due.by(34, "Of the latest book() that had no FAULT (and was not -1000)");
        due.is("a fault", Due.text(x, "hour 1;hour 99;").book(1), -2 - 12);
        toldIs(x, want);
        due.is("other lives", x.book(-1), -1000);
        toldIs(x, want);
        due.is("an empty book", x.book(0), NONE);
        toldIs(x, 0, 0, 0, 0);
        x.hours(5);
        toldIs(x, 0, 0, 0, 0);
        due.is("right", Due.text(x, "hour 2;call 0 1 9 strict;").book(1), NONE);
        toldIs(x, 0, 2, 7, 1);
        x.undo();
        x.board();
        toldIs(x, 0, 2, 7, 1);
    }

    private void toldIs(SistersBoard x, int... want) {
        for (int what = 0; what < 4; what++) {
            due.is("told " + what, x.told(what), want[what]);
        }
    }

    private void said() {
        due.by(36, "SWITCHES of which it may be said: how many (k NONE), or the k-th. NONE: there is no SENTENCE, none such.");
        SistersBoard x = three();
        for (int k = -2; k < 4; k++) {
            due.is("no sentence", x.said(k), NONE);
        }
        Due.text(x, "on 0").sentence();
        due.is("how many", x.said(NONE), 2);
        due.is("the first", x.said(0), 0);
        due.is("the second", x.said(1), 2);
        due.is("no third", x.said(2), NONE);
        due.is("below NONE", x.said(-2), NONE);
        for (int far : FAR) {
            due.is("far", x.said(far), NONE);
        }
        Due.text(x, "on 7").sentence();
        due.is("of none", x.said(NONE), 0);
        due.is("no first", x.said(0), NONE);
        SistersBoard y = Due.boardOf(TEN);
        Due.text(y, "number<999").sentence();
        due.is("all ten", y.said(NONE), 10);
        for (int k = 0; k < 10; k++) {
            due.is("k-th", y.said(k), k);
        }
        due.is("no eleventh", y.said(10), NONE);
        Due.text(y, "not number<999").sentence();
        due.is("none of ten", y.said(NONE), 0);
        SistersBoard z = new SistersBoard();
        Due.text(z, "not used").sentence();
        due.is("without switches", z.said(NONE), 0);
        due.is("without switches", z.said(0), NONE);
        z.board();
        due.is("no sentence by a new board", z.said(NONE), NONE);
    }

    private void counts() {
        due.by(39, "0 wires, 1 SWITCHES, 2 SISTERS, 3 the vow, 4 bytes of the tape. NONE for another what.");
        SistersBoard x = Due.boardOf(TEN + "sister k a;sister l a;sister m a;sister n a;sister o a;vow 9;");
        int[] want = {8, 10, 5, 9, 0};
        for (int what = 0; what < 5; what++) {
            due.is("count " + what, x.count(what), want[what]);
        }
        SistersBoard y = Due.boardOf("wires 2;vow 0;");
        int[] least = {2, 0, 0, 0, 0};
        for (int what = 0; what < 5; what++) {
            due.is("count " + what, y.count(what), least[what]);
        }
        for (int i = 0; i < 48; i++) {
            x.feed(0, 0, 0, 0, 0);
        }
        due.is("a full tape", x.count(4), 940);
        due.is("5", x.count(5), NONE);
        due.is("-1", x.count(-1), NONE);
        for (int far : FAR) {
            due.is("far", x.count(far), NONE);
        }
    }
}
