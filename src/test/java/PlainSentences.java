/** The sentences that name no boundary case: what the terms are, and what is told in the ordinary. */
final class PlainSentences {
    private static final int NONE = -1;

    private static final String THREE = "wires 3;switch a 0 1;switch b 1 2;switch c 0 1;sister ada b;sister bea c;";
    /** By setting of THREE, where 0, 1 and 2 come out. */
    private static final int[] ORDERS_OF_THREE = {12, 102, 21, 201, 102, 12, 120, 210};
    /** Two pairs of wires that never meet. */
    private static final String PAIRS = "wires 4;switch a 0 1;switch b 2 3;switch c 0 1;switch d 2 3;";

    private final Due due;

    PlainSentences(Due due) {
        this.due = due;
    }

    void go() {
        sisters();
        ones();
        saidOfSwitches();
        settings();
        jammedStay();
        wiresGoOn();
        ways();
        calls();
        sets();
        setsJammed();
        orders();
        deafPairs();
        faulty();
        hears();
        shares();
        slips();
        nowAsItIs();
        nowSoFar();
    }

    private static SistersBoard three() {
        return Due.boardOf(THREE);
    }

    /** A board of which the switches of a setting have been turned. */
    private static SistersBoard turned(String board, int setting) {
        SistersBoard x = Due.boardOf(board);
        for (int s = 0; s < x.count(1); s++) {
            if (((setting >> s) & 1) != 0) {
                x.turn(s);
            }
        }
        return x;
    }

    private static int digit(int order, int wire) {
        int[] unit = {100, 10, 1};
        return order / unit[wire] % 10;
    }

    private void boardFault(String text, int place, int kind) {
        SistersBoard x = new SistersBoard();
        due.is(text, Due.text(x, text).board(), -1 - place);
        due.is(text + ", kind", x.fault(), kind);
    }

    // ---- texts

    private void sisters() {
        due.by(4, "'sister' NAME SWITCH");
        SistersBoard x = Due.boardOf("switch a 0 1;sister ada a;switch b 2 3;sister bea b;sister eva a;");
        due.is("sisters", x.count(2), 3);
        x.call(1, 1, 9, 0);
        x.call(2, 2, 9, 0);
        due.is("ada sits by a", x.hears(0), 2);
        due.is("bea sits by b", x.hears(1), 4);
        due.is("eva sits by a, too", x.hears(2), 2);
        boardFault("switch a 0 1;sister ;", 20, 1);
        boardFault("switch a 0 1;sister ada;", 23, 1);
        boardFault("switch a 0 1;sister ada 0;", 24, 1);
        boardFault("switch a 0 1;sister 0 a;", 20, 1);
        boardFault("switch a 0 1;sister ada a a;", 26, 1);
        boardFault("switch a 0 1;sister ada b;switch b 1 2;", 24, 3);
        boardFault("switch a 0 1;sister ada ada;", 24, 3);
        boardFault("switch a 0 1;sister a a;", 20, 3);
        boardFault("switch a 0 1;sister ada a;switch ada 0 1;", 33, 3);
    }

    /** b is changed, d is jammed, a call goes through a and c. */
    private static SistersBoard told() {
        SistersBoard x = Due.boardOf(PAIRS + "sister ada c;");
        x.jam(3);
        x.call(0, 0, 30, 0);
        x.turn(1);
        return x;
    }

    private void saidIs(SistersBoard x, String text, int ones, int... switches) {
        due.is(text, Due.text(x, text).sentence(), ones);
        due.is(text + ", how many", x.said(NONE), switches.length);
        for (int k = 0; k < switches.length; k++) {
            due.is(text + ", the one " + k, x.said(k), switches[k]);
        }
        due.is(text + ", no more", x.said(switches.length), NONE);
    }

    private void ones() {
        due.by(35, "ONE: 'not' ONE | ( COND ) | 'changed' | 'jammed' | 'used' (a call goes through it)");
        SistersBoard x = told();
        saidIs(x, "changed", 1, 1);
        saidIs(x, "jammed", 1, 3);
        saidIs(x, "used", 1, 0, 2);
        saidIs(x, "not used", 2, 1, 3);
        saidIs(x, "not not used", 3, 0, 2);
        saidIs(x, "(changed)", 2, 1);
        saidIs(x, "((changed))", 3, 1);
        saidIs(x, "changed or jammed", 2, 1, 3);
        saidIs(x, "changed and jammed", 2);
        saidIs(x, "not changed or jammed", 3, 0, 2, 3);
        saidIs(x, "not (changed or jammed)", 4, 0, 2);
        saidIs(x, "not changed and not jammed", 4, 0, 2);
        saidIs(x, "used or changed and jammed", 3, 0, 2);
        saidIs(x, "(used or changed) and jammed", 4);
        saidIs(x, "jammed and changed or used", 3, 0, 2);
        saidIs(x, "jammed and (changed or used)", 4);
        saidIs(x, "by ada or on 2 and not number = 1 or calls > 0 and turns = 0", 6, 0, 2, 3);
    }

    private void saidOfSwitches() {
        due.by(36, "It is said of SWITCHES.");
        saidIs(Due.boardOf(PAIRS), "number < 9", 1, 0, 1, 2, 3);
        saidIs(Due.boardOf("wires 8;"), "number < 9", 1);
        saidIs(Due.boardOf("wires 2;switch a 0 1;sister ada a;sister bea a;"), "not used", 2, 0);
        // It is asked anew each time.
        SistersBoard x = Due.boardOf(PAIRS);
        saidIs(x, "changed", 1);
        x.turn(2);
        due.is("c is changed now", x.said(0), 2);
        x.turn(0);
        due.is("a is, too, and comes first", x.said(0), 0);
        due.is("both", x.said(NONE), 2);
    }

    // ---- settings and ways

    private void settings() {
        due.by(10, "A SETTING: which SWITCHES are changed, as bits");
        for (int setting = 0; setting < 8; setting++) {
            SistersBoard x = turned(THREE, setting);
            due.is("the setting", x.now(1), setting);
            for (int s = 0; s < 3; s++) {
                due.is("switch " + s + " of setting " + setting, x.lever(s, 2), (setting >> s) & 1);
            }
        }
        due.is("told changed", Due.boardOf("switch a 0 1;switch b 1 2 changed;switch c 2 3;switch d 0 3 changed;").now(1), 10);
    }

    private void jammedStay() {
        due.by(14, "those that are JAMMED stay as they are.");
        SistersBoard x = turned("wires 2;switch a 0 1;switch b 0 1;", 2);
        x.jam(1);
        due.is("by a", x.call(0, 0, 1, 0), 0);
        due.is("b stays changed", x.now(1), 3);
        x.hours(1);
        due.is("a is jammed, too", x.jam(0), 0);
        due.is("no setting brings it", x.call(0, 1, 1, 0), 2);
        due.is("nor with shifts", x.call(0, 1, 1, 1), 2);
        due.is("one that is so already", x.call(1, 1, 1, 1), 0);
        due.is("both stay", x.now(1), 3);
        due.is("one order", x.orders(), 1);
    }

    private void wiresGoOn() {
        due.by(8, "What comes in on a wire goes on on it; at each SWITCH on that wire, that is changed, it goes on on the other wire of that one, in order.");
        for (int setting = 0; setting < 8; setting++) {
            SistersBoard x = turned(THREE, setting);
            for (int in = 0; in < 3; in++) {
                due.is(in + " by " + setting, x.out(in), digit(ORDERS_OF_THREE[setting], in));
            }
        }
        SistersBoard w = turned("wires 5;switch a 3 4;switch b 0 2;switch c 2 3;switch d 0 4;", 15);
        int[] ends = {3, 1, 4, 0, 2};
        for (int in = 0; in < 5; in++) {
            due.is(in + " by all", w.out(in), ends[in]);
        }
    }

    private void ways() {
        due.by(9, "The WAY of a wire by a SETTING: on which wire it is behind each SWITCH.");
        int[][] straight = {{0, 0, 0, 0}, {1, 1, 1, 1}, {2, 2, 2, 2}};
        int[][] changed = {{0, 1, 2, 2}, {1, 0, 0, 1}, {2, 2, 1, 0}};
        int[][] second = {{0, 0, 0, 0}, {1, 1, 2, 2}, {2, 2, 1, 1}};
        for (int in = 0; in < 3; in++) {
            for (int k = 0; k <= 3; k++) {
                due.is("straight", turned(THREE, 0).way(in, k), straight[in][k]);
                due.is("all changed", turned(THREE, 7).way(in, k), changed[in][k]);
                due.is("b changed", turned(THREE, 2).way(in, k), second[in][k]);
            }
        }
    }

    private void calls() {
        due.by(11, "A call goes from a wire IN to a wire OUT (where it comes out) for so many HOURS.");
        for (int in = 0; in < 3; in++) {
            for (int out = 0; out < 3; out++) {
                SistersBoard x = three();
                due.is("put through", x.call(in, out, 4, 0), 0);
                due.is("it comes out there", x.out(in), out);
                due.is("OUT", x.line(in, 0), out);
                due.is("three go", x.hours(3), 3);
                due.is("one is left", x.line(in, 1), 1);
                due.is("the last goes", x.hours(1), 1);
                due.is("it is over", x.line(in, 0), NONE);
                due.is("the switches stay", x.out(in), out);
            }
        }
    }

    // ---- what is asked of all settings

    private void setsIs(SistersBoard x, int many, int least, int... ends) {
        due.is("how many", Due.put(x, ends).sets(), many);
        due.is("the least", x.setting(), least);
    }

    private void sets() {
        due.by(19, "SETS by the tape (as many bytes as wires: where each wire should come out, 255 if anywhere)");
        SistersBoard x = three();
        setsIs(x, 2, 0, 0, 1, 2);
        setsIs(x, 2, 1, 1, 0, 2);
        setsIs(x, 1, 2, 0, 2, 1);
        setsIs(x, 1, 3, 2, 0, 1);
        setsIs(x, 1, 6, 1, 2, 0);
        setsIs(x, 1, 7, 2, 1, 0);
        setsIs(x, 3, 1, 1, 255, 255);
        setsIs(x, 2, 6, 255, 255, 0);
        setsIs(x, 3, 1, 255, 0, 255);
        setsIs(x, 8, 0, 255, 255, 255);
        // No setting brings two wires to one place.
        setsIs(x, 0, 0, 1, 1, 255);
        // A call hinders none.
        x.call(0, 2, 9, 0);
        setsIs(x, 2, 1, 1, 0, 2);
    }

    private void setsJammed() {
        due.by(19, "how many SETTINGS (JAMMED ones as they are) do so; the least number.");
        SistersBoard x = turned(THREE, 4);
        x.jam(2);
        setsIs(x, 1, 5, 0, 1, 2);
        setsIs(x, 1, 4, 1, 0, 2);
        setsIs(x, 4, 4, 255, 255, 255);
        setsIs(x, 0, 4, 2, 0, 1);
        x.free(2);
        setsIs(x, 1, 3, 2, 0, 1);
    }

    private void orders() {
        due.by(21, "ORDERS: how many.");
        SistersBoard x = three();
        due.is("six of eight settings", x.orders(), 6);
        x.jam(2);
        due.is("a and b", x.orders(), 4);
        x.jam(0);
        due.is("b", x.orders(), 2);
        x.jam(1);
        due.is("one", x.orders(), 1);
        due.is("pairs", Due.boardOf(PAIRS).orders(), 4);
        due.is("without switches", new SistersBoard().orders(), 1);
    }

    private void deafPairs() {
        due.by(22, "DEAF: how many pairs.");
        due.is("each wire to itself", new SistersBoard().deaf(), 12);
        due.is("each order", three().deaf(), 0);
        SistersBoard x = Due.boardOf(PAIRS);
        due.is("never from pair to pair", x.deaf(), 8);
        due.is("the first of them", x.deafAt(), 2);
        x.call(0, 0, 9, 0);
        due.is("three wires on either side are left", x.deaf(), 4);
        due.is("1 to 2", x.deafAt(), 10);
        SistersBoard y = Due.boardOf("wires 3;switch a 0 1;switch b 1 2;");
        due.is("2 never comes to 0", y.deaf(), 1);
        due.is("2 to 0", y.deafAt(), 16);
        y.jam(1);
        due.is("2 stays by itself", y.deaf(), 4);
        due.is("0 to 2", y.deafAt(), 2);
    }

    private void faulty() {
        due.by(25, "FAULTY by the tape (pairs of bytes: IN, OUT: what came in there came out there; 1 to 8 of them)");
        SistersBoard x = three();
        due.is("a or c", Due.put(x, 0, 1).faulty(), 5);
        due.is("b or none", Due.put(x, 0, 0).faulty(), 1024 + 2);
        due.is("b", Due.put(x, 0, 0, 1, 2).faulty(), 2);
        due.is("a or c or none", Due.put(x, 2, 2).faulty(), 1024 + 5);
        due.is("none", Due.put(x, 2, 2, 1, 1).faulty(), 1024);
        due.is("not by one fault", Due.put(x, 0, 2).faulty(), 0);
        due.is("not both", Due.put(x, 0, 1, 0, 0).faulty(), 0);
        due.is("told eight times", Due.put(x, 0, 1, 0, 1, 0, 1, 0, 1, 0, 1, 0, 1, 0, 1, 0, 1).faulty(), 5);
        SistersBoard y = turned(THREE, 1);
        due.is("otherwise than they seem: a or c", Due.put(y, 0, 0).faulty(), 5);
        due.is("b", Due.put(y, 0, 2).faulty(), 2);
        due.is("none", Due.put(y, 0, 1, 2, 2).faulty(), 1024);
        y.jam(1);
        due.is("a jammed one may be at fault", Due.put(y, 0, 2).faulty(), 2);
    }

    // ---- who goes where

    private void hears() {
        due.by(27, "HEARS: calls (their IN) that go through a SISTER's SWITCH.");
        SistersBoard x = three();
        due.is("no call", x.hears(0), 0);
        x.call(2, 2, 9, 0);
        due.is("ada by b", x.hears(0), 4);
        due.is("bea by c", x.hears(1), 0);
        x.call(0, 0, 9, 0);
        due.is("0 to 0 goes by a and c", x.hears(1), 1);
        due.is("not by b", x.hears(0), 4);
        x.call(1, 1, 9, 0);
        due.is("1 to 1 goes by all", x.hears(0), 6);
        due.is("by c, too", x.hears(1), 3);
        x.hang(2);
        due.is("2 is silent", x.hears(0), 2);
    }

    private void shares() {
        due.by(28, "SHARE of two wires: SWITCHES through which both go.");
        SistersBoard x = three();
        due.is("a and c", x.share(0, 1), 5);
        due.is("b", x.share(1, 2), 2);
        due.is("none", x.share(0, 2), 0);
        SistersBoard y = turned(THREE, 3);
        due.is("a, then 0 is on 1", y.share(0, 1), 1);
        due.is("b", y.share(0, 2), 2);
        due.is("2 comes to 1, 1 is on 0: c", y.share(1, 2), 4);
        due.is("through which one goes", y.share(0, 0), 3);
    }

    private void slipIs(SistersBoard x, int in, String want) {
        due.is("length of '" + want + "'", x.slip(in), want.length());
        for (int i = 0; i < want.length(); i++) {
            due.is("byte " + i + " of '" + want + "'", x.byteAt(i), want.charAt(i));
        }
    }

    private void slips() {
        due.by(29, "SLIP of a wire: its number as a digit, then, if a call is on it, ' to ', OUT as a digit, ' for ' and HOURS as digits, else ' goes to ' and where it comes out.");
        SistersBoard x = three();
        slipIs(x, 2, "2 goes to 2");
        x.call(0, 2, 11, 0);
        slipIs(x, 0, "0 to 2 for 11");
        slipIs(x, 1, "1 goes to 0");
        slipIs(x, 2, "2 goes to 1");
        x.hours(1);
        slipIs(x, 0, "0 to 2 for 10");
        x.hours(1);
        slipIs(x, 0, "0 to 2 for 9");
        x.hours(9);
        slipIs(x, 0, "0 goes to 2");
    }

    // ---- now

    private void nowIs(SistersBoard x, int from, int... want) {
        for (int i = 0; i < want.length; i++) {
            due.is("now " + (from + i), x.now(from + i), want[i]);
        }
    }

    private void nowAsItIs() {
        due.by(10, "0 the HOUR, 1 the SETTING, 2 JAMMED SWITCHES, 3 wires on which calls are, 4 at which they come out, as bits each");
        SistersBoard x = three();
        nowIs(x, 0, 0, 0, 0, 0, 0);
        x.call(0, 2, 5, 0);
        nowIs(x, 0, 0, 3, 0, 1, 4);
        x.jam(2);
        nowIs(x, 0, 0, 3, 4, 1, 4);
        x.hours(4);
        nowIs(x, 0, 4, 3, 4, 1, 4);
        x.call(2, 1, 5, 0);
        nowIs(x, 0, 4, 3, 4, 5, 6);
        x.hours(1);
        nowIs(x, 0, 5, 3, 4, 4, 2);
        x.free(2);
        x.jam(0);
        nowIs(x, 0, 5, 3, 1, 4, 2);
    }

    private void nowSoFar() {
        due.by(10, "5 calls so far, 6 SHIFTS so far, 7 how often SWITCHES were turned so far.");
        SistersBoard x = three();
        x.call(0, 1, 9, 0);
        nowIs(x, 5, 1, 0, 1);
        // 2 to 0 wants b and c changed: 0 comes to 1 without a, by another way.
        due.is("refused", x.call(2, 0, 9, 0), 2);
        nowIs(x, 5, 1, 0, 1);
        due.is("with a shift", x.call(2, 0, 9, 1), 0);
        nowIs(x, 5, 2, 1, 4);
        x.hang(0);
        nowIs(x, 5, 2, 1, 4);
        x.turn(0);
        nowIs(x, 5, 2, 1, 5);
        x.hours(60);
        nowIs(x, 5, 2, 1, 5);
        x.undo();
        x.undo();
        x.undo();
        x.undo();
        nowIs(x, 5, 1, 0, 1);
    }
}
