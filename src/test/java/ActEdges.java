/** Boundary cases of the promises that act: 11 to 17, 31, 33, 34, 37 and 38. */
final class ActEdges {
    private static final int NONE = -1;
    private static final int[] FAR = {-2, -1000, Integer.MIN_VALUE, Integer.MAX_VALUE, 255, 256, 1 << 16, -256};

    /** By setting, where 0, 1, 2 come out: 0: 012, 1: 102, 2: 021, 3: 201, 4: 102, 5: 012, 6: 120, 7: 210. */
    private static final String THREE = "wires 3;switch a 0 1;switch b 1 2;switch c 0 1;sister ada b;sister bea c;";

    /**
     * A call 0 to 1 goes by c (4), or by a, b and d (11). A call 1 to 2 needs it by a, b and d; a call 2 to 2 needs
     * it by c: one after the other they shift it to and fro.
     */
    private static final String TO_AND_FRO = "wires 4;switch a 0 3;switch b 2 3;switch c 0 1;switch d 1 2;";

    private final Due due;

    ActEdges(Due due) {
        this.due = due;
    }

    void go() {
        callsNotAsTold();
        callsOfBusyWires();
        strictCalls();
        callsWithShifts();
        vows();
        fewestShifts();
        jammedStay();
        turnedOnceMore();
        refusedCalls();
        hangs();
        turns();
        jams();
        frees();
        hoursNotAsTold();
        hoursAtTheEnd();
        callsEnd();
        undoneNone();
        undoneEight();
        undoneActsAlone();
        undoneEach();
        drawnNotAsTold();
        drawnAtTheEnd();
        drawnWrap();
        otherLives();
        judged();
        lived();
        whyWrong();
        fewerHours();
        imagesKept();
        imagesRefused();
        restored();
        restoredRefused();
    }

    private static SistersBoard three() {
        return Due.boardOf(THREE);
    }

    private static SistersBoard wires(int n) {
        return Due.boardOf("wires " + n + ";switch a 0 1;switch b 0 " + (n - 1) + ";");
    }

    private static int bookOf(SistersBoard x, String text, int lives) {
        return Due.text(x, text).book(lives);
    }

    /** Two calls are up (0 to 1 by a, 2 to 2), c is jammed; four acts can be undone, and the tape has a text. */
    private static void busy(SistersBoard x) {
        Due.text(x, THREE).board();
        x.call(0, 1, 9, 0);
        x.call(2, 2, 5, 0);
        x.jam(2);
        x.hours(1);
        Due.text(x, "used and on 2").sentence();
        x.deaf();
        x.slip(0);
        Due.text(x, "vow 7;");
    }

    private void leaves(String what, Looks.Question question, long answer) {
        Looks.leaves(due, what, ActEdges::busy, question, answer);
    }

    private static void to400(SistersBoard x) {
        for (int i = 0; i < 7; i++) {
            x.hours(60);
        }
    }

    // ---- calls

    private void callsNotAsTold() {
        due.by(11, "A call from IN to OUT for n (1 to 30) HOURS, strict (0) or with shifts (1): 0, or why not; NONE: no such ones.");
        for (int how = 0; how <= 1; how++) {
            for (int n = 2; n <= 8; n++) {
                SistersBoard x = wires(n);
                due.is("no such IN", x.call(n, 0, 1, how), NONE);
                due.is("no such OUT", x.call(0, n, 1, how), NONE);
                due.is("IN below", x.call(-1, 0, 1, how), NONE);
                due.is("OUT below", x.call(0, -1, 1, how), NONE);
                due.is("the last wires", x.call(n - 1, n - 1, 1, how), 0);
            }
            SistersBoard x = three();
            due.is("no HOURS", x.call(0, 0, 0, how), NONE);
            due.is("31 HOURS", x.call(0, 0, 31, how), NONE);
            for (int far : FAR) {
                due.is("far IN", x.call(far, 0, 1, how), NONE);
                due.is("far OUT", x.call(0, far, 1, how), NONE);
                due.is("far HOURS", x.call(0, 0, far, how), NONE);
                due.is("far HOW", x.call(0, 0, 1, far), NONE);
            }
            due.is("HOW 2", x.call(0, 0, 1, 2), NONE);
            due.is("HOW -1", x.call(0, 0, 1, -1), NONE);
            due.is("one HOUR", x.call(0, 0, 1, how), 0);
            due.is("one HOUR", x.line(0, 1), 1);
            due.is("30 HOURS", x.call(2, 2, 30, how), 0);
            due.is("30 HOURS", x.line(2, 1), 30);
            due.is("no such ones ahead of why not: HOURS", x.call(0, 0, 31, how), NONE);
            due.is("no such ones ahead of why not: OUT", x.call(0, 3, 1, how), NONE);
        }
    }

    private void callsOfBusyWires() {
        due.by(11, "To CALL: why not, the least: 1 a call is on IN, or comes out at OUT");
        for (int how = 0; how <= 1; how++) {
            SistersBoard x = three();
            x.call(0, 1, 2, 0);
            due.is("on IN", x.call(0, 2, 1, how), 1);
            due.is("at OUT", x.call(2, 1, 1, how), 1);
            due.is("on IN and at OUT", x.call(0, 1, 1, how), 1);
            // A wire on which nothing comes in may be where a call comes out, and the other way round.
            due.is("OUT is no IN", x.call(1, 0, 1, how), 0);
            x.hours(1);
            due.is("on IN still", x.call(0, 2, 1, how), 1);
            x.hours(1);
            due.is("it has ended", x.call(0, 1, 1, how), 0);
            x.hang(0);
            due.is("it was rung off", x.call(2, 1, 1, how), 0);
            SistersBoard y = new SistersBoard();
            y.call(0, 0, 9, 0);
            due.is("1 is less than 2: on IN", y.call(0, 3, 1, how), 1);
            due.is("1 is less than 2: at OUT", y.call(3, 0, 1, how), 1);
        }
    }

    private void strictCalls() {
        due.by(11, "2 (strict) there is no SETTING by which all calls that are up have their WAYS as now, and it comes out at OUT");
        SistersBoard x = new SistersBoard();
        due.is("without switches", x.call(0, 1, 1, 0), 2);
        due.is("without switches, to itself", x.call(0, 0, 1, 0), 0);
        SistersBoard y = Due.boardOf(TO_AND_FRO);
        due.is("by c", y.call(0, 1, 30, 0), 0);
        due.is("the other way would do, but it is another", y.call(1, 2, 9, 0), 2);
        due.is("the setting stays", y.now(1), 4);
        due.is("beside it", y.call(2, 2, 9, 0), 0);
        due.is("none is shifted", y.now(6), 0);
        SistersBoard z = Due.boardOf("wires 2;switch a 0 1;");
        z.jam(0);
        due.is("by a jammed one", z.call(0, 1, 1, 0), 2);
        due.is("by a jammed one as it is", z.call(0, 0, 1, 0), 0);
        due.by(11, "(of like ones the least number)");
        SistersBoard w = Due.boardOf("wires 2;switch a 0 1 changed;switch b 0 1 changed;");
        due.is("two would do", w.call(0, 0, 1, 0), 0);
        due.is("the least, though it turns both", w.now(1), 0);
        due.is("turned", w.now(7), 2);
        SistersBoard v = three();
        v.turn(1);
        due.is("0 to 1", v.call(0, 1, 1, 0), 0);
        due.is("1, 4 and 6 would do", v.now(1), 1);
    }

    private void callsWithShifts() {
        due.by(11, "(with shifts) there is none by which all calls come out where they should, and no call that has been SHIFTED as often as the vow allows has another WAY");
        due.is("without switches", new SistersBoard().call(0, 1, 1, 1), 2);
        due.is("without switches, to itself", new SistersBoard().call(0, 0, 1, 1), 0);
        SistersBoard x = Due.boardOf(TO_AND_FRO);
        due.is("by c", x.call(0, 1, 30, 1), 0);
        due.is("with a shift", x.call(1, 2, 9, 1), 0);
        due.is("by a, b, d", x.now(1), 11);
        due.is("it comes out where it should", x.out(0), 1);
        due.is("it was shifted", x.line(0, 2), 1);
        due.is("the new one was not", x.line(1, 2), 0);
        due.is("shifts so far", x.now(6), 1);
        SistersBoard y = Due.boardOf("wires 2;switch a 0 1;");
        y.call(0, 1, 9, 0);
        due.is("all come out where they should: 1 to 1 never", y.call(1, 1, 9, 1), 1);
        SistersBoard z = Due.boardOf("wires 3;switch a 0 1;vow 9;");
        z.call(0, 1, 9, 0);
        due.is("2 to 0 never", z.call(2, 0, 9, 1), 2);
    }

    private void vows() {
        due.by(11, "no call that has been SHIFTED as often as the vow allows has another WAY");
        for (int vow = 0; vow <= 9; vow++) {
            SistersBoard x = Due.boardOf(TO_AND_FRO + "vow " + vow + ";");
            x.call(0, 1, 30, 1);
            for (int i = 0; i <= vow; i++) {
                int in = 1 + i % 2;
                due.is("vow " + vow + ", shifts ahead of shift " + i, x.shifts(in, 2), i < vow ? 1 : NONE);
                due.is("vow " + vow + ", strict ahead of shift " + i, x.call(in, 2, 9, 0), 2);
                due.is("vow " + vow + ", shift " + i, x.call(in, 2, 9, 1), i < vow ? 0 : 2);
                due.is("vow " + vow + ", shifted", x.line(0, 2), Math.min(i + 1, vow));
                due.is("vow " + vow + ", shifts so far", x.now(6), Math.min(i + 1, vow));
                x.hang(in);
            }
            // A call anew may be shifted anew, and those of the one that ended still count so far.
            x.hang(0);
            int setting = x.now(1);
            due.is("anew", x.call(0, 1, 30, 0), 0);
            due.is("anew by c", x.now(1), 4);
            due.is("anew, from " + setting, x.call(1, 2, 9, 1), vow > 0 ? 0 : 2);
            due.is("anew, shifts so far", x.now(6), vow + (vow > 0 ? 1 : 0));
        }
    }

    private void fewestShifts() {
        due.by(11, "by the SETTING with the fewest calls that have another WAY (of like ones the least number) it is put through");
        // With e on two wires of their own, each order comes twice.
        SistersBoard w = Due.boardOf("wires 6;switch a 0 3;switch b 2 3;switch c 0 1;switch d 1 2;switch e 4 5;vow 9;");
        due.is("0 to 1", w.call(0, 1, 30, 0), 0);
        due.is("1 to 2 with a shift", w.call(1, 2, 9, 1), 0);
        due.is("by 11 or 27, with one shift each: the least", w.now(1), 11);
        w.hang(1);
        due.is("4 to 5", w.call(4, 5, 9, 1), 0);
        due.is("by 27 without a shift, not by 20 with one", w.now(1), 27);
        due.is("none more", w.line(0, 2), 1);
        // 0 to 1 by a, b and d: 3 to 0 leaves it, 2 to 2 does not.
        SistersBoard x = Due.boardOf(TO_AND_FRO + "vow 9;");
        x.call(0, 1, 30, 0);
        x.call(1, 2, 9, 1);
        x.hang(1);
        due.is("by a, b, d", x.now(1), 11);
        due.is("none must be shifted", x.shifts(3, 0), 0);
        due.is("3 to 0", x.call(3, 0, 9, 1), 0);
        due.is("by 11, not by c", x.now(1), 11);
        due.is("none was shifted by it", x.line(0, 2), 1);
        x.hang(3);
        due.is("2 to 2 shifts it back", x.call(2, 2, 9, 1), 0);
        due.is("the least of those with one shift", x.now(1), 4);
        due.by(11, "each of those has been SHIFTED once more");
        due.is("once more", x.line(0, 2), 2);
        due.is("so far", x.now(6), 2);
    }

    private void jammedStay() {
        due.by(11, "(With shifts, too, all JAMMED SWITCHES stay.");
        for (int s = 0; s < 4; s++) {
            SistersBoard x = Due.boardOf(TO_AND_FRO);
            x.call(0, 1, 30, 0);
            x.jam(s);
            due.is("a, b, c, d are all turned for it: " + s, x.call(1, 2, 9, 1), 2);
            due.is("none must: " + s, x.shifts(1, 2), NONE);
            x.free(s);
            due.is("freed: " + s, x.call(1, 2, 9, 1), 0);
        }
        SistersBoard y = Due.boardOf("wires 3;switch a 0 1 changed;switch b 0 1 changed;");
        y.jam(1);
        due.is("0 to 0", y.call(0, 0, 9, 1), 0);
        due.is("b stays, though 0 is less", y.now(1), 3);
        due.is("nothing was turned", y.now(7), 0);
    }

    private void turnedOnceMore() {
        due.by(11, "Each SWITCH that is set otherwise was turned once more.)");
        SistersBoard x = Due.boardOf(TO_AND_FRO);
        x.call(0, 1, 30, 0);
        due.is("c", x.now(7), 1);
        due.is("c", x.lever(2, 5), 1);
        x.call(1, 2, 9, 1);
        due.is("all four", x.now(7), 5);
        int[] turned = {1, 1, 2, 1};
        for (int s = 0; s < 4; s++) {
            due.is("switch " + s, x.lever(s, 5), turned[s]);
        }
        x.call(3, 0, 9, 1);
        due.is("none", x.now(7), 5);
        x.hang(1);
        x.hang(3);
        x.hang(0);
        due.is("ringing off turns none", x.now(7), 5);
    }

    private void refusedCalls() {
        due.by(11, "0, or why not");
        for (int how = 0; how <= 1; how++) {
            int h = how;
            leaves("on IN", x -> x.call(0, 2, 1, h), 1);
            leaves("at OUT", x -> x.call(1, 2, 1, h), 1);
            leaves("no such IN", x -> x.call(3, 0, 1, h), NONE);
            leaves("no such HOURS", x -> x.call(1, 0, 31, h), NONE);
        }
        leaves("no such HOW", x -> x.call(1, 0, 1, 2), NONE);
        Looks.Acts two = x -> {
            busy(x);
            x.hang(2);
        };
        Looks.leaves(due, "2 to 0, strict", two, x -> x.call(2, 0, 1, 0), 2);
        Looks.leaves(due, "2 to 0, with shifts", two, x -> x.call(2, 0, 1, 1), 2);
    }

    private void hangs() {
        due.by(12, "The call on IN ends: 0, or why not; NONE: no such wire.");
        for (int n = 2; n <= 8; n++) {
            SistersBoard x = wires(n);
            x.call(n - 1, n - 1, 9, 0);
            due.is("beyond", x.hang(n), NONE);
            due.is("below", x.hang(-1), NONE);
            due.is("none on 0", x.hang(0), 1);
            due.is("the last wire", x.hang(n - 1), 0);
            due.is("no more", x.hang(n - 1), 1);
            due.is("nothing is up", x.now(3) + x.now(4), 0);
        }
        SistersBoard x = three();
        for (int far : FAR) {
            due.is("far", x.hang(far), NONE);
        }
        x.call(0, 1, 1, 0);
        due.is("by IN, not by OUT", x.hang(1), 1);
        x.hours(1);
        due.is("it has ended by itself", x.hang(0), 1);
        due.is("calls so far stay", x.now(5), 1);
        due.is("the setting stays", x.now(1), 1);
        due.by(12, "To END a call: 1 there is none on IN.");
        leaves("none on 1", y -> y.hang(1), 1);
        leaves("no wire 3", y -> y.hang(3), NONE);
    }

    private void turns() {
        due.by(13, "A SWITCH is TURNED: 0, or why not; NONE: no such one.");
        SistersBoard x = three();
        due.is("no switch 3", x.turn(3), NONE);
        due.is("no switch -1", x.turn(-1), NONE);
        for (int far : FAR) {
            due.is("far", x.turn(far), NONE);
        }
        due.is("without switches", new SistersBoard().turn(0), NONE);
        due.is("the last", x.turn(2), 0);
        due.is("set otherwise", x.now(1), 4);
        due.is("back", x.turn(2), 0);
        due.is("set otherwise", x.now(1), 0);
        due.by(13, "To TURN a SWITCH: 1 it is JAMMED; 2 a call goes through it: it is set otherwise.");
        SistersBoard y = Due.boardOf("wires 4;switch a 0 1;switch b 2 3;");
        y.call(0, 0, 1, 0);
        due.is("a call goes through it", y.turn(0), 2);
        due.is("none goes through that", y.turn(1), 0);
        y.jam(0);
        due.is("both: the least", y.turn(0), 1);
        y.free(0);
        due.is("freed", y.turn(0), 2);
        y.hours(1);
        due.is("the call has ended", y.turn(0), 0);
        y.jam(0);
        due.is("jammed", y.turn(0), 1);
        leaves("a call goes through it", z -> z.turn(0), 2);
        leaves("jammed", z -> z.turn(2), 1);
        leaves("no such one", z -> z.turn(3), NONE);
    }

    private void jams() {
        due.by(14, "It is JAMMED: 0, or why not; NONE: no such one.");
        SistersBoard x = three();
        due.is("no switch 3", x.jam(3), NONE);
        due.is("no switch -1", x.jam(-1), NONE);
        for (int far : FAR) {
            due.is("far", x.jam(far), NONE);
        }
        due.is("without switches", new SistersBoard().jam(0), NONE);
        for (int s = 0; s < 3; s++) {
            due.is("jammed", x.jam(s), 0);
            due.is("bits", x.now(2), (2 << s) - 1);
        }
        due.by(14, "To JAM it: 1 it is JAMMED.");
        due.is("again", x.jam(2), 1);
        due.is("the setting stays", x.now(1), 0);
        SistersBoard y = three();
        y.call(0, 1, 9, 0);
        due.is("with a call through it", y.jam(0), 0);
        due.is("as it is set", y.lever(0, 2), 1);
        leaves("again", z -> z.jam(2), 1);
        leaves("no such one", z -> z.jam(3), NONE);
    }

    private void frees() {
        due.by(15, "It is FREED: 0, or why not; NONE: no such one.");
        SistersBoard x = three();
        due.is("no switch 3", x.free(3), NONE);
        due.is("no switch -1", x.free(-1), NONE);
        for (int far : FAR) {
            due.is("far", x.free(far), NONE);
        }
        due.is("without switches", new SistersBoard().free(0), NONE);
        due.by(15, "To FREE it: 1 it is not.");
        due.is("it is not jammed", x.free(2), 1);
        x.jam(2);
        x.jam(0);
        due.is("freed", x.free(2), 0);
        due.is("the other is not", x.now(2), 1);
        due.is("again", x.free(2), 1);
        leaves("it is not jammed", z -> z.free(0), 1);
        leaves("no such one", z -> z.free(3), NONE);
    }

    // ---- hours

    private void hoursNotAsTold() {
        due.by(16, "n (1 to 60) HOURS go by: how many did; NONE: not as told.");
        SistersBoard x = three();
        due.is("0", x.hours(0), NONE);
        due.is("61", x.hours(61), NONE);
        due.is("-1", x.hours(-1), NONE);
        for (int far : FAR) {
            due.is("far", x.hours(far), NONE);
        }
        due.is("none went", x.now(0), 0);
        due.is("1", x.hours(1), 1);
        due.is("the hour", x.now(0), 1);
        due.is("60", x.hours(60), 60);
        due.is("the hour", x.now(0), 61);
        leaves("0", y -> y.hours(0), NONE);
        leaves("61", y -> y.hours(61), NONE);
    }

    private void hoursAtTheEnd() {
        due.by(16, "An HOUR (0 to 399; 400: all are over) goes");
        SistersBoard x = three();
        for (int i = 1; i <= 6; i++) {
            due.is("sixty", x.hours(60), 60);
        }
        due.is("39 more", x.hours(39), 39);
        due.is("399", x.now(0), 399);
        x.call(0, 0, 30, 0);
        due.is("one is left of 60", x.hours(60), 1);
        due.is("400", x.now(0), 400);
        due.is("one hour less", x.line(0, 1), 29);
        due.is("all are over", x.hours(1), 0);
        due.is("all are over", x.hours(60), 0);
        due.is("not as told still", x.hours(61), NONE);
        due.is("400 still", x.now(0), 400);
        due.is("no hour less", x.line(0, 1), 29);
        due.is("a switch is turned still", x.turn(1), 0);
        due.is("a call comes still", x.call(2, 1, 1, 0), 0);
        due.is("and stays", x.hours(1) + x.now(3), 5);
        due.is("and is rung off", x.hang(2), 0);
        Looks.leaves(due, "no hour is left", y -> {
            busy(y);
            to400(y);
            y.jam(0);
        }, y -> y.hours(1), 0);
    }

    private void callsEnd() {
        due.by(16, "each call has an HOUR less; at 0 it ends. It is the next HOUR.");
        int[] hours = {1, 2, 29, 30};
        for (int n : hours) {
            SistersBoard x = three();
            x.call(0, 1, n, 0);
            x.call(2, 2, 30, 0);
            for (int left = n - 1; left > 0; left--) {
                x.hours(1);
                due.is("left of " + n, x.line(0, 1), left);
                due.is("up", x.now(3), 5);
            }
            due.is("the last", x.hours(1), 1);
            due.is("at 0 it ends", x.line(0, 1), NONE);
            due.is("wires", x.now(3), n == 30 ? 0 : 4);
            due.is("where they come out", x.now(4), n == 30 ? 0 : 4);
            due.is("the hour", x.now(0), n);
            due.is("the setting stays", x.now(1), 1);
        }
        SistersBoard y = three();
        y.call(0, 0, 5, 0);
        due.is("beyond its end at once", y.hours(60), 60);
        due.is("it has ended", y.now(3), 0);
        due.is("its wire is free", y.call(0, 0, 1, 0), 0);
    }

    // ---- undone

    private void undoneNone() {
        due.by(17, "NONE: none is.");
        SistersBoard x = new SistersBoard();
        due.is("a new object", x.undo(), NONE);
        due.is("again", x.undo(), NONE);
        x.hours(1);
        due.is("one", x.undo(), 0);
        due.is("no more", x.undo(), NONE);
        due.is("nothing happens then", x.now(0), 0);
        Looks.leaves(due, "none", y -> {
            busy(y);
            y.image(0);
            y.restore(0);
        }, y -> y.undo(), NONE);
    }

    private void undoneEight() {
        due.by(17, "how many more can be (8 at most are kept)");
        for (int acts = 1; acts <= 20; acts++) {
            SistersBoard x = three();
            for (int i = 0; i < acts; i++) {
                x.turn(1);
            }
            int kept = Math.min(8, acts);
            for (int i = kept - 1; i >= 0; i--) {
                due.is(acts + " acts, more", x.undo(), i);
                due.is(acts + " acts, turned", x.lever(1, 5), acts - kept + i);
            }
            due.is(acts + " acts, no more", x.undo(), NONE);
            due.is(acts + " acts, stays", x.lever(1, 5), acts - kept);
        }
        // To and fro over the edge of what is kept.
        SistersBoard y = three();
        int turned = 0;
        int kept = 0;
        for (int i = 0; i < 200; i++) {
            if (i * i % 7 < 3) {
                y.turn(1);
                turned++;
                kept = Math.min(8, kept + 1);
            } else {
                due.is("undo " + i, y.undo(), kept > 0 ? kept - 1 : NONE);
                turned -= kept > 0 ? 1 : 0;
                kept -= kept > 0 ? 1 : 0;
            }
            due.is("turned by " + i, y.lever(1, 5), turned);
        }
    }

    private void undoneActsAlone() {
        due.by(17, "The latest of call(), hang(), turn(), jam(), free() that was done, hours() above 0, drawn() above 0, a BOOK of which some LINE was lived is undone");
        Looks.Acts[] none = {
            x -> x.call(0, 2, 1, 0), x -> x.call(1, 0, 31, 0), x -> x.hang(1), x -> x.hang(3), x -> x.turn(0),
            x -> x.turn(3), x -> x.jam(2), x -> x.jam(3), x -> x.free(0), x -> x.free(3), x -> x.hours(0),
            x -> x.hours(61), x -> x.drawn(0, 1), x -> x.drawn(61, 1), x -> x.out(0), x -> x.key(), x -> x.deaf(),
            x -> x.odds(0, 9, 1), x -> x.slip(0), x -> x.image(0), x -> x.restore(0), x -> x.restore(2),
            x -> x.feed(0, 0, 0, 0, 0), x -> x.end(0), x -> x.sets(), x -> x.faulty(),
            x -> Due.text(x, "used").sentence(), x -> Due.text(x, "@").board(),
            x -> bookOf(x, "hour 1;", 0), x -> bookOf(x, "hour 1;end 1;", 0), x -> bookOf(x, "end 1;hour 1;", 1),
            x -> bookOf(x, "", 1), x -> bookOf(x, "hour 1;hour 61;", 1), x -> bookOf(x, "hour 1;", 2)};
        for (int i = 0; i < none.length; i++) {
            SistersBoard x = new SistersBoard();
            busy(x);
            x.end(0);
            none[i].on(x);
            due.is("no act, " + i, x.undo(), 3);
            due.is("the hour is undone, " + i, x.now(0), 0);
        }
        Looks.Acts[] acts = {
            x -> x.call(1, 0, 1, 0), x -> x.call(1, 0, 1, 1), x -> x.hang(0), x -> x.jam(0), x -> x.free(2),
            x -> x.hours(1), x -> x.hours(60), x -> x.drawn(1, 1), x -> x.drawn(60, 1), x -> bookOf(x, "hour 1;", 1),
            x -> bookOf(x, "hour 1;end 1;", 1), x -> bookOf(x, "end 0;end 0;", 1)};
        for (int i = 0; i < acts.length; i++) {
            SistersBoard x = new SistersBoard();
            SistersBoard y = new SistersBoard();
            busy(x);
            busy(y);
            x.end(0);
            y.end(0);
            acts[i].on(x);
            due.is("an act, " + i, x.undo(), 4);
            if (i < 9) {
                Looks.alike(due, "an act undone, " + i, x, y);
            } else {
                due.is("a book undone, " + i, x.now(0), 1);
                due.is("a book undone, " + i, x.now(3), 5);
                due.is("a book undone, " + i, x.undo(), 3);
            }
        }
    }

    private void undoneEach() {
        due.by(17, "is undone: how many more can be");
        // Hours and draws of which none went by are no acts.
        SistersBoard x = three();
        to400(x);
        due.is("seven acts, the seventh of 40 hours", x.undo(), 6);
        due.is("the hour", x.now(0), 360);
        to400(x);
        x.hours(1);
        x.drawn(1, 1);
        due.is("the 40 hours again", x.undo(), 6);
        due.is("the hour", x.now(0), 360);
        // What is no act stays: a sentence, a slip, what a book told.
        SistersBoard y = three();
        y.turn(0);
        Due.text(y, "changed").sentence();
        y.slip(0);
        due.is("book", bookOf(y, "hour 1;end 0;", 1), 1);
        due.is("undone", y.undo(), 1);
        due.is("what it told stays", y.told(0), 11);
        due.is("undone", y.undo(), 0);
        due.is("the sentence stays", y.said(NONE), 0);
        due.is("the slip stays", y.byteAt(10), '1');
        // Behind an undo other acts may follow, and be undone.
        due.is("anew", y.turn(1), 0);
        due.is("undone", y.undo(), 0);
        due.is("no more", y.undo(), NONE);
    }

    // ---- hours by draws

    private void drawnNotAsTold() {
        due.by(31, "n (1 to 60) HOURS DRAWN by a seed: how many went by; NONE: not as told.");
        SistersBoard x = three();
        due.is("0", x.drawn(0, 1), NONE);
        due.is("61", x.drawn(61, 1), NONE);
        due.is("-1", x.drawn(-1, 1), NONE);
        for (int far : FAR) {
            due.is("far", x.drawn(far, 1), NONE);
        }
        due.is("nothing went by", x.now(0) + x.now(5), 0);
        due.is("1", x.drawn(1, 1), 1);
        due.is("60", x.drawn(60, 1), 60);
        due.is("the hour", x.now(0), 61);
        leaves("0", y -> y.drawn(0, 5), NONE);
        leaves("61", y -> y.drawn(61, 5), NONE);
    }

    private void drawnAtTheEnd() {
        due.by(31, "HOURS DRAWN by a seed: how many went by");
        SistersBoard x = three();
        for (int i = 0; i < 6; i++) {
            x.hours(60);
        }
        x.hours(30);
        due.is("ten of sixty", x.drawn(60, 3), 10);
        due.is("400", x.now(0), 400);
        int calls = x.now(5);
        due.is("none", x.drawn(60, 3), 0);
        due.is("no call is drawn", x.now(5), calls);
        due.is("not as told still", x.drawn(61, 3), NONE);
        SistersBoard y = three();
        for (int i = 0; i < 6; i++) {
            y.hours(60);
        }
        y.hours(30);
        due.is("ten of ten", y.drawn(10, 3), 10);
        due.is("the same calls", y.now(5), calls);
        Looks.leaves(due, "no hour is left", z -> {
            busy(z);
            to400(z);
            z.jam(0);
        }, z -> z.drawn(5, 5), 0);
    }

    /** Draws told once more, in longs: what an int would wrap to is taken by hand. */
    private static final class Draws {
        private long x;

        Draws(int seed) {
            x = seed & 0xFFFFFFFFL;
        }

        int of(int n) {
            x = (x * 1103515245L + 12345L) % 4294967296L;
            return (int) (x / 256 % n);
        }
    }

    private void drawnWrap() {
        due.by(31, "DRAWN by a seed x: for each draw of n x becomes x * 1103515245 + 12345 (an int, wrapping), the draw is (x >>> 8) % n: each HOUR: two times: a draw of all wires (IN), of all wires (OUT), of 6 (and 1: HOURS), of 2 (HOW): a call, if it can be; then the HOUR.");
        int[] seeds = {0, 1, -1, 7, Integer.MAX_VALUE, Integer.MIN_VALUE, 1 << 30, -123456789, 99};
        String[] boards = {THREE, TO_AND_FRO, "wires 2;switch a 0 1;", "wires 8;", "wires 7;switch a 0 6;switch b 1 5;"};
        for (int seed : seeds) {
            for (String board : boards) {
                SistersBoard x = Due.boardOf(board);
                SistersBoard y = Due.boardOf(board);
                due.is("hours", x.drawn(20, seed), 20);
                Draws draws = new Draws(seed);
                int n = y.count(0);
                for (int hour = 0; hour < 20; hour++) {
                    for (int k = 0; k < 2; k++) {
                        int in = draws.of(n);
                        int out = draws.of(n);
                        int hours = draws.of(6) + 1;
                        y.call(in, out, hours, draws.of(2));
                    }
                    y.hours(1);
                }
                due.is("looks alike by seed " + seed + " on " + board, Looks.all(x).equals(Looks.all(y)), true);
            }
        }
    }

    // ---- books

    private void otherLives() {
        due.by(33, "-1000: another lives (the tape stays).");
        int[] other = {-1, 2, 3, -1000, Integer.MIN_VALUE, Integer.MAX_VALUE};
        for (int lives : other) {
            leaves("lives " + lives, x -> x.book(lives), -1000);
        }
        SistersBoard x = three();
        due.is("2", bookOf(x, "hour 1;", 2), -1000);
        due.is("the tape stays", x.count(4), 7);
        due.is("then it is lived", x.book(1), NONE);
        due.is("an hour", x.now(0), 1);
        due.is("the tape is empty now", x.count(4), 0);
        due.is("on an empty tape", x.book(2), -1000);
    }

    private void judged() {
        due.by(33, "it is judged, all staying as it is (lives 0)");
        String[] books = {"hour 3;end 0;turn b;", "end 0;hour 1;hour 1;end 0;", "call 1 0 3 strict;jam a;free a;hour 60;"};
        int[] answers = {2, 3, NONE};
        for (int i = 0; i < books.length; i++) {
            String book = books[i];
            SistersBoard x = new SistersBoard();
            SistersBoard y = new SistersBoard();
            busy(x);
            busy(y);
            x.end(0);
            y.end(0);
            due.is(book, bookOf(x, book, 0), answers[i]);
            // What told() tells is the book's; all else is as on the twin.
            due.is("hour", x.now(0), y.now(0));
            due.is("setting", x.now(1), y.now(1));
            due.is("jammed", x.now(2), y.now(2));
            due.is("wires", x.now(3), y.now(3));
            due.is("HOURS", x.line(0, 1), y.line(0, 1));
            due.is("calls so far", x.now(5), y.now(5));
            due.is("turned so far", x.now(7), y.now(7));
            due.is("to undo", x.undo(), y.undo());
            due.is("the hour undone", x.now(0), y.now(0));
        }
        due.by(33, "The tape is a BOOK");
        SistersBoard z = three();
        due.is("an empty book is one", z.book(0), NONE);
        due.is("lived, too", z.book(1), NONE);
        due.is("no line was lived", z.undo(), NONE);
    }

    private void lived() {
        due.by(33, "or lived as far as it is not WRONG (1): the LINE that is WRONG; NONE: none");
        SistersBoard x = three();
        due.is("the first is wrong", bookOf(x, "end 0;hour 1;", 1), 0);
        due.is("nothing was lived", x.now(0), 0);
        due.is("nothing can be undone", x.undo(), NONE);
        due.is("the second is wrong", bookOf(x, "hour 1;end 0;hour 1;", 1), 1);
        due.is("the first was lived", x.now(0), 1);
        due.is("the last is wrong", bookOf(x, "hour 1;hour 1;end 0;", 1), 2);
        due.is("two were lived", x.now(0), 3);
        due.is("none is wrong", bookOf(x, "hour 1;hour 1;", 1), NONE);
        due.is("both were lived", x.now(0), 5);
        due.is("each book is one act", x.undo(), 2);
        due.is("hour", x.now(0), 3);
        due.is("each book is one act", x.undo(), 1);
        due.is("hour", x.now(0), 1);
        due.is("each book is one act", x.undo(), 0);
        due.is("hour", x.now(0), 0);
        due.is("forty lines", bookOf(x, "hour 1;".repeat(40), 1), NONE);
        due.is("forty hours", x.now(0), 40);
        due.is("one act", x.undo(), 0);
    }

    private void whyWrong() {
        due.by(34, "0 why it was WRONG (0: it was not; 1, 2 as for calls, 11 ending, 21, 22 turning, 31 jamming, 41 freeing; 9, 19: there is no such wire; 51: fewer HOURS are left)");
        String[] lines = {"hour 1;", "call 0 0 1 strict;", "call 1 1 1 strict;", "call 1 1 1 shift;", "call 2 0 1 strict;",
            "call 3 0 1 strict;", "call 7 0 1 shift;", "call 1 3 1 strict;", "call 0 7 1 shift;", "end 1;", "end 3;",
            "end 7;", "turn c;", "turn a;", "turn b;", "jam c;", "free a;"};
        int[] why = {0, 1, 1, 1, 2, 9, 9, 9, 9, 11, 19, 19, 21, 22, 22, 31, 41};
        for (int i = 0; i < lines.length; i++) {
            for (int lives = 0; lives <= 1; lives++) {
                // 0 goes to 1 by a, c is jammed.
                SistersBoard x = three();
                due.is(lines[i], bookOf(x, "call 0 1 9 strict;jam c;" + lines[i], lives), why[i] == 0 ? NONE : 2);
                due.is(lines[i] + " why", x.told(0), why[i]);
                due.is(lines[i] + " lines", x.told(1), why[i] == 0 ? 3 : 2);
                due.is(lines[i] + " hour", x.told(2), why[i] == 0 ? 1 : 0);
                due.is(lines[i] + " wires", x.told(3), 1);
                due.is(lines[i] + " lived", x.now(3), lives);
                due.is(lines[i] + " jammed", x.now(2), 4 * lives);
            }
        }
        // The last wire is one, the next is none, by any number of wires.
        for (int n = 2; n <= 8; n++) {
            SistersBoard x = wires(n);
            int last = n - 1;
            due.is("the last wire", bookOf(x, "call " + last + " " + last + " 1 strict;end " + last + ";", 0), NONE);
            if (n < 8) {
                due.is("the next", bookOf(x, "call " + n + " 0 1 strict;", 0) + x.told(0), 9);
                due.is("the next", bookOf(x, "call 0 " + n + " 1 strict;", 0) + x.told(0), 9);
                due.is("the next", bookOf(x, "end " + n + ";", 0) + x.told(0), 19);
            }
        }
        // With shifts, 2 is told where there is none by the vow.
        SistersBoard y = Due.boardOf(TO_AND_FRO + "vow 0;");
        due.is("vow 0", bookOf(y, "call 0 1 9 strict;call 1 2 9 shift;", 0), 1);
        due.is("vow 0", y.told(0), 2);
    }

    private void fewerHours() {
        due.by(34, "51: fewer HOURS are left), 1 LINES that are not, 2 the HOUR then, 3 wires on which calls are then, as bits.");
        SistersBoard x = three();
        due.is("400 hours", bookOf(x, "hour 60;hour 60;hour 60;hour 60;hour 60;hour 60;hour 40;", 0), NONE);
        due.is("the hour then", x.told(2), 400);
        due.is("all are judged", x.told(1), 7);
        due.is("401 hours", bookOf(x, "hour 60;hour 60;hour 60;hour 60;hour 60;hour 60;hour 41;", 1), 6);
        due.is("why", x.told(0), 51);
        due.is("lines that are not", x.told(1), 6);
        due.is("the hour then", x.told(2), 360);
        due.is("none of the 41 went by", x.now(0), 360);
        due.is("the last", bookOf(x, "hour 40;call 2 2 1 strict;hour 1;", 1), 2);
        due.is("why", x.told(0), 51);
        due.is("the hour then", x.told(2), 400);
        due.is("wires then", x.told(3), 4);
        due.is("400", x.now(0), 400);
        due.is("no hour is left", bookOf(x, "hour 1;", 1), 0);
        due.is("no lines", x.told(1), 0);
    }

    // ---- images

    private void imagesKept() {
        due.by(37, "BOARD, all that is so and the SENTENCE are kept in place k (0, 1): true; false: no such one.");
        SistersBoard x = new SistersBoard();
        due.is("0", x.image(0), true);
        due.is("1", x.image(1), true);
        due.is("2", x.image(2), false);
        due.is("-1", x.image(-1), false);
        for (int far : FAR) {
            due.is("far", x.image(far), false);
        }
        for (int k = 0; k <= 1; k++) {
            int place = k;
            leaves("an image leaves all as it is", y -> y.image(place) ? 1 : 0, 1);
            // The other place is not touched, and a later image takes the place of an earlier one.
            SistersBoard y = new SistersBoard();
            busy(y);
            y.image(1 - k);
            y.hours(1);
            y.image(k);
            y.hours(1);
            y.image(k);
            y.hours(1);
            due.is("the later one", y.restore(k), true);
            due.is("the later one", y.now(0), 3);
            due.is("the other", y.restore(1 - k), true);
            due.is("the other", y.now(0), 1);
            due.is("the later one again", y.restore(k), true);
            due.is("the later one again", y.now(0), 3);
        }
    }

    private void imagesRefused() {
        due.by(37, "true; false: no such one.");
        int[] bad = {-1, 2, Integer.MIN_VALUE, Integer.MAX_VALUE};
        for (int k : bad) {
            leaves("image " + k, y -> y.image(k) ? 1 : 0, 0);
            SistersBoard x = three();
            x.image(k);
            due.is("nothing is kept", x.restore(0) || x.restore(1), false);
        }
    }

    private void restored() {
        due.by(38, "They are as kept in place k (the tape, and what other calls told last, stays; nothing can be undone): true");
        for (int k = 0; k <= 1; k++) {
            SistersBoard x = new SistersBoard();
            busy(x);
            x.end(0);
            x.image(k);
            SistersBoard y = new SistersBoard();
            busy(y);
            y.end(0);
            change(x);
            due.is("restored", x.restore(k), true);
            due.is("nothing can be undone", x.undo(), NONE);
            // What other calls told last stays; so the twin is told the same.
            due.is("fault", x.fault(), 2);
            due.is("setting", x.setting(), 0);
            due.is("deafAt", x.deafAt(), 1);
            due.is("trial", x.trial(), 0);
            due.is("byteAt", x.byteAt(0), '1');
            due.is("told", x.told(0), 11);
            due.is("the tape", x.count(4), 6);
            due.is("the tape", x.board(), 1);
            due.is("vow", x.count(3), 7);
            due.is("restored again", x.restore(k), true);
            alikeNow(x, y);
        }
    }

    /** Everything is made otherwise: the board, what is so, the sentence, what calls told last, the tape. */
    private static void change(SistersBoard x) {
        Due.text(x, "wires 2;switch z 0 1 changed;sister y z;vow 3;").board();
        x.jam(0);
        x.hours(7);
        x.call(0, 1, 3, 0);
        Due.text(x, "jammed").sentence();
        Due.put(x, 0, 0).faulty();
        Due.put(x, 1, 0).faulty();
        bookOf(x, "hour 1;end 1;", 1);
        Due.text(x, "").board();
        Due.put(x, 0, 1, 2, 3).sets();
        x.deaf();
        x.slip(1);
        Due.text(x, "wires 9;").board();
        Due.text(x, "vow 7;");
    }

    private void alikeNow(SistersBoard x, SistersBoard y) {
        for (int what = 0; what < 8; what++) {
            due.is("now " + what, x.now(what), y.now(what));
        }
        for (int what = 0; what < 4; what++) {
            due.is("count " + what, x.count(what), y.count(what));
        }
        for (int k = -1; k < 4; k++) {
            due.is("said " + k, x.said(k), y.said(k));
        }
        for (int in = 0; in < 3; in++) {
            for (int what = 0; what < 3; what++) {
                due.is("line", x.line(in, what), y.line(in, what));
            }
            for (int k = 0; k < 4; k++) {
                due.is("way", x.way(in, k), y.way(in, k));
            }
        }
        for (int s = 0; s < 3; s++) {
            for (int what = 0; what < 6; what++) {
                due.is("lever", x.lever(s, what), y.lever(s, what));
            }
            due.is("hears", x.hears(s), y.hears(s));
        }
        due.is("names", bookOf(x, "turn a;", 0), bookOf(y, "turn a;", 0));
        due.is("names of sisters", Due.text(x, "by bea").sentence(), Due.text(y, "by bea").sentence());
    }

    private void restoredRefused() {
        due.by(38, "false: no such one, or nothing is kept there.");
        int[] bad = {-1, 2, 0, 1, Integer.MIN_VALUE, Integer.MAX_VALUE};
        for (int k : bad) {
            leaves("restore " + k, y -> y.restore(k) ? 1 : 0, 0);
        }
        SistersBoard x = three();
        x.image(0);
        due.is("kept in 0", x.restore(0), true);
        due.is("nothing in 1", x.restore(1), false);
        x.turn(0);
        due.is("nothing in 1", x.restore(1), false);
        due.is("what was done can still be undone", x.undo(), 0);
        SistersBoard y = three();
        y.image(1);
        due.is("nothing in 0", y.restore(0), false);
        due.is("kept in 1", y.restore(1), true);
    }
}
