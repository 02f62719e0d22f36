import java.util.NoSuchElementException;

/** Promise by promise, with answers worked out by hand from the document. */
public final class PromisesTest {
    private static final Due due = new Due("PromisesTest");
    private static final int NONE = -1;

    /** Wire 0 comes to 1 by a (setting 1) or by c (setting 4); by a alone it crosses b's wire 1. */
    private static final String THREE = "wires 3;switch a 0 1;switch b 1 2;switch c 0 1;sister ada b;sister bea c;";
    private static final String FIVE = "wires 4;switch north 0 1;switch south 2 3;switch mid 1 2;switch east 0 1;"
        + "switch west 2 3;sister ada mid;sister bea east;vow 1;";

    public static void main(String[] args) {
        newObject();
        tape();
        boards();
        faultKinds();
        levers();
        lines();
        ways();
        nowNumbers();
        strictCalls();
        callsWithShifts();
        vows();
        hangs();
        turns();
        jams();
        hoursGo();
        undone();
        undoneOfEachSort();
        shiftsNeeded();
        setsByTape();
        ordersCounted();
        deafPairs();
        keys();
        faultyOnes();
        hearing();
        sharing();
        slips();
        drawnHours();
        oddsOfCalls();
        booksJudged();
        booksLived();
        booksWrong();
        sentences();
        saidOfSwitches();
        images();
        counts();
        due.close();
    }

    private static SistersBoard three() {
        return Due.boardOf(THREE);
    }

    private static SistersBoard five() {
        return Due.boardOf(FIVE);
    }

    private static boolean leverThrows(SistersBoard x, int s, int what) {
        try {
            x.lever(s, what);
            return false;
        } catch (NoSuchElementException e) {
            return true;
        }
    }

    private static int bookOf(SistersBoard x, String text, int lives) {
        return Due.text(x, text).book(lives);
    }

    private static void newObject() {
        SistersBoard x = new SistersBoard();
        due.is("P1 wires", x.count(0), 4);
        due.is("P1 switches", x.count(1), 0);
        due.is("P1 sisters", x.count(2), 0);
        due.is("P1 vow", x.count(3), 1);
        due.is("P1 tape", x.count(4), 0);
        for (int what = 0; what < 8; what++) {
            due.is("P1 now " + what, x.now(what), 0);
        }
        for (int in = 0; in < 4; in++) {
            due.is("P1 out", x.out(in), in);
        }
        due.is("P1 fault", x.fault(), 0);
        due.is("P1 undo", x.undo(), NONE);
        due.is("P1 said", x.said(NONE), NONE);
        due.is("P1 byteAt", x.byteAt(0), NONE);
        due.is("P1 NONE", SistersBoard.NONE, NONE);
    }

    private static void tape() {
        SistersBoard x = new SistersBoard();
        for (int i = 1; i <= 47; i++) {
            due.is("P2 feed", x.feed(i, -1, 0, 0, 0), 20 * i);
        }
        due.is("P2 feed beyond 940", x.feed(1, 2, 3, 4, 5), NONE);
        due.is("P2 count", x.count(4), 940);
        due.is("P3 end below", x.end(-1), false);
        due.is("P3 end beyond", x.end(941), false);
        due.is("P3 end of all", x.end(940), true);
        due.is("P3 end", x.end(921), true);
        due.is("P2 feed to 941", x.feed(1, 2, 3, 4, 5), NONE);
        due.is("P3 count", x.count(4), 921);
        due.is("P3 end", x.end(920), true);
        due.is("P2 feed to 940", x.feed(1, 2, 3, 4, 5), 940);
        due.is("P3 empty", x.end(0), true);
        due.is("P3 none left", x.end(1), false);
        due.is("P2 highest byte first", x.feed(0x00FFFFFF, 0, 0, 0, 0), 20);
        x.end(4);
        due.is("P2 highest byte first: 0 goes to 0", x.sets(), 1);
        x.feed(0xFFFFFF00, 0, 0, 0, 0);
        x.end(4);
        due.is("P2 highest byte first: 3 never goes to 0", x.sets(), 0);
    }

    private static void boards() {
        SistersBoard x = new SistersBoard();
        due.is("P4 lines", Due.text(x, FIVE).board(), 9);
        due.is("P4 tape is empty then", x.count(4), 0);
        due.is("P4 wires", x.count(0), 4);
        due.is("P4 switches", x.count(1), 5);
        due.is("P4 fault place", Due.text(x, "wires 3;vow 2;vow 3;").board(), -1 - 14);
        due.is("P4 tape is empty behind a fault", x.count(4), 0);
        due.is("P4 it stays", x.count(1), 5);
        x.call(0, 3, 9, 0);
        x.jam(1);
        x.hours(2);
        Due.text(x, "used").sentence();
        due.is("P4 acts to undo", x.undo(), 2);
        due.is("P4 a new board", Due.text(x, "switch a 0 1 changed;switch b 1 3;switch c 0 3 changed;").board(), 3);
        due.is("P4 wires without", x.count(0), 4);
        due.is("P4 vow without", x.count(3), 1);
        due.is("P4 setting", x.now(1), 5);
        int[] zero = {0, 2, 3, 4, 5, 6, 7};
        for (int what : zero) {
            due.is("P4 new board now " + what, x.now(what), 0);
        }
        due.is("P4 no sentence", x.said(NONE), NONE);
        due.is("P4 no act of another board is undone", x.undo(), NONE);
        due.is("P4 an empty text", x.board(), 0);
        due.is("P4 an empty text's wires", x.count(0), 4);
        due.is("P4 an empty text's switches", x.count(1), 0);
    }

    private static void faultKinds() {
        SistersBoard x = three();
        due.is("P5 none", x.fault(), 0);
        due.is("P5 board", Due.text(x, "wires 9;").board(), -1 - 6);
        due.is("P5 kind 2", x.fault(), 2);
        due.is("P5 book", bookOf(x, "turn ada;", 0), -2 - 5);
        due.is("P5 kind 3", x.fault(), 3);
        due.is("P5 other lives", x.book(3), -1000);
        due.is("P5 it is left", x.fault(), 3);
        due.is("P5 sentence", x.sentence(), -1);
        due.is("P5 kind 1", x.fault(), 1);
        due.is("P5 a good sentence", Due.text(x, "changed").sentence(), 1);
        due.is("P5 none now", x.fault(), 0);
    }

    private static void levers() {
        SistersBoard x = three();
        due.is("P6 low", x.lever(1, 0), 1);
        due.is("P6 high", x.lever(1, 1), 2);
        due.is("P6 straight", x.lever(0, 2), 0);
        x.call(0, 1, 5, 0);
        due.is("P6 changed", x.lever(0, 2), 1);
        due.is("P6 calls through b", x.lever(1, 4), 1);
        due.is("P6 turned", x.lever(0, 5), 1);
        due.is("P6 not turned", x.lever(1, 5), 0);
        due.is("P6 not jammed", x.lever(1, 3), 0);
        x.jam(1);
        due.is("P6 jammed", x.lever(1, 3), 1);
        x.call(2, 2, 5, 0);
        due.is("P6 bits by IN", x.lever(1, 4), 5);
        due.is("P6 last switch", leverThrows(x, 2, 5), false);
        due.is("P6 no such switch", leverThrows(x, 3, 0), true);
        due.is("P6 no such switch", leverThrows(x, -1, 0), true);
        due.is("P6 no such what", leverThrows(x, 0, 6), true);
        due.is("P6 no such what", leverThrows(x, 0, -1), true);
        due.is("P6 far off", leverThrows(x, Integer.MIN_VALUE, Integer.MAX_VALUE), true);
        due.is("P6 throwing changes nothing", x.now(3), 5);
    }

    private static void lines() {
        SistersBoard x = three();
        due.is("P7 no call", x.line(0, 0), NONE);
        x.call(0, 1, 5, 0);
        due.is("P7 OUT", x.line(0, 0), 1);
        due.is("P7 HOURS", x.line(0, 1), 5);
        x.hours(1);
        due.is("P7 HOURS left", x.line(0, 1), 4);
        due.is("P7 SHIFTED", x.line(0, 2), 0);
        x.call(2, 0, 5, 1);
        due.is("P7 SHIFTED once", x.line(0, 2), 1);
        due.is("P7 no such what", x.line(0, 3), NONE);
        due.is("P7 no such what", x.line(0, -1), NONE);
        due.is("P7 no such wire", x.line(3, 0), NONE);
        due.is("P7 no such wire", x.line(-1, 0), NONE);
    }

    private static void ways() {
        SistersBoard x = Due.boardOf("wires 3;switch a 0 1 changed;switch b 1 2 changed;switch c 0 1 changed;");
        // 0: by a to 1, by b to 2, c is not on 2; 1: to 0, then by c to 1; 2: by b to 1, by c to 0.
        int[][] way = {{0, 1, 2, 2}, {1, 0, 0, 1}, {2, 2, 1, 0}};
        for (int in = 0; in < 3; in++) {
            for (int k = 0; k < 4; k++) {
                due.is("P9 way " + in + " " + k, x.way(in, k), way[in][k]);
            }
            due.is("P8 out " + in, x.out(in), way[in][3]);
            due.is("P9 beyond", x.way(in, 4), NONE);
            due.is("P9 below", x.way(in, -1), NONE);
        }
        due.is("P8 no such wire", x.out(3), NONE);
        due.is("P8 no such wire", x.out(-1), NONE);
        due.is("P9 no such wire", x.way(3, 0), NONE);
        due.is("P9 no such wire", x.way(-1, 0), NONE);
    }

    private static void nowNumbers() {
        SistersBoard x = three();
        x.call(0, 1, 9, 0);
        x.call(2, 0, 8, 1);
        x.hours(3);
        x.jam(1);
        int[] want = {3, 6, 2, 5, 3, 2, 1, 4};
        for (int what = 0; what < 8; what++) {
            due.is("P10 now " + what, x.now(what), want[what]);
        }
        due.is("P10 another", x.now(8), NONE);
        due.is("P10 another", x.now(-1), NONE);
    }

    private static void strictCalls() {
        SistersBoard x = three();
        due.is("P11 IN", x.call(3, 0, 1, 0), NONE);
        due.is("P11 IN", x.call(-1, 0, 1, 0), NONE);
        due.is("P11 OUT", x.call(0, 3, 1, 0), NONE);
        due.is("P11 OUT", x.call(0, -1, 1, 0), NONE);
        due.is("P11 no HOURS", x.call(0, 0, 0, 0), NONE);
        due.is("P11 too many HOURS", x.call(0, 0, 31, 0), NONE);
        due.is("P11 HOW", x.call(0, 0, 1, 2), NONE);
        due.is("P11 HOW", x.call(0, 0, 1, -1), NONE);
        due.is("P11 30 HOURS", x.call(0, 1, 30, 0), 0);
        due.is("P11 the least setting", x.now(1), 1);
        due.is("P11 a call is on IN", x.call(0, 2, 1, 0), 1);
        due.is("P11 a call comes out at OUT", x.call(2, 1, 1, 1), 1);
        due.is("P11 strict, not by any", x.call(2, 0, 1, 0), 2);
        due.is("P11 nothing came of it", x.now(3), 1);
        due.is("P11 strict", x.call(2, 2, 1, 0), 0);
        due.is("P11 the setting stays", x.now(1), 1);
        due.is("P11 calls so far", x.now(5), 2);
    }

    private static void callsWithShifts() {
        SistersBoard x = three();
        x.call(0, 1, 9, 0);
        due.is("P11 with shifts", x.call(2, 0, 9, 1), 0);
        due.is("P11 by setting", x.now(1), 6);
        due.is("P11 shifted", x.line(0, 2), 1);
        due.is("P11 the new one is not", x.line(2, 2), 0);
        due.is("P11 shifts so far", x.now(6), 1);
        due.is("P11 turned so far", x.now(7), 4);
        due.is("P11 a turned", x.lever(0, 5), 2);
        due.is("P11 b turned", x.lever(1, 5), 1);
        due.is("P11 c turned", x.lever(2, 5), 1);
        due.is("P11 all come out as told", x.out(0) * 10 + x.out(2), 10);
        // With shifts the fewest are wanted, of like ones the least number: here none is needed.
        SistersBoard y = three();
        y.call(0, 1, 9, 1);
        due.is("P11 none needed", y.call(2, 2, 9, 1), 0);
        due.is("P11 none shifted", y.now(6), 0);
        due.is("P11 as it was", y.now(1), 1);
        // Jammed switches stay, with shifts too.
        SistersBoard z = three();
        z.call(0, 1, 9, 0);
        z.jam(2);
        due.is("P11 jammed", z.call(2, 0, 9, 1), 2);
        due.is("P11 jammed, strict", z.call(2, 2, 9, 0), 0);
        // More turns are taken for fewer shifts, and a setting of a low number for none.
        SistersBoard w = Due.boardOf("wires 2;switch a 0 1 changed;switch b 0 1 changed;");
        due.is("P11 least number though it turns two", w.call(0, 0, 1, 0), 0);
        due.is("P11 least", w.now(1), 0);
        due.is("P11 two turned", w.now(7), 2);
    }

    private static void vows() {
        SistersBoard x = Due.boardOf(THREE + "vow 0;");
        x.call(0, 1, 9, 0);
        due.is("vow 0: no shift", x.call(2, 0, 9, 1), 2);
        due.is("vow 0: shifts", x.shifts(2, 0), NONE);
        for (int vow = 1; vow <= 2; vow++) {
            SistersBoard y = shiftedOnce(vow);
            // 3 comes to 3 if 2 goes by c again (setting 4: its second shift), or if 0 goes by a, d and f (59).
            due.is("vow " + vow + ": shifts", y.shifts(3, 3), 1);
            due.is("vow " + vow + ": call", y.call(3, 3, 9, 1), 0);
            due.is("vow " + vow + ": setting", y.now(1), vow == 2 ? 4 : 59);
            due.is("vow " + vow + ": SHIFTED, 2", y.line(2, 2), vow);
            due.is("vow " + vow + ": SHIFTED, 0", y.line(0, 2), 2 - vow);
            due.is("vow " + vow + ": shifts so far", y.now(6), 2);
        }
        SistersBoard z = shiftedOnce(1);
        z.jam(5);
        due.is("vow 1: with f jammed there is none", z.shifts(3, 3), NONE);
        due.is("vow 1: with f jammed there is none", z.call(3, 3, 9, 1), 2);
        z = shiftedOnce(2);
        z.jam(5);
        due.is("vow 2: with f jammed there is one", z.call(3, 3, 9, 1), 0);
    }

    /** The call 2 to 0 goes by c, then, as 3 to 2 needs it, by b, d and e; 0 to 2 goes by c then. */
    private static SistersBoard shiftedOnce(int vow) {
        SistersBoard x = Due.boardOf("switch a 0 1;switch b 2 3;switch c 0 2;switch d 1 3;switch e 0 1;switch f 2 3;vow "
            + vow + ";");
        x.call(2, 0, 9, 1);
        due.is("by c", x.now(1), 4);
        x.call(1, 3, 9, 1);
        due.is("by c, d", x.now(1), 12);
        due.is("3 to 2 is not strict", x.call(3, 2, 9, 0), 2);
        due.is("3 to 2", x.call(3, 2, 9, 1), 0);
        due.is("by b, d, e", x.now(1), 26);
        due.is("one of two is shifted", x.line(2, 2) * 10 + x.line(1, 2), 10);
        x.hang(1);
        x.hang(3);
        due.is("0 to 2", x.call(0, 2, 9, 0), 0);
        due.is("by b, c, d, e", x.now(1), 30);
        return x;
    }

    private static void hangs() {
        SistersBoard x = three();
        due.is("P12 none there", x.hang(0), 1);
        x.call(0, 1, 5, 0);
        due.is("P12 ends", x.hang(0), 0);
        due.is("P12 it is no more", x.now(3), 0);
        due.is("P12 the setting stays", x.now(1), 1);
        due.is("P12 calls so far stay", x.now(5), 1);
        due.is("P12 again", x.hang(0), 1);
        due.is("P12 no such wire", x.hang(3), NONE);
        due.is("P12 no such wire", x.hang(-1), NONE);
    }

    private static void turns() {
        SistersBoard x = three();
        due.is("P13 turned", x.turn(1), 0);
        due.is("P13 changed", x.now(1), 2);
        due.is("P13 how often", x.lever(1, 5), 1);
        due.is("P13 back", x.turn(1), 0);
        due.is("P13 straight", x.now(1), 0);
        due.is("P13 turned so far", x.now(7), 2);
        x.call(0, 1, 5, 0);
        due.is("P13 a call goes through it straight", x.turn(1), 2);
        due.is("P13 a call goes through it changed", x.turn(0), 2);
        x.jam(1);
        due.is("P13 jammed is the least", x.turn(1), 1);
        x.hang(0);
        due.is("P13 free of calls", x.turn(0), 0);
        due.is("P13 still jammed", x.turn(1), 1);
        due.is("P13 no such one", x.turn(3), NONE);
        due.is("P13 no such one", x.turn(-1), NONE);
    }

    private static void jams() {
        SistersBoard x = three();
        due.is("P15 not jammed", x.free(0), 1);
        due.is("P14 jammed", x.jam(0), 0);
        due.is("P14 again", x.jam(0), 1);
        due.is("P14 bits", x.now(2), 1);
        due.is("P14 others too", x.jam(2), 0);
        due.is("P14 bits", x.now(2), 5);
        due.is("P14 what is jammed stays", x.call(0, 1, 5, 0), 2);
        due.is("P15 freed", x.free(2), 0);
        due.is("P15 bits", x.now(2), 1);
        due.is("P15 by c then", x.call(0, 1, 5, 0), 0);
        due.is("P15 by c then", x.now(1), 4);
        due.is("P14 with a call on it", x.jam(2), 0);
        due.is("P14 no such one", x.jam(3), NONE);
        due.is("P14 no such one", x.jam(-1), NONE);
        due.is("P15 no such one", x.free(3), NONE);
        due.is("P15 no such one", x.free(-1), NONE);
    }

    private static void hoursGo() {
        SistersBoard x = three();
        x.call(0, 0, 2, 0);
        x.call(2, 2, 3, 0);
        due.is("P16 none", x.hours(0), NONE);
        due.is("P16 too many", x.hours(61), NONE);
        due.is("P16 below", x.hours(Integer.MIN_VALUE), NONE);
        due.is("P16 one", x.hours(1), 1);
        due.is("P16 both up", x.now(3), 5);
        due.is("P16 next", x.hours(1), 1);
        due.is("P16 at 0 it ends", x.now(3), 4);
        due.is("P16 OUT is free", x.now(4), 4);
        due.is("P16 HOURS left", x.line(2, 1), 1);
        for (int i = 0; i < 6; i++) {
            due.is("P16 sixty", x.hours(60), 60);
        }
        due.is("P16 the hour", x.now(0), 362);
        due.is("P16 as many as are left", x.hours(60), 38);
        due.is("P16 the last", x.now(0), 400);
        due.is("P16 all are over", x.hours(1), 0);
        due.is("P16 a call may still come", x.call(1, 1, 1, 0), 0);
        due.is("P16 but no hour goes", x.hours(60), 0);
        due.is("P16 it is up", x.now(3), 2);
        due.is("P31 no hour to draw", x.drawn(3, 1), 0);
        due.is("P31 nothing was drawn", x.now(5), 3);
        due.is("P17 only acts are undone", x.undo(), 7);
        due.is("P17 the call", x.now(3), 0);
    }

    private static void undone() {
        SistersBoard x = three();
        due.is("P17 none", x.undo(), NONE);
        for (int i = 0; i < 10; i++) {
            x.turn(1);
            x.turn(9);
        }
        due.is("P17 turned", x.lever(1, 5), 10);
        for (int i = 7; i >= 0; i--) {
            due.is("P17 more", x.undo(), i);
        }
        due.is("P17 eight were kept", x.lever(1, 5), 2);
        due.is("P17 no more", x.undo(), NONE);
        due.is("P17 nothing happens then", x.lever(1, 5), 2);
        x.turn(1);
        due.is("P17 anew", x.undo(), 0);
    }

    private static void undoneOfEachSort() {
        SistersBoard x = three();
        x.call(0, 1, 9, 0);
        x.call(2, 0, 9, 1);
        x.hang(2);
        x.jam(1);
        x.free(1);
        x.hours(4);
        x.drawn(2, 77);
        bookOf(x, "hour 1;end 1;end 1;end 1;", 1);
        bookOf(x, "end 7;", 1);
        bookOf(x, "hour 1;", 0);
        x.call(0, 0, 0, 0);
        x.hours(0);
        due.is("P17 hour ahead", x.now(0), 7);
        due.is("P17 book", x.undo(), 7);
        due.is("P17 book's hour", x.now(0), 6);
        due.is("P17 drawn", x.undo(), 6);
        due.is("P17 drawn hours", x.now(0), 4);
        due.is("P17 hours", x.undo(), 5);
        due.is("P17 the hour", x.now(0), 0);
        due.is("P17 HOURS left", x.line(0, 1), 9);
        due.is("P17 free", x.undo(), 4);
        due.is("P17 jammed again", x.now(2), 2);
        due.is("P17 jam", x.undo(), 3);
        due.is("P17 not jammed", x.now(2), 0);
        due.is("P17 hang", x.undo(), 2);
        due.is("P17 up again", x.now(3), 5);
        due.is("P17 call", x.undo(), 1);
        due.is("P17 shifted back", x.line(0, 2), 0);
        due.is("P17 setting back", x.now(1), 1);
        due.is("P17 turned back", x.now(7), 1);
        due.is("P17 shifts back", x.now(6), 0);
        due.is("P17 first", x.undo(), 0);
        due.is("P17 calls so far", x.now(5), 0);
    }

    private static void shiftsNeeded() {
        SistersBoard x = three();
        x.call(0, 1, 9, 0);
        due.is("P18 strict", x.shifts(2, 2), 0);
        due.is("P18 one", x.shifts(2, 0), 1);
        due.is("P18 it only tells", x.now(1), 1);
        due.is("P18 on IN", x.shifts(0, 0), NONE);
        due.is("P18 at OUT", x.shifts(2, 1), NONE);
        due.is("P18 no such wire", x.shifts(3, 0), NONE);
        due.is("P18 no such wire", x.shifts(0, -1), NONE);
        x.jam(0);
        due.is("P18 not by any", x.shifts(2, 0), NONE);
    }

    private static void setsByTape() {
        SistersBoard x = three();
        due.is("P20 ahead of any", x.setting(), NONE);
        // Settings and where 0, 1, 2 come out: 0: 012, 1: 102, 2: 021, 3: 201, 4: 102, 5: 012, 6: 120, 7: 210.
        due.is("P19 twice", Due.put(x, 1, 0, 2).sets(), 2);
        due.is("P20 the least", x.setting(), 1);
        due.is("P19 tape is empty then", x.count(4), 0);
        due.is("P19 one", Due.put(x, 2, 1, 0).sets(), 1);
        due.is("P20 the least", x.setting(), 7);
        due.is("P19 anywhere", Due.put(x, 255, 255, 255).sets(), 8);
        due.is("P20 the least", x.setting(), 0);
        due.is("P19 2 to 1", Due.put(x, 255, 255, 1).sets(), 2);
        due.is("P20 the least", x.setting(), 2);
        due.is("P19 none", Due.put(x, 1, 1, 255).sets(), 0);
        due.is("P20 it stays", x.setting(), 2);
        due.is("P19 too few", Due.put(x, 1, 0).sets(), NONE);
        due.is("P19 tape is empty then too", x.count(4), 0);
        due.is("P19 too many", Due.put(x, 0, 1, 2, 255).sets(), NONE);
        due.is("P19 no such wire", Due.put(x, 0, 1, 3).sets(), NONE);
        due.is("P19 no such wire", Due.put(x, 254, 1, 2).sets(), NONE);
        due.is("P20 it stays", x.setting(), 2);
        x.jam(0);
        due.is("P19 jammed straight", Due.put(x, 1, 0, 2).sets(), 1);
        due.is("P20 the least", x.setting(), 4);
        x.call(0, 1, 3, 0);
        due.is("P19 calls do not matter", Due.put(x, 0, 1, 2).sets(), 1);
        Due.text(x, "wires 2;").board();
        due.is("P20 stays with a new board", x.setting(), 0);
    }

    private static void ordersCounted() {
        SistersBoard x = three();
        due.is("P21 all six", x.orders(), 6);
        x.jam(1);
        due.is("P21 b straight: two", x.orders(), 2);
        x.free(1);
        x.turn(1);
        x.jam(1);
        due.is("P21 b changed: 021, 201, 120, 210", x.orders(), 4);
        x.jam(0);
        x.jam(2);
        due.is("P21 all jammed", x.orders(), 1);
        due.is("P21 without switches", new SistersBoard().orders(), 1);
        SistersBoard y = Due.boardOf("wires 8;switch a 0 1;switch b 2 3;switch c 4 5;switch d 6 7;switch e 1 2;"
            + "switch f 3 4;switch g 5 6;switch h 0 7;");
        due.is("P21 eight wires", y.orders(), 256);
    }

    private static void deafPairs() {
        SistersBoard x = three();
        due.is("P23 ahead of any", x.deafAt(), NONE);
        due.is("P22 none", x.deaf(), 0);
        due.is("P23 still ahead of any", x.deafAt(), NONE);
        x.call(0, 1, 9, 0);
        // By a changed, b and c straight, all fixed: 1 to 0 and 2 to 2 alone.
        due.is("P22 1 to 2, 2 to 0", x.deaf(), 2);
        due.is("P23 the first", x.deafAt(), 8 + 2);
        x.hang(0);
        due.is("P22 none again", x.deaf(), 0);
        due.is("P23 by the latest above 0", x.deafAt(), 8 + 2);
        due.is("P22 without switches", new SistersBoard().deaf(), 12);
    }

    private static void keys() {
        due.is("P24 no switches", new SistersBoard().key(), NONE);
        // Without b 2 stays alone: four pairs; without a 0 never comes to 2, without c 2 never to 0.
        due.is("P24 b", three().key(), 1);
        SistersBoard x = Due.boardOf("wires 2;switch a 0 1;switch b 0 1;");
        due.is("P24 of like ones the first", x.key(), 0);
        x.jam(1);
        due.is("P24 jamming a makes two deaf", x.key(), 0);
        SistersBoard y = Due.boardOf("wires 4;switch a 0 1;switch b 2 3;");
        y.jam(0);
        due.is("P24 b adds to a", y.key(), 1);
        y.jam(1);
        due.is("P24 jammed ones may be it", y.key(), 0);
        due.is("P24 it only tells", y.now(2), 3);
    }

    private static void faultyOnes() {
        SistersBoard x = three();
        due.is("P26 ahead of any", x.trial(), NONE);
        due.is("P25 empty", x.faulty(), NONE);
        due.is("P25 odd", Due.put(x, 0, 1, 2).faulty(), NONE);
        due.is("P25 tape is empty then", x.count(4), 0);
        due.is("P25 no such wire", Due.put(x, 0, 3).faulty(), NONE);
        due.is("P25 no such wire", Due.put(x, 3, 0).faulty(), NONE);
        due.is("P25 nine pairs", Due.put(x, new int[18]).faulty(), NONE);
        due.is("P25 eight pairs", Due.put(x, new int[16]).faulty(), 1024 + 2);
        due.is("P26 b or none: by 1", x.trial(), 1);
        due.is("P25 a or c", Due.put(x, 0, 1).faulty(), 5);
        due.is("P26 no wire tells them apart", x.trial(), 0);
        x.feed(0x0001FFFF, 0, 0, 0, 0);
        x.end(2);
        due.is("P25 the tape's bytes alone", x.faulty(), 5);
        due.is("P25 by none", Due.put(x, 0, 1, 0, 0).faulty(), 0);
        due.is("P26 by the latest above 0", x.trial(), 0);
        due.is("P25 all but b", Due.put(x, 2, 2).faulty(), 1024 + 4 + 1);
        due.is("P26 by 0: two at most", x.trial(), 0);
        x.turn(1);
        // b changed: 0: 012 to 021; a: 201; b: 012; c: 120.
        due.is("P25 from what is set", Due.put(x, 2, 1).faulty(), 1024 + 1);
        due.is("P26 by 0", x.trial(), 0);
        due.is("P25 pairs together", Due.put(x, 2, 1, 0, 2).faulty(), 1);
        x.jam(0);
        due.is("P25 jammed ones may be it", Due.put(x, 2, 1, 0, 2).faulty(), 1);
    }

    private static void hearing() {
        SistersBoard x = three();
        due.is("P27 none", x.hears(0), 0);
        x.call(0, 1, 9, 0);
        x.call(2, 2, 9, 0);
        due.is("P27 ada by b", x.hears(0), 5);
        due.is("P27 bea by c", x.hears(1), 1);
        due.is("P27 no such sister", x.hears(2), NONE);
        due.is("P27 no such sister", x.hears(-1), NONE);
        due.is("P27 no sisters", new SistersBoard().hears(0), NONE);
    }

    private static void sharing() {
        SistersBoard x = three();
        due.is("P28 0 and 1 by a and c", x.share(0, 1), 5);
        due.is("P28 1 and 2 by b", x.share(1, 2), 2);
        due.is("P28 0 and 2", x.share(0, 2), 0);
        due.is("P28 itself", x.share(1, 1), 7);
        x.turn(0);
        due.is("P28 a changed: 0 and 2 by b", x.share(0, 2), 2);
        due.is("P28 no such wire", x.share(3, 0), NONE);
        due.is("P28 no such wire", x.share(0, -1), NONE);
    }

    private static void slips() {
        SistersBoard x = three();
        slipIs(x, 2, "2 goes to 2");
        x.turn(1);
        slipIs(x, 2, "2 goes to 1");
        x.turn(1);
        x.call(0, 1, 10, 0);
        slipIs(x, 0, "0 to 1 for 10");
        due.is("P29 no such wire", x.slip(3), NONE);
        due.is("P29 no such wire", x.slip(-1), NONE);
        due.is("P30 the latest stays", x.byteAt(12), '0');
        x.hours(1);
        slipIs(x, 0, "0 to 1 for 9");
        slipIs(x, 1, "1 goes to 0");
    }

    private static void slipIs(SistersBoard x, int in, String text) {
        due.is("P29 " + text, x.slip(in), text.length());
        for (int i = 0; i < text.length(); i++) {
            due.is("P30 " + text + " " + i, x.byteAt(i), text.charAt(i));
        }
        due.is("P30 beyond " + text, x.byteAt(text.length()), NONE);
        due.is("P30 below " + text, x.byteAt(-1), NONE);
    }

    /** On a board without switches a call can be only from a wire to itself: told here once more, by draws alone. */
    private static int[] plainDraws(int n, int seed, int[] left) {
        int x = seed;
        int calls = 0;
        for (int h = 0; h < n; h++) {
            for (int k = 0; k < 2; k++) {
                int[] of = {4, 4, 6, 2};
                for (int i = 0; i < 4; i++) {
                    x = x * 1103515245 + 12345;
                    of[i] = (x >>> 8) % of[i];
                }
                if (of[0] == of[1] && left[of[0]] == 0) {
                    left[of[0]] = of[2] + 1;
                    calls++;
                }
            }
            for (int w = 0; w < 4; w++) {
                left[w] = Math.max(0, left[w] - 1);
            }
        }
        return new int[] {calls};
    }

    private static void drawnHours() {
        SistersBoard x = new SistersBoard();
        due.is("P31 none", x.drawn(0, 1), NONE);
        due.is("P31 too many", x.drawn(61, 1), NONE);
        due.is("P31 below", x.drawn(-1, 1), NONE);
        int[] left = new int[4];
        int calls = 0;
        int[] seeds = {5, -123456789, Integer.MAX_VALUE, 0};
        for (int seed : seeds) {
            due.is("P31 hours", x.drawn(60, seed), 60);
            calls += plainDraws(60, seed, left)[0];
            due.is("P31 calls so far", x.now(5), calls);
            for (int w = 0; w < 4; w++) {
                due.is("P31 left", x.line(w, 1), left[w] == 0 ? NONE : left[w]);
            }
        }
        x.hours(60);
        x.hours(60);
        x.hours(30);
        due.is("P31 as many as are left", x.drawn(60, 9), 10);
        due.is("P31 the last hour", x.now(0), 400);
        due.is("P17 drawn is undone", x.undo(), 7);
        due.is("P17 the hour then", x.now(0), 390);
    }

    private static void oddsOfCalls() {
        SistersBoard x = new SistersBoard();
        due.is("P32 no such wire", x.odds(4, 1, 1), NONE);
        due.is("P32 no such wire", x.odds(-1, 1, 1), NONE);
        due.is("P32 no seeds", x.odds(0, 0, 1), NONE);
        due.is("P32 too many seeds", x.odds(0, 21, 1), NONE);
        x.call(1, 1, 30, 0);
        int[] seeds = {1, 99, Integer.MAX_VALUE - 3};
        for (int seed : seeds) {
            for (int in = 0; in < 4; in++) {
                int many = 0;
                for (int i = 0; i < 20; i++) {
                    int[] left = {0, 30, 0, 0};
                    plainDraws(12, seed + i, left);
                    many += left[in] > 0 ? 1 : 0;
                }
                due.is("P32 odds", x.odds(in, 20, seed), many);
            }
        }
        due.is("P32 a call of 30 hours is up", x.odds(1, 20, 7), 20);
        due.is("P32 it only tells", x.now(0) + x.now(5), 1);
        for (int i = 0; i < 7; i++) {
            x.hours(60);
        }
        x.call(2, 2, 1, 0);
        due.is("P32 no hour goes at 400", x.odds(2, 5, 1), 5);
        due.is("P32 and none is drawn", x.odds(3, 20, 1), 0);
    }

    private static void booksJudged() {
        SistersBoard x = three();
        due.is("P34 ahead of any", x.told(0), NONE);
        Due.text(x, "hour 1;");
        due.is("P33 other lives", x.book(2), -1000);
        due.is("P33 other lives", x.book(-1), -1000);
        due.is("P33 the tape stays", x.count(4), 7);
        due.is("P34 still ahead of any", x.told(1), NONE);
        due.is("P33 judged", x.book(0), NONE);
        due.is("P33 tape is empty then", x.count(4), 0);
        toldIs(x, 0, 1, 1, 0);
        due.is("P33 all stays", x.now(0), 0);
        due.is("P33 nothing to undo", x.undo(), NONE);
        due.is("P33 a book", bookOf(x, "call 0 1 3 strict;call 2 0 9 shift;hour 2;turn b;", 0), 3);
        toldIs(x, 22, 3, 2, 5);
        due.is("P33 all stays", x.now(5), 0);
        due.is("P33 fault", bookOf(x, "hour 0;", 0), -2 - 5);
        due.is("P33 tape is empty behind a fault", x.count(4), 0);
        toldIs(x, 22, 3, 2, 5);
        due.is("P33 an empty book", x.book(1), NONE);
        toldIs(x, 0, 0, 0, 0);
        due.is("P33 no line was lived", x.undo(), NONE);
        due.is("P34 another", x.told(4), NONE);
        due.is("P34 another", x.told(-1), NONE);
    }

    private static void toldIs(SistersBoard x, int why, int lines, int hour, int wires) {
        due.is("P34 why", x.told(0), why);
        due.is("P34 lines", x.told(1), lines);
        due.is("P34 hour", x.told(2), hour);
        due.is("P34 wires", x.told(3), wires);
    }

    private static void booksLived() {
        SistersBoard x = three();
        due.is("P33 lived", bookOf(x, "call 0 1 3 strict;call 2 0 9 shift;hour 2;turn b;hour 1;", 1), 3);
        due.is("P33 as far as it is not wrong", x.now(0), 2);
        due.is("P33 setting", x.now(1), 6);
        due.is("P33 calls", x.now(3), 5);
        due.is("P33 one act", x.undo(), 0);
        due.is("P33 undone", x.now(3) + x.now(0) + x.now(1), 0);
        due.is("P33 wrong at once", bookOf(x, "end 0;hour 1;", 1), 0);
        toldIs(x, 11, 0, 0, 0);
        due.is("P33 nothing was lived", x.undo(), NONE);
        due.is("P33 all lived", bookOf(x, "jam a;jam c;free a;turn a;hour 60;", 1), NONE);
        due.is("P33 jammed", x.now(2), 4);
        due.is("P33 turned", x.now(1), 1);
        toldIs(x, 0, 5, 60, 0);
    }

    private static void booksWrong() {
        String[] books = {"call 0 1 9 strict;call 0 0 1 shift;", "call 0 1 9 strict;call 2 0 1 strict;",
            "hour 1;call 3 0 1 strict;", "hour 1;call 0 7 1 strict;", "hour 1;end 0;", "hour 1;end 3;",
            "jam a;turn a;", "call 0 1 9 strict;turn b;", "jam b;jam b;", "jam b;free a;"};
        int[] why = {1, 2, 9, 9, 11, 19, 21, 22, 31, 41};
        for (int i = 0; i < books.length; i++) {
            SistersBoard x = three();
            due.is("P33 " + books[i], bookOf(x, books[i], i % 2), 1);
            due.is("P34 " + books[i], x.told(0), why[i]);
            due.is("P34 lines of " + books[i], x.told(1), 1);
        }
        SistersBoard y = three();
        due.is("P33 fewer hours are left", bookOf(y, "hour 60;hour 60;hour 60;hour 60;hour 60;hour 60;hour 41;", 1), 6);
        toldIs(y, 51, 6, 360, 0);
        due.is("P33 just as many", bookOf(y, "hour 40;call 0 0 1 strict;hour 1;", 1), 2);
        toldIs(y, 51, 2, 400, 1);
    }

    private static void sentences() {
        SistersBoard x = three();
        due.is("P35 one", Due.text(x, "changed").sentence(), 1);
        due.is("P35 tape is empty then", x.count(4), 0);
        due.is("P35 not, bracket, two", Due.text(x, "not(used or by ada)").sentence(), 4);
        due.is("P35 said", x.said(NONE), 2);
        due.is("P35 a fault", Due.text(x, "used or").sentence(), -1 - 7);
        due.is("P35 it stays", x.said(NONE), 2);
        due.is("P35 tape is empty behind a fault", x.count(4), 0);
        due.is("P35 empty", x.sentence(), -1);
        due.is("P35 by who is none", Due.text(x, "by a").sentence(), -1 - 3);
        due.is("P35 it stays", x.said(0), 0);
        due.is("P35 it stays", x.said(1), 2);
    }

    private static void saidIs(SistersBoard x, String text, int... switches) {
        due.is("P35 " + text, Due.text(x, text).sentence() > 0, true);
        due.is("P36 how many: " + text, x.said(NONE), switches.length);
        for (int k = 0; k < switches.length; k++) {
            due.is("P36 " + text + " " + k, x.said(k), switches[k]);
        }
        due.is("P36 beyond: " + text, x.said(switches.length), NONE);
    }

    private static void saidOfSwitches() {
        SistersBoard x = three();
        due.is("P36 no sentence", x.said(NONE), NONE);
        due.is("P36 no sentence", x.said(0), NONE);
        x.call(0, 1, 9, 0);
        x.call(2, 2, 9, 0);
        x.jam(2);
        // a: changed, one call, one turn; b: two calls; c: jammed, one call.
        saidIs(x, "changed", 0);
        saidIs(x, "jammed", 2);
        saidIs(x, "used", 0, 1, 2);
        saidIs(x, "by ada", 1);
        saidIs(x, "by bea", 2);
        saidIs(x, "on 0", 0, 2);
        saidIs(x, "on 2", 1);
        saidIs(x, "on 7");
        saidIs(x, "calls = 2", 1);
        saidIs(x, "calls<2", 0, 2);
        saidIs(x, "calls > 0", 0, 1, 2);
        saidIs(x, "turns>0", 0);
        saidIs(x, "turns=0", 1, 2);
        saidIs(x, "number<1", 0);
        saidIs(x, "number = 999");
        saidIs(x, "not changed", 1, 2);
        saidIs(x, "not not changed", 0);
        saidIs(x, "changed or jammed and on 2", 0);
        saidIs(x, "(changed or jammed) and on 0", 0, 2);
        saidIs(x, "not changed and jammed", 2);
        saidIs(x, "not(changed and jammed)", 0, 1, 2);
        saidIs(x, "number=1 or number=0 or number=2 and changed", 0, 1);
        due.is("P36 below", x.said(-2), NONE);
        Due.text(x, "used").sentence();
        x.hang(0);
        due.is("P36 by what is so now", x.said(NONE), 1);
        due.is("P36 by what is so now", x.said(0), 1);
        due.is("P36 undone", x.undo() + x.said(NONE), 6);
    }

    private static void images() {
        SistersBoard x = three();
        due.is("P38 nothing kept", x.restore(0), false);
        due.is("P37 no such place", x.image(2), false);
        due.is("P37 no such place", x.image(-1), false);
        x.call(0, 1, 9, 0);
        Due.text(x, "by ada").sentence();
        due.is("P37 kept", x.image(0), true);
        due.is("P38 nothing kept there", x.restore(1), false);
        x.call(2, 0, 9, 1);
        x.hours(3);
        x.slip(0);
        x.deaf();
        Due.text(x, FIVE).board();
        due.is("P37 another", x.image(1), true);
        due.is("P37 it can still be undone", x.jam(4) + x.undo(), 0);
        x.jam(4);
        Due.text(x, "left over");
        due.is("P38 as kept", x.restore(0), true);
        due.is("P38 wires", x.count(0), 3);
        due.is("P38 switches", x.count(1), 3);
        due.is("P38 sisters", x.count(2), 2);
        due.is("P38 hour", x.now(0), 0);
        due.is("P38 setting", x.now(1), 1);
        due.is("P38 jammed", x.now(2), 0);
        due.is("P38 calls", x.now(3), 1);
        due.is("P38 turned", x.now(7), 1);
        due.is("P38 sentence", x.said(0), 1);
        due.is("P38 the tape stays", x.count(4), 9);
        due.is("P38 the slip stays", x.byteAt(2), 't');
        due.is("P38 nothing can be undone", x.undo(), NONE);
        x.end(0);
        due.is("P38 names", bookOf(x, "jam b;", 1), NONE);
        due.is("P38 the other", x.restore(1), true);
        due.is("P38 no sentence there", x.said(NONE), NONE);
        due.is("P38 switches", x.count(1), 5);
        due.is("P38 names", bookOf(x, "jam b;", 1), -2 - 4);
        due.is("P38 again", x.restore(0), true);
        due.is("P38 the image was not touched", x.now(2), 0);
        due.is("P38 no such place", x.restore(2), false);
        due.is("P38 no such place", x.restore(-1), false);
        x.turn(1);
        x.hang(0);
        due.is("P38 a place that is not there leaves acts", x.restore(2), false);
        due.is("P38 acts", x.undo(), 0);
    }

    private static void counts() {
        SistersBoard x = Due.boardOf("wires 8;vow 9;switch a 0 7;switch b 3 4;sister c a;");
        int[] want = {8, 2, 1, 9, 0};
        for (int what = 0; what < 5; what++) {
            due.is("P39 count " + what, x.count(what), want[what]);
        }
        x.feed(0, 0, 0, 0, 0);
        due.is("P39 tape", x.count(4), 20);
        due.is("P39 another", x.count(5), NONE);
        due.is("P39 another", x.count(-1), NONE);
    }
}
