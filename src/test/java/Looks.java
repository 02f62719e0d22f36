import java.util.NoSuchElementException;
import java.util.function.IntUnaryOperator;

/** Twins: two boards that lived through the same; what changes nothing on one of them leaves them alike. */
final class Looks {
    interface Acts {
        void on(SistersBoard x);
    }

    interface Question {
        long of(SistersBoard x);
    }

    static final long THROWS = -7777;

    private Looks() {
    }

    /** A question whose exception is an answer too. */
    static long leverOf(SistersBoard x, int s, int what) {
        try {
            return x.lever(s, what);
        } catch (NoSuchElementException e) {
            return THROWS;
        }
    }

    /** All that can be asked without changing anything, as one text. */
    static String all(SistersBoard x) {
        StringBuilder b = new StringBuilder();
        ask(b, "count", 0, 4, x::count);
        ask(b, "now", 0, 7, x::now);
        ask(b, "told", 0, 3, x::told);
        ask(b, "said", -1, 9, x::said);
        ask(b, "hears", 0, 4, x::hears);
        ask(b, "byteAt", 0, 16, x::byteAt);
        for (int in = 0; in < x.count(0); in++) {
            int wire = in;
            ask(b, "line of " + in, 0, 2, what -> x.line(wire, what));
            ask(b, "way of " + in, 0, x.count(1), k -> x.way(wire, k));
            ask(b, "shifts of " + in, 0, x.count(0) - 1, out -> x.shifts(wire, out));
        }
        for (int s = 0; s < x.count(1); s++) {
            int lever = s;
            ask(b, "lever " + s, 0, 5, what -> x.lever(lever, what));
        }
        b.append("fault ").append(x.fault()).append(", setting ").append(x.setting()).append(", deafAt ")
            .append(x.deafAt()).append(", trial ").append(x.trial()).append(", orders ").append(x.orders());
        return b.toString();
    }

    private static void ask(StringBuilder b, String name, int first, int last, IntUnaryOperator question) {
        b.append(name);
        for (int i = first; i <= last; i++) {
            b.append(' ').append(question.applyAsInt(i));
        }
        b.append('\n');
    }

    /** How they look, and look when all that can be undone is undone, and what their tapes hold. */
    static void alike(Due due, String what, SistersBoard x, SistersBoard y) {
        same(due, what, all(x), all(y));
        for (int i = 0; i < 10; i++) {
            int more = x.undo();
            due.is(what + ", undo " + i, more, y.undo());
            same(due, what + ", behind undo " + i, all(x), all(y));
        }
        due.is(what + ", the tape as a board", x.board(), y.board());
        same(due, what + ", by the tape", all(x), all(y));
    }

    private static void same(Due due, String what, String got, String want) {
        if (!got.equals(want)) {
            String[] g = got.split("\n");
            String[] w = want.split("\n");
            for (int i = 0; i < Math.min(g.length, w.length); i++) {
                if (!g[i].equals(w[i])) {
                    System.out.println(what + ": looks like '" + g[i] + "', due is '" + w[i] + "'");
                }
            }
        }
        due.is(what + ", look", got.equals(want), true);
    }

    /** A question with the answer that is due, which leaves all as it was. */
    static void leaves(Due due, String what, Acts history, Question question, long answer) {
        SistersBoard x = new SistersBoard();
        SistersBoard y = new SistersBoard();
        history.on(x);
        history.on(y);
        due.is(what, question.of(x), answer);
        alike(due, what, x, y);
    }
}
