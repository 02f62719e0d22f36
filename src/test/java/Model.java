import java.util.ArrayDeque;
import java.util.ArrayList;
import java.util.Arrays;
import java.util.Deque;
import java.util.HashMap;
import java.util.HashSet;
import java.util.List;
import java.util.Map;
import java.util.NoSuchElementException;
import java.util.Set;
import java.util.function.IntPredicate;

/** The document once more, told as plainly as can be and by other means than the class: all settings are tried. */
final class Model {
    static final int NONE = -1;
    static final Set<String> RESERVED = Set.of("wires", "switch", "changed", "sister", "vow", "call", "strict",
        "shift", "end", "turn", "jam", "free", "hour", "or", "and", "not", "jammed", "used", "by", "on", "calls",
        "turns", "number");

    static final class Fault extends Exception {
        final int kind;
        final int place;

        Fault(int kind, int place) {
            this.kind = kind;
            this.place = place;
        }
    }

    record Lever(String name, int a, int b) { }

    record Sister(String name, int lever) { }

    record Token(String text, int place, char sort) { }

    static final class Plan {
        int wires = 4;
        int vow = 1;
        int first;
        int lines;
        final List<Lever> levers = new ArrayList<>();
        final List<Sister> sisters = new ArrayList<>();

        int lever(String name) {
            for (int i = 0; i < levers.size(); i++) {
                if (levers.get(i).name.equals(name)) {
                    return i;
                }
            }
            return NONE;
        }

        int sister(String name) {
            for (int i = 0; i < sisters.size(); i++) {
                if (sisters.get(i).name.equals(name)) {
                    return i;
                }
            }
            return NONE;
        }
    }

    static final class Call {
        final int out;
        final int left;
        final int shifted;

        Call(int out, int left, int shifted) {
            this.out = out;
            this.left = left;
            this.shifted = shifted;
        }
    }

    static final class Sit {
        int hour;
        int setting;
        int jammed;
        int calls;
        int shifts;
        Map<Integer, Call> up = new HashMap<>();
        int[] turned = new int[10];

        Sit copy() {
            Sit s = new Sit();
            s.hour = hour;
            s.setting = setting;
            s.jammed = jammed;
            s.calls = calls;
            s.shifts = shifts;
            s.up = new HashMap<>(up);
            s.turned = turned.clone();
            return s;
        }

        int ins() {
            return up.keySet().stream().mapToInt(i -> 1 << i).sum();
        }

        int outs() {
            return up.values().stream().mapToInt(c -> 1 << c.out).sum();
        }
    }

    interface Said {
        boolean of(int lever);
    }

    Plan plan = new Plan();
    Sit sit = new Sit();
    Said sentence;
    int[] tape = new int[0];
    Deque<Sit> past = new ArrayDeque<>();
    int fault;
    int least = NONE;
    int deafFirst = NONE;
    int tried = NONE;
    String slip = "";
    int[] told = {NONE, NONE, NONE, NONE};
    final Object[][] images = new Object[2][];

    // ---- texts

    List<Token> tokens = new ArrayList<>();
    int at;

    void scan(int most) {
        tokens = new ArrayList<>();
        at = 0;
        int i = 0;
        while (i < tape.length) {
            int c = tape[i];
            if (c == 32 || c == 10) {
                i++;
                continue;
            }
            if (i >= most) {
                break;
            }
            int j = i;
            StringBuilder run = new StringBuilder();
            while (j < tape.length && (tape[j] >= 'a' && tape[j] <= 'z' || tape[j] >= '0' && tape[j] <= '9')) {
                run.append((char) tape[j++]);
            }
            String text = run.toString();
            if (text.matches("[a-z]{1,7}")) {
                tokens.add(new Token(text, i, 'w'));
            } else if (text.matches("[0-9]{1,3}")) {
                tokens.add(new Token(text, i, 'n'));
            } else if (!text.isEmpty()) {
                tokens.add(new Token(text, i, '!'));
            } else {
                j++;
                tokens.add(new Token(String.valueOf((char) c), i, ";<=>()".indexOf(c) >= 0 ? 's' : '!'));
            }
            i = j;
        }
        if (tape.length > most) {
            tokens.add(new Token("over", most, '!'));
        } else {
            tokens.add(new Token("", tape.length, 'e'));
        }
    }

    Token peek() {
        return tokens.get(Math.min(at, tokens.size() - 1));
    }

    boolean ends() {
        return peek().sort == 'e';
    }

    boolean sees(String text) {
        return "ws".indexOf(peek().sort) >= 0 && peek().text.equals(text);
    }

    Token oneOf(String... texts) throws Fault {
        for (String t : texts) {
            if (sees(t)) {
                return tokens.get(at++);
            }
        }
        throw new Fault(1, peek().place);
    }

    int num(int low, int high) throws Fault {
        Token t = peek();
        if (t.sort != 'n') {
            throw new Fault(1, t.place);
        }
        int n = Integer.parseInt(t.text);
        if (n < low || n > high) {
            throw new Fault(2, t.place);
        }
        at++;
        return n;
    }

    Token name() throws Fault {
        Token t = peek();
        if (t.sort != 'w' || RESERVED.contains(t.text)) {
            throw new Fault(1, t.place);
        }
        at++;
        return t;
    }

    Plan readBoard() throws Fault {
        Plan p = new Plan();
        Set<String> once = new HashSet<>();
        while (!ends()) {
            Token line = oneOf("wires", "switch", "sister", "vow");
            boolean only = line.text.equals("wires") || line.text.equals("vow");
            if (only && !once.add(line.text) || line.text.equals("wires") && !p.levers.isEmpty()) {
                throw new Fault(3, line.place);
            }
            if (line.text.equals("switch") && p.levers.size() == 10
                || line.text.equals("sister") && p.sisters.size() == 5) {
                throw new Fault(4, line.place);
            }
            switch (line.text) {
                case "wires" -> p.wires = num(2, 8);
                case "vow" -> p.vow = num(0, 9);
                case "switch" -> {
                    Token n = newName(p);
                    int a = num(0, p.wires - 1);
                    int b = num(a + 1, p.wires - 1);
                    if (sees("changed")) {
                        at++;
                        p.first += 1 << p.levers.size();
                    }
                    p.levers.add(new Lever(n.text, a, b));
                }
                default -> {
                    Token n = newName(p);
                    p.sisters.add(new Sister(n.text, leverName(p)));
                }
            }
            oneOf(";");
            p.lines++;
        }
        return p;
    }

    Token newName(Plan p) throws Fault {
        Token n = name();
        if (p.lever(n.text) >= 0 || p.sister(n.text) >= 0) {
            throw new Fault(3, n.place);
        }
        return n;
    }

    int leverName(Plan p) throws Fault {
        Token n = name();
        if (p.lever(n.text) < 0) {
            throw new Fault(3, n.place);
        }
        return p.lever(n.text);
    }

    List<int[]> readBook() throws Fault {
        List<int[]> lines = new ArrayList<>();
        List<String> verbs = List.of("call", "end", "turn", "jam", "free", "hour");
        while (!ends()) {
            Token line = oneOf("call", "end", "turn", "jam", "free", "hour");
            if (lines.size() == 40) {
                throw new Fault(4, line.place);
            }
            int[] row = {verbs.indexOf(line.text), 0, 0, 0, 0};
            switch (line.text) {
                case "call" -> {
                    row[1] = num(0, 7);
                    row[2] = num(0, 7);
                    row[3] = num(1, 30);
                    row[4] = oneOf("strict", "shift").text.equals("shift") ? 1 : 0;
                }
                case "end" -> row[1] = num(0, 7);
                case "hour" -> row[1] = num(1, 60);
                default -> row[1] = leverName(plan);
            }
            oneOf(";");
            lines.add(row);
        }
        return lines;
    }

    int ones;

    Said readCond(int deep) throws Fault {
        Said left = readAll(deep);
        while (sees("or")) {
            at++;
            Said a = left;
            Said b = readAll(deep);
            left = s -> a.of(s) || b.of(s);
        }
        return left;
    }

    Said readAll(int deep) throws Fault {
        Said left = readOne(deep);
        while (sees("and")) {
            at++;
            Said a = left;
            Said b = readOne(deep);
            left = s -> a.of(s) && b.of(s);
        }
        return left;
    }

    Said readOne(int deep) throws Fault {
        Token t = oneOf("not", "(", "changed", "jammed", "used", "by", "on", "calls", "turns", "number");
        if (++ones > 20 || deep > 8) {
            throw new Fault(4, t.place);
        }
        switch (t.text) {
            case "not": {
                Said x = readOne(deep + 1);
                return s -> !x.of(s);
            }
            case "(": {
                Said x = readCond(deep + 1);
                oneOf(")");
                return x;
            }
            case "changed": return s -> (sit.setting >> s) % 2 == 1;
            case "jammed": return s -> (sit.jammed >> s) % 2 == 1;
            case "used": return s -> callsThrough(sit, s) != 0;
            case "by": {
                Token n = name();
                int sister = plan.sister(n.text);
                if (sister < 0) {
                    throw new Fault(3, n.place);
                }
                return s -> plan.sisters.get(sister).lever == s;
            }
            case "on": {
                int w = num(0, 7);
                return s -> plan.levers.get(s).a == w || plan.levers.get(s).b == w;
            }
            default: {
                String sign = oneOf("<", "=", ">").text;
                int n = num(0, 999);
                return s -> {
                    int v = t.text.equals("calls") ? Integer.bitCount(callsThrough(sit, s))
                        : t.text.equals("turns") ? sit.turned[s] : s;
                    return sign.equals("<") ? v < n : sign.equals("=") ? v == n : v > n;
                };
            }
        }
    }

    // ---- ways

    int[] wayOf(int setting, int in) {
        int n = plan.levers.size();
        int[] way = new int[n + 1];
        way[0] = in;
        for (int s = 0; s < n; s++) {
            Lever l = plan.levers.get(s);
            way[s + 1] = way[s];
            if ((setting >> s) % 2 == 1 && (way[s] == l.a || way[s] == l.b)) {
                way[s + 1] = l.a + l.b - way[s];
            }
        }
        return way;
    }

    int ends(int setting, int in) {
        return wayOf(setting, in)[plan.levers.size()];
    }

    boolean goesThrough(int setting, int in, int s) {
        int w = wayOf(setting, in)[s];
        return w == plan.levers.get(s).a || w == plan.levers.get(s).b;
    }

    int callsThrough(Sit t, int s) {
        int bits = 0;
        for (int in : t.up.keySet()) {
            if (goesThrough(t.setting, in, s)) {
                bits |= 1 << in;
            }
        }
        return bits;
    }

    List<Integer> settings(Sit t) {
        List<Integer> all = new ArrayList<>();
        for (int s = 0; s < 1 << plan.levers.size(); s++) {
            if ((s & t.jammed) == (t.setting & t.jammed)) {
                all.add(s);
            }
        }
        return all;
    }

    /** The best setting and how many calls are shifted by it, or null. */
    int[] best(Sit t, int in, int out, int how) {
        int[] best = null;
        for (int s : settings(t)) {
            if (ends(s, in) != out) {
                continue;
            }
            int moved = 0;
            boolean may = true;
            for (Map.Entry<Integer, Call> e : t.up.entrySet()) {
                boolean other = !Arrays.equals(wayOf(s, e.getKey()), wayOf(t.setting, e.getKey()));
                may &= ends(s, e.getKey()) == e.getValue().out;
                may &= !other || how == 1 && e.getValue().shifted < plan.vow;
                moved += other ? 1 : 0;
            }
            if (may && (best == null || moved < best[1])) {
                best = new int[] {s, moved};
            }
        }
        return best;
    }

    boolean wire(int w) {
        return w >= 0 && w < plan.wires;
    }

    boolean isLever(int s) {
        return s >= 0 && s < plan.levers.size();
    }

    // ---- acts on a situation: 0 or why not

    int doCall(Sit t, int in, int out, int n, int how) {
        if (!wire(in) || !wire(out)) {
            return 9;
        }
        if (t.up.containsKey(in) || t.up.values().stream().anyMatch(c -> c.out == out)) {
            return 1;
        }
        int[] best = best(t, in, out, how);
        if (best == null) {
            return 2;
        }
        for (int c : new ArrayList<>(t.up.keySet())) {
            if (!Arrays.equals(wayOf(best[0], c), wayOf(t.setting, c))) {
                Call old = t.up.get(c);
                t.up.put(c, new Call(old.out, old.left, old.shifted + 1));
                t.shifts++;
            }
        }
        for (int s = 0; s < 10; s++) {
            t.turned[s] += ((t.setting ^ best[0]) >> s) & 1;
        }
        t.setting = best[0];
        t.up.put(in, new Call(out, n, 0));
        t.calls++;
        return 0;
    }

    int act(Sit t, int[] row) {
        int bit = 1 << row[1];
        switch (row[0]) {
            case 0: return doCall(t, row[1], row[2], row[3], row[4]);
            case 1: return !wire(row[1]) ? 9 : t.up.remove(row[1]) == null ? 1 : 0;
            case 2: {
                if ((t.jammed & bit) != 0) {
                    return 1;
                }
                if (callsThrough(t, row[1]) != 0) {
                    return 2;
                }
                t.setting ^= bit;
                t.turned[row[1]]++;
                return 0;
            }
            case 3: {
                int why = (t.jammed & bit) != 0 ? 1 : 0;
                t.jammed |= bit;
                return why;
            }
            case 4: {
                int why = (t.jammed & bit) == 0 ? 1 : 0;
                t.jammed &= ~bit;
                return why;
            }
            default: {
                if (t.hour + row[1] > 400) {
                    return 1;
                }
                for (int i = 0; i < row[1]; i++) {
                    anHour(t);
                }
                return 0;
            }
        }
    }

    void anHour(Sit t) {
        Map<Integer, Call> next = new HashMap<>();
        t.up.forEach((in, c) -> {
            if (c.left > 1) {
                next.put(in, new Call(c.out, c.left - 1, c.shifted));
            }
        });
        t.up = next;
        t.hour++;
    }

    int doDrawn(Sit t, int n, int seed) {
        int[] x = {seed};
        int gone = 0;
        while (gone < n && t.hour < 400) {
            for (int k = 0; k < 2; k++) {
                int in = draw(x, plan.wires);
                int out = draw(x, plan.wires);
                int hours = draw(x, 6) + 1;
                doCall(t, in, out, hours, draw(x, 2));
            }
            anHour(t);
            gone++;
        }
        return gone;
    }

    static int draw(int[] x, int n) {
        x[0] = x[0] * 1103515245 + 12345;
        return (x[0] >>> 8) % n;
    }

    int tell(Sit next, int why) {
        if (why == 0) {
            lived(next);
        }
        return why;
    }

    void lived(Sit next) {
        past.push(sit);
        if (past.size() > 8) {
            past.removeLast();
        }
        sit = next;
    }

    int deafOf(Sit t, boolean note) {
        int many = 0;
        for (int in = 0; in < plan.wires; in++) {
            for (int out = 0; out < plan.wires; out++) {
                if (doCall(t.copy(), in, out, 1, 0) == 2) {
                    if (many++ == 0 && note) {
                        deafFirst = 8 * in + out;
                    }
                }
            }
        }
        return many;
    }

    // ---- the face

    int feed(int a, int b, int c, int d, int e) {
        if (tape.length + 20 > 940) {
            return NONE;
        }
        int[] five = {a, b, c, d, e};
        int from = tape.length;
        tape = Arrays.copyOf(tape, from + 20);
        for (int i = 0; i < 20; i++) {
            tape[from + i] = (five[i / 4] >>> (24 - 8 * (i % 4))) & 255;
        }
        return tape.length;
    }

    boolean end(int n) {
        if (n < 0 || n > tape.length) {
            return false;
        }
        tape = Arrays.copyOf(tape, n);
        return true;
    }

    int board() {
        try {
            scan(900);
            Plan p = readBoard();
            plan = p;
            sit = new Sit();
            sit.setting = p.first;
            sentence = null;
            past.clear();
            fault = 0;
            return p.lines;
        } catch (Fault f) {
            fault = f.kind;
            return -1 - f.place;
        } finally {
            tape = new int[0];
        }
    }

    int fault() {
        return fault;
    }

    int lever(int s, int what) {
        if (!isLever(s) || what < 0 || what > 5) {
            throw new NoSuchElementException();
        }
        int[] all = {plan.levers.get(s).a, plan.levers.get(s).b, (sit.setting >> s) & 1, (sit.jammed >> s) & 1,
            callsThrough(sit, s), sit.turned[s]};
        return all[what];
    }

    int line(int in, int what) {
        Call c = sit.up.get(in);
        return c == null || what < 0 || what > 2 ? NONE : what == 0 ? c.out : what == 1 ? c.left : c.shifted;
    }

    int out(int in) {
        return wire(in) ? ends(sit.setting, in) : NONE;
    }

    int way(int in, int k) {
        return wire(in) && k >= 0 && k <= plan.levers.size() ? wayOf(sit.setting, in)[k] : NONE;
    }

    int now(int what) {
        int[] all = {sit.hour, sit.setting, sit.jammed, sit.ins(), sit.outs(), sit.calls, sit.shifts,
            Arrays.stream(sit.turned).sum()};
        return what < 0 || what > 7 ? NONE : all[what];
    }

    int call(int in, int out, int n, int how) {
        if (!wire(in) || !wire(out) || n < 1 || n > 30 || how < 0 || how > 1) {
            return NONE;
        }
        Sit next = sit.copy();
        return tell(next, doCall(next, in, out, n, how));
    }

    int simple(int verb, int x, boolean good) {
        if (!good) {
            return NONE;
        }
        Sit next = sit.copy();
        return tell(next, act(next, new int[] {verb, x, 0, 0, 0}));
    }

    int hang(int in) {
        return simple(1, in, wire(in));
    }

    int turn(int s) {
        return simple(2, s, isLever(s));
    }

    int jam(int s) {
        return simple(3, s, isLever(s));
    }

    int free(int s) {
        return simple(4, s, isLever(s));
    }

    int hours(int n) {
        if (n < 1 || n > 60) {
            return NONE;
        }
        int gone = Math.min(n, 400 - sit.hour);
        Sit next = sit.copy();
        for (int i = 0; i < gone; i++) {
            anHour(next);
        }
        if (gone > 0) {
            lived(next);
        }
        return gone;
    }

    int undo() {
        if (past.isEmpty()) {
            return NONE;
        }
        sit = past.pop();
        return past.size();
    }

    int shifts(int in, int out) {
        if (!wire(in) || !wire(out) || doCall(sit.copy(), in, out, 1, 1) != 0) {
            return NONE;
        }
        return best(sit, in, out, 1)[1];
    }

    int sets() {
        int[] t = tape;
        tape = new int[0];
        if (t.length != plan.wires || Arrays.stream(t).anyMatch(b -> b != 255 && !wire(b))) {
            return NONE;
        }
        int many = 0;
        for (int s : settings(sit)) {
            boolean so = true;
            for (int in = 0; in < t.length; in++) {
                so &= t[in] == 255 || ends(s, in) == t[in];
            }
            if (so && many++ == 0) {
                least = s;
            }
        }
        return many;
    }

    int setting() {
        return least;
    }

    int orders() {
        Set<List<Integer>> all = new HashSet<>();
        for (int s : settings(sit)) {
            List<Integer> order = new ArrayList<>();
            for (int in = 0; in < plan.wires; in++) {
                order.add(ends(s, in));
            }
            all.add(order);
        }
        return all.size();
    }

    int deaf() {
        return deafOf(sit, true);
    }

    int deafAt() {
        return deafFirst;
    }

    int key() {
        int key = NONE;
        int most = -1;
        for (int s = 0; s < plan.levers.size(); s++) {
            Sit t = sit.copy();
            t.jammed |= 1 << s;
            int deaf = deafOf(t, false);
            if (deaf > most) {
                most = deaf;
                key = s;
            }
        }
        return key;
    }

    int faulty() {
        int[] t = tape;
        tape = new int[0];
        if (t.length < 2 || t.length > 16 || t.length % 2 == 1 || Arrays.stream(t).anyMatch(b -> !wire(b))) {
            return NONE;
        }
        Map<Integer, Integer> left = new HashMap<>();
        for (int f = 0; f <= 10; f++) {
            int setting = f == 10 ? sit.setting : sit.setting ^ (1 << f);
            boolean so = f == 10 || f < plan.levers.size();
            for (int i = 0; so && i < t.length; i += 2) {
                so = ends(setting, t[i]) == t[i + 1];
            }
            if (so) {
                left.put(f, setting);
            }
        }
        if (!left.isEmpty()) {
            int least = 99;
            for (int in = 0; in < plan.wires; in++) {
                Map<Integer, Integer> groups = new HashMap<>();
                for (int setting : left.values()) {
                    groups.merge(ends(setting, in), 1, Integer::sum);
                }
                int most = groups.values().stream().mapToInt(i -> i).max().getAsInt();
                if (most < least) {
                    least = most;
                    tried = in;
                }
            }
        }
        return left.keySet().stream().mapToInt(f -> 1 << f).sum();
    }

    int trial() {
        return tried;
    }

    int hears(int s) {
        return s < 0 || s >= plan.sisters.size() ? NONE : callsThrough(sit, plan.sisters.get(s).lever);
    }

    int share(int a, int b) {
        if (!wire(a) || !wire(b)) {
            return NONE;
        }
        int bits = 0;
        for (int s = 0; s < plan.levers.size(); s++) {
            if (goesThrough(sit.setting, a, s) && goesThrough(sit.setting, b, s)) {
                bits |= 1 << s;
            }
        }
        return bits;
    }

    int slip(int in) {
        if (!wire(in)) {
            return NONE;
        }
        Call c = sit.up.get(in);
        slip = c == null ? in + " goes to " + out(in) : in + " to " + c.out + " for " + c.left;
        return slip.length();
    }

    int byteAt(int i) {
        return i < 0 || i >= slip.length() ? NONE : slip.charAt(i);
    }

    int drawn(int n, int seed) {
        if (n < 1 || n > 60) {
            return NONE;
        }
        Sit next = sit.copy();
        int gone = doDrawn(next, n, seed);
        if (gone > 0) {
            lived(next);
        }
        return gone;
    }

    int odds(int in, int n, int seed) {
        if (!wire(in) || n < 1 || n > 20) {
            return NONE;
        }
        IntPredicate on = k -> {
            Sit t = sit.copy();
            doDrawn(t, 12, seed + k);
            return t.up.containsKey(in);
        };
        int many = 0;
        for (int k = 0; k < n; k++) {
            many += on.test(k) ? 1 : 0;
        }
        return many;
    }

    int book(int lives) {
        if (lives < 0 || lives > 1) {
            return -1000;
        }
        try {
            scan(400);
            List<int[]> lines = readBook();
            fault = 0;
            Sit t = sit.copy();
            int done = 0;
            int why = 0;
            while (done < lines.size() && why == 0) {
                int reason = act(t, lines.get(done));
                why = reason == 0 ? 0 : 10 * lines.get(done)[0] + reason;
                done += reason == 0 ? 1 : 0;
            }
            told = new int[] {why, done, t.hour, t.ins()};
            if (lives == 1 && done > 0) {
                lived(t);
            }
            return why == 0 ? NONE : done;
        } catch (Fault f) {
            fault = f.kind;
            return -2 - f.place;
        } finally {
            tape = new int[0];
        }
    }

    int told(int what) {
        return what < 0 || what > 3 ? NONE : told[what];
    }

    int sentence() {
        try {
            scan(200);
            ones = 0;
            Said s = readCond(1);
            if (!ends()) {
                throw new Fault(1, peek().place);
            }
            sentence = s;
            fault = 0;
            return ones;
        } catch (Fault f) {
            fault = f.kind;
            return -1 - f.place;
        } finally {
            tape = new int[0];
        }
    }

    int said(int k) {
        if (sentence == null) {
            return NONE;
        }
        List<Integer> all = new ArrayList<>();
        for (int s = 0; s < plan.levers.size(); s++) {
            if (sentence.of(s)) {
                all.add(s);
            }
        }
        return k == NONE ? all.size() : k >= 0 && k < all.size() ? all.get(k) : NONE;
    }

    boolean image(int k) {
        if (k < 0 || k > 1) {
            return false;
        }
        images[k] = new Object[] {plan, sit.copy(), sentence};
        return true;
    }

    boolean restore(int k) {
        if (k < 0 || k > 1 || images[k] == null) {
            return false;
        }
        plan = (Plan) images[k][0];
        sit = ((Sit) images[k][1]).copy();
        sentence = (Said) images[k][2];
        past.clear();
        return true;
    }

    int count(int what) {
        int[] all = {plan.wires, plan.levers.size(), plan.sisters.size(), plan.vow, tape.length};
        return what < 0 || what > 4 ? NONE : all[what];
    }
}
