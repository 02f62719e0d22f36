import java.util.Arrays;
import java.util.NoSuchElementException;

/** Two by two through the sisters' board: see DOC.md for what each call promises. */
public final class SistersBoard {
    public static final int NONE = -1;

    private static final int MOST_WIRES = 8;
    private static final int MOST_SWITCHES = 10;
    private static final int MOST_SISTERS = 5;
    private static final int MOST_HOURS_OF_CALL = 30;
    private static final int MOST_HOURS_AT_ONCE = 60;
    private static final int LAST_HOUR = 400;
    private static final int MOST_UNDONE = 8;
    private static final int PLACES = 2;

    private static final int MOST_BYTES_OF_TAPE = 940;
    private static final int MOST_BYTES_OF_BOARD = 900;
    private static final int MOST_BYTES_OF_BOOK = 400;
    private static final int MOST_BYTES_OF_SENTENCE = 200;
    private static final int MOST_LINES_OF_BOOK = 40;
    private static final int MOST_ONES = 20;
    private static final int MOST_WITHIN = 8;

    // Kinds of tokens; a sign's kind is its own byte, which is above all of these.
    private static final int AT_END = 0;
    private static final int NO_TOKEN = 1;
    private static final int WORD = 2;
    private static final int NUMBER = 3;

    private static final int FAULT_TOKEN = 1;
    private static final int FAULT_NUMBER = 2;
    private static final int FAULT_NAME = 3;
    private static final int FAULT_MORE = 4;

    // What can be done to a board; a book tells ten times this and why not.
    private static final int CALLING = 0;
    private static final int ENDING = 1;
    private static final int TURNING = 2;
    private static final int JAMMING = 3;
    private static final int FREEING = 4;
    private static final int PASSING = 5;
    private static final int NO_SUCH_WIRE = 9;

    private static final int ANYWHERE = 255;
    private static final int NO_FAULT = 10;
    private static final int MOST_PAIRS = 8;
    private static final int MOST_SEEDS = 20;
    private static final int HOURS_OF_ODDS = 12;
    private static final int CALLS_DRAWN_AN_HOUR = 2;
    private static final int LONGEST_CALL_DRAWN = 6;
    private static final int OTHER_LIVES = -1000;

    private static final String TO = " to ";
    private static final String FOR = " for ";
    private static final String GOES_TO = " goes to ";
    private static final int LONGEST_SLIP = 16;

    private final Tape tape;
    private final Plan plan;
    private final State state;
    private final Sentence sentence;
    private final Past past;
    private final Desk desk;
    private final Survey survey;
    private final Book book;
    private final Plan planDraft;
    private final State stateDraft;
    private final Sentence sentenceDraft;
    private final Image[] images;
    private final int[] slip;
    private final int[] toldOfBook;
    private int slipLength;
    private int leastSetting;
    private int firstDeaf;
    private int wireToTry;

    public SistersBoard() {
        tape = new Tape();
        plan = new Plan();
        state = new State();
        sentence = new Sentence();
        past = new Past();
        desk = new Desk(plan);
        survey = new Survey(plan, desk);
        book = new Book();
        planDraft = new Plan();
        stateDraft = new State();
        sentenceDraft = new Sentence();
        images = new Image[PLACES];
        for (int k = 0; k < PLACES; k++) {
            images[k] = new Image();
        }
        slip = new int[LONGEST_SLIP];
        toldOfBook = new int[4];
        Arrays.fill(toldOfBook, NONE);
        leastSetting = NONE;
        firstDeaf = NONE;
        wireToTry = NONE;
        plan.clear();
        state.begin(plan);
    }

    public int feed(int a, int b, int c, int d, int e) {
        if (tape.length + 20 > MOST_BYTES_OF_TAPE) {
            return NONE;
        }
        tape.append(a);
        tape.append(b);
        tape.append(c);
        tape.append(d);
        tape.append(e);
        return tape.length;
    }

    public boolean end(int n) {
        if (n < 0 || n > tape.length) {
            return false;
        }
        tape.length = n;
        return true;
    }

    public int board() {
        boolean good = planDraft.read(tape);
        tape.length = 0;
        if (!good) {
            return -1 - tape.faultPlace;
        }
        plan.copyFrom(planDraft);
        state.begin(plan);
        sentence.clear();
        past.size = 0;
        return plan.lines;
    }

    public int fault() {
        return tape.faultKind;
    }

    public int lever(int s, int what) throws NoSuchElementException {
        if (!isSwitch(s) || what < 0 || what > 5) {
            throw new NoSuchElementException("no such switch or question");
        }
        switch (what) {
            case 0: return plan.low[s];
            case 1: return plan.high[s];
            case 2: return (state.setting >> s) & 1;
            case 3: return (state.jammed >> s) & 1;
            case 4: return desk.callsThrough(state, s);
            default: return state.turned[s];
        }
    }

    public int line(int in, int what) {
        if (!isWire(in) || !state.isUp(in)) {
            return NONE;
        }
        switch (what) {
            case 0: return state.outs[in];
            case 1: return state.left[in];
            case 2: return state.shifted[in];
            default: return NONE;
        }
    }

    public int out(int in) {
        return isWire(in) ? desk.endOf(state.setting, in) : NONE;
    }

    public int way(int in, int k) {
        if (!isWire(in) || k < 0 || k > plan.switches) {
            return NONE;
        }
        return desk.wireBehind(state.setting, in, k);
    }

    public int now(int what) {
        switch (what) {
            case 0: return state.hour;
            case 1: return state.setting;
            case 2: return state.jammed;
            case 3: return state.wiresUp();
            case 4: return state.wiresReached();
            case 5: return state.callsSoFar;
            case 6: return state.shiftsSoFar;
            case 7: return state.turnsSoFar;
            default: return NONE;
        }
    }

    public int call(int in, int out, int n, int how) {
        boolean told = isWire(in) && isWire(out) && n >= 1 && n <= MOST_HOURS_OF_CALL && (how == 0 || how == 1);
        return told ? act(CALLING, in, out, n, how) : NONE;
    }

    public int hang(int in) {
        return isWire(in) ? act(ENDING, in, 0, 0, 0) : NONE;
    }

    public int turn(int s) {
        return isSwitch(s) ? act(TURNING, s, 0, 0, 0) : NONE;
    }

    public int jam(int s) {
        return isSwitch(s) ? act(JAMMING, s, 0, 0, 0) : NONE;
    }

    public int free(int s) {
        return isSwitch(s) ? act(FREEING, s, 0, 0, 0) : NONE;
    }

    public int hours(int n) {
        if (n < 1 || n > MOST_HOURS_AT_ONCE) {
            return NONE;
        }
        int gone = Math.min(n, state.hoursLeft());
        if (gone > 0) {
            act(PASSING, 0, 0, gone, 0);
        }
        return gone;
    }

    public int undo() {
        return past.takeBack(state) ? past.size : NONE;
    }

    public int shifts(int in, int out) {
        if (!isWire(in) || !isWire(out) || state.isBusy(in, out)) {
            return NONE;
        }
        return desk.seek(state, in, out, true) ? desk.moved : NONE;
    }

    public int sets() {
        int many = survey.countSets(state, tape);
        tape.length = 0;
        if (many > 0) {
            leastSetting = survey.first;
        }
        return many;
    }

    public int setting() {
        return leastSetting;
    }

    public int orders() {
        return survey.countOrders(state);
    }

    public int deaf() {
        int many = survey.countDeaf(state, survey.reach(state));
        if (many > 0) {
            firstDeaf = survey.first;
        }
        return many;
    }

    public int deafAt() {
        return firstDeaf;
    }

    public int key() {
        return survey.keySwitch(state);
    }

    public int faulty() {
        int suspects = survey.suspects(state, tape);
        tape.length = 0;
        if (suspects > 0) {
            wireToTry = survey.bestTrial(state, suspects);
        }
        return suspects;
    }

    public int trial() {
        return wireToTry;
    }

    public int hears(int s) {
        if (s < 0 || s >= plan.sisters) {
            return NONE;
        }
        return desk.callsThrough(state, plan.seats[s]);
    }

    public int share(int a, int b) {
        if (!isWire(a) || !isWire(b)) {
            return NONE;
        }
        return desk.switchesOf(state.setting, a) & desk.switchesOf(state.setting, b);
    }

    public int slip(int in) {
        if (!isWire(in)) {
            return NONE;
        }
        slipLength = 0;
        slipDigit(in);
        if (state.isUp(in)) {
            slipText(TO);
            slipDigit(state.outs[in]);
            slipText(FOR);
            if (state.left[in] >= 10) {
                slipDigit(state.left[in] / 10);
            }
            slipDigit(state.left[in] % 10);
        } else {
            slipText(GOES_TO);
            slipDigit(desk.endOf(state.setting, in));
        }
        return slipLength;
    }

    public int byteAt(int i) {
        return i >= 0 && i < slipLength ? slip[i] : NONE;
    }

    public int drawn(int n, int seed) {
        if (n < 1 || n > MOST_HOURS_AT_ONCE) {
            return NONE;
        }
        stateDraft.copyFrom(state);
        int gone = desk.passDrawn(stateDraft, n, seed);
        if (gone > 0) {
            settle();
        }
        return gone;
    }

    public int odds(int in, int n, int seed) {
        if (!isWire(in) || n < 1 || n > MOST_SEEDS) {
            return NONE;
        }
        int many = 0;
        for (int i = 0; i < n; i++) {
            stateDraft.copyFrom(state);
            desk.passDrawn(stateDraft, HOURS_OF_ODDS, seed + i);
            if (stateDraft.isUp(in)) {
                many++;
            }
        }
        return many;
    }

    public int book(int lives) {
        if (lives != 0 && lives != 1) {
            return OTHER_LIVES;
        }
        boolean good = book.read(tape, plan);
        tape.length = 0;
        if (!good) {
            return -2 - tape.faultPlace;
        }
        stateDraft.copyFrom(state);
        int why = desk.live(stateDraft, book);
        toldOfBook[0] = why;
        toldOfBook[1] = book.lived;
        toldOfBook[2] = stateDraft.hour;
        toldOfBook[3] = stateDraft.wiresUp();
        if (lives == 1 && book.lived > 0) {
            settle();
        }
        return why == 0 ? NONE : book.lived;
    }

    public int told(int what) {
        return what >= 0 && what < toldOfBook.length ? toldOfBook[what] : NONE;
    }

    public int sentence() {
        boolean good = sentenceDraft.read(tape, plan);
        tape.length = 0;
        if (!good) {
            return -1 - tape.faultPlace;
        }
        sentence.copyFrom(sentenceDraft);
        return sentence.ones;
    }

    public int said(int k) {
        if (sentence.ones == 0 || k < NONE) {
            return NONE;
        }
        int which = sentence.switchesSaid(plan, state, desk);
        if (k == NONE) {
            return Integer.bitCount(which);
        }
        int seen = 0;
        for (int s = 0; s < plan.switches; s++) {
            if (((which >> s) & 1) != 0) {
                if (seen == k) {
                    return s;
                }
                seen++;
            }
        }
        return NONE;
    }

    public boolean image(int k) {
        if (k < 0 || k >= PLACES) {
            return false;
        }
        images[k].plan.copyFrom(plan);
        images[k].state.copyFrom(state);
        images[k].sentence.copyFrom(sentence);
        images[k].kept = true;
        return true;
    }

    public boolean restore(int k) {
        if (k < 0 || k >= PLACES || !images[k].kept) {
            return false;
        }
        plan.copyFrom(images[k].plan);
        state.copyFrom(images[k].state);
        sentence.copyFrom(images[k].sentence);
        past.size = 0;
        return true;
    }

    public int count(int what) {
        switch (what) {
            case 0: return plan.wires;
            case 1: return plan.switches;
            case 2: return plan.sisters;
            case 3: return plan.vow;
            case 4: return tape.length;
            default: return NONE;
        }
    }

    private boolean isWire(int w) {
        return w >= 0 && w < plan.wires;
    }

    private boolean isSwitch(int s) {
        return s >= 0 && s < plan.switches;
    }

    private int act(int verb, int x, int y, int n, int how) {
        stateDraft.copyFrom(state);
        int why = desk.perform(stateDraft, verb, x, y, n, how);
        if (why == 0) {
            settle();
        }
        return why;
    }

    /** The draft becomes what is so; what was so can come back by undo. */
    private void settle() {
        past.keep(state);
        state.copyFrom(stateDraft);
    }

    private void slipDigit(int digit) {
        slipByte('0' + digit);
    }

    private void slipText(String text) {
        for (int i = 0; i < text.length(); i++) {
            slipByte(text.charAt(i));
        }
    }

    private void slipByte(int b) {
        if (slipLength < slip.length) {
            slip[slipLength] = b;
            slipLength++;
        }
    }

    /** All words that the texts themselves use: none of them can be a name. */
    private enum Word {
        WIRES("wires"), SWITCH("switch"), CHANGED("changed"), SISTER("sister"), VOW("vow"),
        CALL("call"), STRICT("strict"), SHIFT("shift"), END("end"), TURN("turn"), JAM("jam"),
        FREE("free"), HOUR("hour"),
        OR("or"), AND("and"), NOT("not"), JAMMED("jammed"), USED("used"), BY("by"), ON("on"),
        CALLS("calls"), TURNS("turns"), NUMBER("number");

        private static final Word[] ALL = values();

        final long letters;

        Word(String text) {
            long all = 0;
            for (int i = 0; i < text.length(); i++) {
                all = withLetter(all, text.charAt(i));
            }
            letters = all;
        }

        /** Seven letters at most stand in a long, five bits each, so that names need no texts. */
        static long withLetter(long letters, int c) {
            return letters * 32 + (c - 'a' + 1);
        }

        static Word spelt(long letters) {
            for (int i = 0; i < ALL.length; i++) {
                if (ALL[i].letters == letters) {
                    return ALL[i];
                }
            }
            return null;
        }
    }

    /** The bytes that were fed, and the tokens read along them one by one up to a fault. */
    private static final class Tape {
        final int[] bytes = new int[MOST_BYTES_OF_TAPE];
        int length;
        int faultKind;
        int faultPlace;
        private int limit;
        private int at;
        private int place;
        int kind;
        int number;
        long letters;
        Word word;

        void append(int four) {
            for (int shift = 24; shift >= 0 && length < bytes.length; shift -= 8) {
                bytes[length] = (four >>> shift) & 255;
                length++;
            }
        }

        void open(int mostBytes) {
            limit = mostBytes;
            at = 0;
            faultKind = 0;
            faultPlace = 0;
            step();
        }

        void step() {
            while (at < length && (bytes[at] == 32 || bytes[at] == 10)) {
                at++;
            }
            place = at;
            word = null;
            if (length > limit && at >= limit) {
                place = limit;
                kind = NO_TOKEN;
            } else if (at >= length) {
                kind = AT_END;
            } else if (isLetter(bytes[at]) || isDigit(bytes[at])) {
                readRun();
            } else {
                kind = isSign(bytes[at]) ? bytes[at] : NO_TOKEN;
                at++;
            }
        }

        private void readRun() {
            letters = 0;
            number = 0;
            int manyLetters = 0;
            int manyDigits = 0;
            while (at < length && (isLetter(bytes[at]) || isDigit(bytes[at]))) {
                if (isLetter(bytes[at])) {
                    letters = Word.withLetter(letters, bytes[at]);
                    manyLetters++;
                } else {
                    number = number * 10 + (bytes[at] - '0');
                    manyDigits++;
                }
                at++;
            }
            if (manyDigits == 0 && manyLetters <= 7) {
                kind = WORD;
                word = Word.spelt(letters);
            } else if (manyLetters == 0 && manyDigits <= 3) {
                kind = NUMBER;
            } else {
                kind = NO_TOKEN;
            }
        }

        private static boolean isLetter(int c) {
            return c >= 'a' && c <= 'z';
        }

        private static boolean isDigit(int c) {
            return c >= '0' && c <= '9';
        }

        private static boolean isSign(int c) {
            return c == ';' || c == '<' || c == '=' || c == '>' || c == '(' || c == ')';
        }

        /** A fault at the token at hand; the readers stop at the first, so it is the first along the text. */
        boolean fail(int faultOf) {
            faultKind = faultOf;
            faultPlace = place;
            return false;
        }

        boolean isAt(Word w) {
            return kind == WORD && word == w;
        }

        boolean isAtName() {
            return kind == WORD && word == null;
        }

        boolean takeSign(int sign) {
            if (kind != sign) {
                return fail(FAULT_TOKEN);
            }
            step();
            return true;
        }

        /** Whether the number at hand is as told; the reader takes it from the field and steps on. */
        boolean isNumber(int least, int most) {
            if (kind != NUMBER) {
                return fail(FAULT_TOKEN);
            }
            return number >= least && number <= most || fail(FAULT_NUMBER);
        }
    }

    /** What a board's text tells: it stays while hours go by. */
    private static final class Plan {
        final int[] low = new int[MOST_SWITCHES];
        final int[] high = new int[MOST_SWITCHES];
        final long[] switchNames = new long[MOST_SWITCHES];
        final long[] sisterNames = new long[MOST_SISTERS];
        final int[] seats = new int[MOST_SISTERS];
        int wires;
        int switches;
        int sisters;
        int vow;
        int firstSetting;
        int lines;
        private boolean wiresTold;
        private boolean vowTold;

        void clear() {
            wires = 4;
            switches = 0;
            sisters = 0;
            vow = 1;
            firstSetting = 0;
            lines = 0;
            wiresTold = false;
            vowTold = false;
        }

        void copyFrom(Plan other) {
            System.arraycopy(other.low, 0, low, 0, MOST_SWITCHES);
            System.arraycopy(other.high, 0, high, 0, MOST_SWITCHES);
            System.arraycopy(other.switchNames, 0, switchNames, 0, MOST_SWITCHES);
            System.arraycopy(other.sisterNames, 0, sisterNames, 0, MOST_SISTERS);
            System.arraycopy(other.seats, 0, seats, 0, MOST_SISTERS);
            wires = other.wires;
            switches = other.switches;
            sisters = other.sisters;
            vow = other.vow;
            firstSetting = other.firstSetting;
            lines = other.lines;
        }

        int switchNamed(long name) {
            return indexOf(switchNames, switches, name);
        }

        int sisterNamed(long name) {
            return indexOf(sisterNames, sisters, name);
        }

        private static int indexOf(long[] names, int many, long name) {
            for (int i = 0; i < many && i < names.length; i++) {
                if (names[i] == name) {
                    return i;
                }
            }
            return NONE;
        }

        boolean read(Tape t) {
            clear();
            t.open(MOST_BYTES_OF_BOARD);
            for (int i = 0; i < MOST_BYTES_OF_TAPE && t.kind != AT_END; i++) {
                if (!readLine(t) || !t.takeSign(';')) {
                    return false;
                }
                lines++;
            }
            return true;
        }

        private boolean readLine(Tape t) {
            if (t.isAt(Word.WIRES)) {
                return readWires(t);
            }
            if (t.isAt(Word.SWITCH)) {
                return readSwitch(t);
            }
            if (t.isAt(Word.SISTER)) {
                return readSister(t);
            }
            if (t.isAt(Word.VOW)) {
                return readVow(t);
            }
            return t.fail(FAULT_TOKEN);
        }

        private boolean readWires(Tape t) {
            if (wiresTold || switches > 0) {
                return t.fail(FAULT_NAME);
            }
            t.step();
            if (!t.isNumber(2, MOST_WIRES)) {
                return false;
            }
            wires = t.number;
            wiresTold = true;
            t.step();
            return true;
        }

        private boolean readVow(Tape t) {
            if (vowTold) {
                return t.fail(FAULT_NAME);
            }
            t.step();
            if (!t.isNumber(0, 9)) {
                return false;
            }
            vow = t.number;
            vowTold = true;
            t.step();
            return true;
        }

        private boolean readSwitch(Tape t) {
            if (switches >= MOST_SWITCHES) {
                return t.fail(FAULT_MORE);
            }
            t.step();
            if (!isNewName(t)) {
                return false;
            }
            switchNames[switches] = t.letters;
            t.step();
            if (!t.isNumber(0, wires - 1)) {
                return false;
            }
            low[switches] = t.number;
            t.step();
            if (!t.isNumber(low[switches] + 1, wires - 1)) {
                return false;
            }
            high[switches] = t.number;
            t.step();
            if (t.isAt(Word.CHANGED)) {
                firstSetting |= 1 << switches;
                t.step();
            }
            switches++;
            return true;
        }

        private boolean readSister(Tape t) {
            if (sisters >= MOST_SISTERS) {
                return t.fail(FAULT_MORE);
            }
            t.step();
            if (!isNewName(t)) {
                return false;
            }
            sisterNames[sisters] = t.letters;
            t.step();
            if (!isSwitchName(t)) {
                return false;
            }
            seats[sisters] = switchNamed(t.letters);
            sisters++;
            t.step();
            return true;
        }

        private boolean isNewName(Tape t) {
            if (!t.isAtName()) {
                return t.fail(FAULT_TOKEN);
            }
            boolean known = switchNamed(t.letters) != NONE || sisterNamed(t.letters) != NONE;
            return !known || t.fail(FAULT_NAME);
        }

        boolean isSwitchName(Tape t) {
            if (!t.isAtName()) {
                return t.fail(FAULT_TOKEN);
            }
            return switchNamed(t.letters) != NONE || t.fail(FAULT_NAME);
        }

        boolean isSisterName(Tape t) {
            if (!t.isAtName()) {
                return t.fail(FAULT_TOKEN);
            }
            return sisterNamed(t.letters) != NONE || t.fail(FAULT_NAME);
        }
    }

    /** What is so at an hour; by IN of each call, and by switch. */
    private static final class State {
        final int[] outs = new int[MOST_WIRES];
        final int[] left = new int[MOST_WIRES];
        final int[] shifted = new int[MOST_WIRES];
        final int[] turned = new int[MOST_SWITCHES];
        int hour;
        int setting;
        int jammed;
        int callsSoFar;
        int shiftsSoFar;
        int turnsSoFar;

        void begin(Plan plan) {
            Arrays.fill(outs, NONE);
            Arrays.fill(left, 0);
            Arrays.fill(shifted, 0);
            Arrays.fill(turned, 0);
            hour = 0;
            setting = plan.firstSetting;
            jammed = 0;
            callsSoFar = 0;
            shiftsSoFar = 0;
            turnsSoFar = 0;
        }

        void copyFrom(State other) {
            System.arraycopy(other.outs, 0, outs, 0, MOST_WIRES);
            System.arraycopy(other.left, 0, left, 0, MOST_WIRES);
            System.arraycopy(other.shifted, 0, shifted, 0, MOST_WIRES);
            System.arraycopy(other.turned, 0, turned, 0, MOST_SWITCHES);
            hour = other.hour;
            setting = other.setting;
            jammed = other.jammed;
            callsSoFar = other.callsSoFar;
            shiftsSoFar = other.shiftsSoFar;
            turnsSoFar = other.turnsSoFar;
        }

        boolean isUp(int in) {
            return outs[in] != NONE;
        }

        boolean isBusy(int in, int out) {
            return isUp(in) || ((wiresReached() >> out) & 1) != 0;
        }

        int wiresUp() {
            int bits = 0;
            for (int in = 0; in < MOST_WIRES; in++) {
                if (isUp(in)) {
                    bits |= 1 << in;
                }
            }
            return bits;
        }

        int wiresReached() {
            int bits = 0;
            for (int in = 0; in < MOST_WIRES; in++) {
                if (isUp(in)) {
                    bits |= 1 << outs[in];
                }
            }
            return bits;
        }

        int hoursLeft() {
            return LAST_HOUR - hour;
        }

        void passHour() {
            for (int in = 0; in < MOST_WIRES; in++) {
                if (isUp(in)) {
                    left[in]--;
                    if (left[in] <= 0) {
                        outs[in] = NONE;
                    }
                }
            }
            hour++;
        }

        /** Sets the switches so; each that was set otherwise has been turned once more. */
        void setTo(int next) {
            for (int s = 0; s < MOST_SWITCHES; s++) {
                if ((((setting ^ next) >> s) & 1) != 0) {
                    turned[s]++;
                    turnsSoFar++;
                }
            }
            setting = next;
        }
    }

    /** The states ahead of the latest acts, in a ring. */
    private static final class Past {
        private final State[] kept = new State[MOST_UNDONE];
        private int next;
        int size;

        Past() {
            for (int i = 0; i < MOST_UNDONE; i++) {
                kept[i] = new State();
            }
        }

        void keep(State s) {
            kept[next].copyFrom(s);
            next = (next + 1) % MOST_UNDONE;
            size = Math.min(size + 1, MOST_UNDONE);
        }

        boolean takeBack(State s) {
            if (size == 0) {
                return false;
            }
            next = (next + MOST_UNDONE - 1) % MOST_UNDONE;
            size--;
            s.copyFrom(kept[next]);
            return true;
        }
    }

    /** All settings that leave some switches as they are, the least number first. */
    private static final class Sweep {
        private static final int STRAIGHT = 0x76543210;

        private final Plan plan;
        // tails[k] has four bits a wire: where comes out what is on it ahead of switch k. High bits of a
        // setting are the last switches, so that counting up leaves most tails as they were.
        private final int[] tails = new int[MOST_SWITCHES + 1];
        private int fixed;
        private int loose;
        int setting;

        Sweep(Plan plan) {
            this.plan = plan;
        }

        /** Goes to the first setting; answers how many there are. */
        int start(int from, int fixedSwitches) {
            int all = (1 << plan.switches) - 1;
            loose = all & ~fixedSwitches;
            fixed = from & all & fixedSwitches;
            setting = fixed;
            tails[plan.switches] = STRAIGHT;
            layTails(plan.switches - 1);
            return 1 << Integer.bitCount(loose);
        }

        void advance() {
            int next = (((setting | ~loose) + 1) & loose) | fixed;
            int changed = next ^ setting;
            setting = next;
            int top = 0;
            for (int s = 1; s < plan.switches && (changed >> s) != 0; s++) {
                top = s;
            }
            layTails(top);
        }

        private void layTails(int top) {
            for (int s = Math.min(top, plan.switches - 1); s >= 0; s--) {
                int ends = tails[s + 1];
                if (((setting >> s) & 1) != 0) {
                    int unlike = ((ends >>> (4 * plan.low[s])) ^ (ends >>> (4 * plan.high[s]))) & 15;
                    ends ^= (unlike << (4 * plan.low[s])) | (unlike << (4 * plan.high[s]));
                }
                tails[s] = ends;
            }
        }

        /** Four bits a wire: where it comes out by this setting. */
        int ends() {
            return tails[0];
        }
    }

    /** The acts on a state, and the ways through the board. */
    private static final class Desk {
        private final Plan plan;
        final Sweep sweep;
        private final int[] passed = new int[MOST_WIRES];
        private int seed;
        private int found;
        int moved;

        Desk(Plan plan) {
            this.plan = plan;
            this.sweep = new Sweep(plan);
        }

        int wireBehind(int setting, int in, int k) {
            int wire = in;
            for (int s = 0; s < k && s < plan.switches; s++) {
                if (((setting >> s) & 1) != 0) {
                    wire = otherWire(s, wire);
                }
            }
            return wire;
        }

        private int otherWire(int s, int wire) {
            if (wire == plan.low[s]) {
                return plan.high[s];
            }
            return wire == plan.high[s] ? plan.low[s] : wire;
        }

        int endOf(int setting, int in) {
            return wireBehind(setting, in, plan.switches);
        }

        /** The switches, as bits, through which a wire goes. */
        int switchesOf(int setting, int in) {
            int bits = 0;
            int wire = in;
            for (int s = 0; s < plan.switches; s++) {
                if (wire == plan.low[s] || wire == plan.high[s]) {
                    bits |= 1 << s;
                    if (((setting >> s) & 1) != 0) {
                        wire = otherWire(s, wire);
                    }
                }
            }
            return bits;
        }

        int callsThrough(State s, int lever) {
            int bits = 0;
            for (int in = 0; in < plan.wires; in++) {
                if (s.isUp(in) && ((switchesOf(s.setting, in) >> lever) & 1) != 0) {
                    bits |= 1 << in;
                }
            }
            return bits;
        }

        int switchesInUse(State s) {
            int bits = 0;
            for (int in = 0; in < plan.wires; in++) {
                if (s.isUp(in)) {
                    bits |= switchesOf(s.setting, in);
                }
            }
            return bits;
        }

        /**
         * Looks for the setting by which one more call can be put through with the fewest shifts. A call has
         * another way just if some switch on its way is set otherwise, so calls that may not be shifted fix theirs.
         */
        boolean seek(State s, int in, int out, boolean shifting) {
            int fixed = s.jammed;
            int mask = 15 << (4 * in);
            int wanted = out << (4 * in);
            for (int c = 0; c < plan.wires; c++) {
                passed[c] = s.isUp(c) ? switchesOf(s.setting, c) : 0;
                if (s.isUp(c)) {
                    mask |= 15 << (4 * c);
                    wanted |= s.outs[c] << (4 * c);
                    if (!shifting || s.shifted[c] >= plan.vow) {
                        fixed |= passed[c];
                    }
                }
            }
            moved = MOST_WIRES + 1;
            int many = sweep.start(s.setting, fixed);
            for (int i = 0; i < many && moved > 0; i++) {
                if ((sweep.ends() & mask) == wanted) {
                    weigh(s.setting ^ sweep.setting);
                }
                sweep.advance();
            }
            return moved <= MOST_WIRES;
        }

        private void weigh(int turned) {
            int many = 0;
            for (int c = 0; c < plan.wires; c++) {
                if ((passed[c] & turned) != 0) {
                    many++;
                }
            }
            if (many < moved) {
                moved = many;
                found = sweep.setting;
            }
        }

        /** Does an act that is told by its numbers: 0, or why not. */
        int perform(State s, int verb, int x, int y, int n, int how) {
            switch (verb) {
                case CALLING: return putThrough(s, x, y, n, how == 1);
                case ENDING: return ringOff(s, x);
                case TURNING: return turnOver(s, x);
                case JAMMING: return makeJammed(s, x);
                case FREEING: return makeFree(s, x);
                default: return pass(s, n);
            }
        }

        private int putThrough(State s, int in, int out, int n, boolean shifting) {
            if (in < 0 || in >= plan.wires || out < 0 || out >= plan.wires) {
                return NO_SUCH_WIRE;
            }
            if (s.isBusy(in, out)) {
                return 1;
            }
            if (!seek(s, in, out, shifting)) {
                return 2;
            }
            int turned = s.setting ^ found;
            for (int c = 0; c < plan.wires; c++) {
                if ((passed[c] & turned) != 0) {
                    s.shifted[c]++;
                    s.shiftsSoFar++;
                }
            }
            s.setTo(found);
            s.outs[in] = out;
            s.left[in] = n;
            s.shifted[in] = 0;
            s.callsSoFar++;
            return 0;
        }

        private int ringOff(State s, int in) {
            if (in < 0 || in >= plan.wires) {
                return NO_SUCH_WIRE;
            }
            if (!s.isUp(in)) {
                return 1;
            }
            s.outs[in] = NONE;
            return 0;
        }

        private int turnOver(State s, int lever) {
            if (((s.jammed >> lever) & 1) != 0) {
                return 1;
            }
            if (((switchesInUse(s) >> lever) & 1) != 0) {
                return 2;
            }
            s.setTo(s.setting ^ (1 << lever));
            return 0;
        }

        private int makeJammed(State s, int lever) {
            if (((s.jammed >> lever) & 1) != 0) {
                return 1;
            }
            s.jammed |= 1 << lever;
            return 0;
        }

        private int makeFree(State s, int lever) {
            if (((s.jammed >> lever) & 1) == 0) {
                return 1;
            }
            s.jammed &= ~(1 << lever);
            return 0;
        }

        private int pass(State s, int n) {
            if (n > s.hoursLeft()) {
                return 1;
            }
            for (int i = 0; i < n; i++) {
                s.passHour();
            }
            return 0;
        }

        int passDrawn(State s, int n, int firstSeed) {
            seed = firstSeed;
            int gone = Math.min(n, s.hoursLeft());
            for (int i = 0; i < gone; i++) {
                for (int k = 0; k < CALLS_DRAWN_AN_HOUR; k++) {
                    int in = draw(plan.wires);
                    int out = draw(plan.wires);
                    int hoursOfIt = draw(LONGEST_CALL_DRAWN) + 1;
                    putThrough(s, in, out, hoursOfIt, draw(2) == 1);
                }
                s.passHour();
            }
            return gone;
        }

        private int draw(int n) {
            seed = seed * 1103515245 + 12345;
            return n > 0 ? (seed >>> 8) % n : 0;
        }

        /** Lives a book up to the first line that is wrong: why that is so, 0 if none is. */
        int live(State s, Book b) {
            for (b.lived = 0; b.lived < b.lines; b.lived++) {
                int i = b.lived;
                int why = perform(s, b.verbs[i], b.first[i], b.second[i], b.hoursTold[i], b.how[i]);
                if (why != 0) {
                    return 10 * b.verbs[i] + why;
                }
            }
            return 0;
        }
    }

    /** What can be asked of all settings at once. */
    private static final class Survey {
        private static final int ROOMS = 2048;

        private final Plan plan;
        private final Desk desk;
        private final Sweep sweep;
        private final int[] rooms = new int[ROOMS];
        private final long[] reachIfFixed = new long[MOST_SWITCHES];
        private final int[] leftOver = new int[MOST_WIRES];
        int first;

        Survey(Plan plan, Desk desk) {
            this.plan = plan;
            this.desk = desk;
            this.sweep = desk.sweep;
        }

        /** How many settings bring the order on the tape; the least number of them is in first. */
        int countSets(State s, Tape t) {
            if (t.length != plan.wires) {
                return NONE;
            }
            int mask = 0;
            int wanted = 0;
            for (int in = 0; in < plan.wires && in < MOST_WIRES; in++) {
                int to = t.bytes[in];
                if (to != ANYWHERE && to >= plan.wires) {
                    return NONE;
                }
                if (to != ANYWHERE) {
                    mask |= 15 << (4 * in);
                    wanted |= to << (4 * in);
                }
            }
            int found = 0;
            int many = sweep.start(s.setting, s.jammed);
            for (int i = 0; i < many; i++) {
                if ((sweep.ends() & mask) == wanted) {
                    first = found == 0 ? sweep.setting : first;
                    found++;
                }
                sweep.advance();
            }
            return found;
        }

        int countOrders(State s) {
            Arrays.fill(rooms, 0);
            int unlike = 0;
            int many = sweep.start(s.setting, s.jammed);
            for (int i = 0; i < many; i++) {
                if (isNewOrder(sweep.ends())) {
                    unlike++;
                }
                sweep.advance();
            }
            return unlike;
        }

        /** There are 1024 orders at most and twice as many rooms, so an empty room (0: no order) comes soon. */
        private boolean isNewOrder(int order) {
            int room = (order * 0x9E3779B1) >>> 21;
            for (int i = 0; i < ROOMS; i++) {
                if (rooms[room] == order) {
                    return false;
                }
                if (rooms[room] == 0) {
                    rooms[room] = order;
                    return true;
                }
                room = (room + 1) & (ROOMS - 1);
            }
            return false;
        }

        /** The pairs, bit 8 by IN and OUT, that some setting joins without another way of any call. */
        long reach(State s) {
            long reached = 0;
            int many = sweep.start(s.setting, s.jammed | desk.switchesInUse(s));
            for (int i = 0; i < many; i++) {
                reached |= pairsNow();
                sweep.advance();
            }
            return reached;
        }

        private long pairsNow() {
            long pairs = 0;
            int ends = sweep.ends();
            for (int in = 0; in < plan.wires; in++) {
                pairs |= 1L << (8 * in + ((ends >>> (4 * in)) & 7));
            }
            return pairs;
        }

        /** How many pairs without a call are not reached; the first of them is in first. */
        int countDeaf(State s, long reached) {
            int many = 0;
            int inUse = s.wiresUp();
            int outUse = s.wiresReached();
            for (int in = 0; in < plan.wires; in++) {
                for (int out = 0; out < plan.wires; out++) {
                    boolean busy = ((inUse >> in) & 1) != 0 || ((outUse >> out) & 1) != 0;
                    if (!busy && ((reached >>> (8 * in + out)) & 1) == 0) {
                        first = many == 0 ? 8 * in + out : first;
                        many++;
                    }
                }
            }
            return many;
        }

        int keySwitch(State s) {
            Arrays.fill(reachIfFixed, 0);
            int many = sweep.start(s.setting, s.jammed | desk.switchesInUse(s));
            for (int i = 0; i < many; i++) {
                int turned = sweep.setting ^ s.setting;
                long pairs = pairsNow();
                for (int lever = 0; lever < plan.switches; lever++) {
                    if (((turned >> lever) & 1) == 0) {
                        reachIfFixed[lever] |= pairs;
                    }
                }
                sweep.advance();
            }
            int most = NONE;
            int key = NONE;
            for (int lever = 0; lever < plan.switches; lever++) {
                int deaf = countDeaf(s, reachIfFixed[lever]);
                if (deaf > most) {
                    most = deaf;
                    key = lever;
                }
            }
            return key;
        }

        /** The faults, as bits, that explain the pairs on the tape; NONE if they are not as told. */
        int suspects(State s, Tape t) {
            if (t.length < 2 || t.length > 2 * MOST_PAIRS || t.length % 2 != 0) {
                return NONE;
            }
            for (int i = 0; i < t.length; i++) {
                if (t.bytes[i] >= plan.wires) {
                    return NONE;
                }
            }
            int bits = 0;
            for (int f = 0; f <= NO_FAULT; f++) {
                if ((f < plan.switches || f == NO_FAULT) && explains(settingBy(s, f), t)) {
                    bits |= 1 << f;
                }
            }
            return bits;
        }

        private static int settingBy(State s, int f) {
            return f == NO_FAULT ? s.setting : s.setting ^ (1 << f);
        }

        private boolean explains(int setting, Tape t) {
            for (int i = 0; i + 1 < t.length; i += 2) {
                if (desk.endOf(setting, t.bytes[i]) != t.bytes[i + 1]) {
                    return false;
                }
            }
            return true;
        }

        int bestTrial(State s, int suspects) {
            int least = NO_FAULT + 2;
            int best = NONE;
            for (int in = 0; in < plan.wires; in++) {
                int most = mostLeft(s, suspects, in);
                if (most < least) {
                    least = most;
                    best = in;
                }
            }
            return best;
        }

        private int mostLeft(State s, int suspects, int in) {
            Arrays.fill(leftOver, 0);
            int most = 0;
            for (int f = 0; f <= NO_FAULT; f++) {
                if (((suspects >> f) & 1) != 0) {
                    int out = desk.endOf(settingBy(s, f), in);
                    leftOver[out]++;
                    most = Math.max(most, leftOver[out]);
                }
            }
            return most;
        }
    }

    /** The lines of the latest book, by number. */
    private static final class Book {
        final int[] verbs = new int[MOST_LINES_OF_BOOK];
        final int[] first = new int[MOST_LINES_OF_BOOK];
        final int[] second = new int[MOST_LINES_OF_BOOK];
        final int[] hoursTold = new int[MOST_LINES_OF_BOOK];
        final int[] how = new int[MOST_LINES_OF_BOOK];
        int lines;
        int lived;

        boolean read(Tape t, Plan plan) {
            lines = 0;
            lived = 0;
            t.open(MOST_BYTES_OF_BOOK);
            for (int i = 0; i <= MOST_LINES_OF_BOOK && t.kind != AT_END; i++) {
                if (!readLine(t, plan) || !t.takeSign(';')) {
                    return false;
                }
                lines++;
            }
            return true;
        }

        private boolean readLine(Tape t, Plan plan) {
            int verb = verbAt(t);
            if (verb == NONE) {
                return t.fail(FAULT_TOKEN);
            }
            if (lines >= MOST_LINES_OF_BOOK) {
                return t.fail(FAULT_MORE);
            }
            verbs[lines] = verb;
            first[lines] = 0;
            second[lines] = 0;
            hoursTold[lines] = 0;
            how[lines] = 0;
            t.step();
            switch (verb) {
                case CALLING: return readCall(t);
                case ENDING: return readNumber(t, first, 0, MOST_WIRES - 1);
                case PASSING: return readNumber(t, hoursTold, 1, MOST_HOURS_AT_ONCE);
                default: return readSwitchName(t, plan);
            }
        }

        private static int verbAt(Tape t) {
            if (t.isAt(Word.CALL)) {
                return CALLING;
            }
            if (t.isAt(Word.END)) {
                return ENDING;
            }
            if (t.isAt(Word.TURN)) {
                return TURNING;
            }
            if (t.isAt(Word.JAM)) {
                return JAMMING;
            }
            if (t.isAt(Word.FREE)) {
                return FREEING;
            }
            return t.isAt(Word.HOUR) ? PASSING : NONE;
        }

        private boolean readCall(Tape t) {
            boolean good = readNumber(t, first, 0, MOST_WIRES - 1)
                && readNumber(t, second, 0, MOST_WIRES - 1)
                && readNumber(t, hoursTold, 1, MOST_HOURS_OF_CALL);
            if (!good) {
                return false;
            }
            if (!t.isAt(Word.STRICT) && !t.isAt(Word.SHIFT)) {
                return t.fail(FAULT_TOKEN);
            }
            how[lines] = t.isAt(Word.SHIFT) ? 1 : 0;
            t.step();
            return true;
        }

        private boolean readNumber(Tape t, int[] row, int least, int most) {
            if (!t.isNumber(least, most)) {
                return false;
            }
            row[lines] = t.number;
            t.step();
            return true;
        }

        private boolean readSwitchName(Tape t, Plan plan) {
            if (!plan.isSwitchName(t)) {
                return false;
            }
            first[lines] = plan.switchNamed(t.letters);
            t.step();
            return true;
        }
    }

    /** What may be said of switches: its ones behind what they join, as on a pile. */
    private static final class Sentence {
        // No more joints than ones, so twice as many steps are enough.
        private static final int MOST_STEPS = 2 * MOST_ONES;

        private final Word[] steps = new Word[MOST_STEPS];
        private final int[] signs = new int[MOST_STEPS];
        private final int[] values = new int[MOST_STEPS];
        private final int[] pile = new int[MOST_STEPS];
        private int length;
        int ones;

        void clear() {
            length = 0;
            ones = 0;
        }

        void copyFrom(Sentence other) {
            length = other.length;
            ones = other.ones;
            for (int i = 0; i < length && i < MOST_STEPS; i++) {
                steps[i] = other.steps[i];
                signs[i] = other.signs[i];
                values[i] = other.values[i];
            }
        }

        boolean read(Tape t, Plan plan) {
            clear();
            t.open(MOST_BYTES_OF_SENTENCE);
            if (!readAny(t, plan, 1)) {
                return false;
            }
            return t.kind == AT_END || t.fail(FAULT_TOKEN);
        }

        private boolean readAny(Tape t, Plan plan, int depth) {
            boolean good = readAll(t, plan, depth);
            for (int i = 0; i < MOST_ONES && good && t.isAt(Word.OR); i++) {
                t.step();
                good = readAll(t, plan, depth) && add(Word.OR, 0, 0);
            }
            return good;
        }

        private boolean readAll(Tape t, Plan plan, int depth) {
            boolean good = readOne(t, plan, depth);
            for (int i = 0; i < MOST_ONES && good && t.isAt(Word.AND); i++) {
                t.step();
                good = readOne(t, plan, depth) && add(Word.AND, 0, 0);
            }
            return good;
        }

        private boolean readOne(Tape t, Plan plan, int depth) {
            if (!isOneAhead(t)) {
                return t.fail(FAULT_TOKEN);
            }
            if (ones >= MOST_ONES || depth > MOST_WITHIN) {
                return t.fail(FAULT_MORE);
            }
            ones++;
            Word word = t.word;
            t.step();
            if (word == null) {
                return readAny(t, plan, depth + 1) && t.takeSign(')');
            }
            if (word == Word.NOT) {
                return readOne(t, plan, depth + 1) && add(Word.NOT, 0, 0);
            }
            if (word == Word.BY) {
                return readSister(t, plan);
            }
            if (word == Word.ON) {
                return readValue(t, word, 0, MOST_WIRES - 1);
            }
            return isCount(word) ? readCount(t, word) : add(word, 0, 0);
        }

        private static boolean isOneAhead(Tape t) {
            return t.kind == '(' || t.isAt(Word.NOT) || t.isAt(Word.CHANGED) || t.isAt(Word.JAMMED)
                || t.isAt(Word.USED) || t.isAt(Word.BY) || t.isAt(Word.ON) || t.kind == WORD && isCount(t.word);
        }

        private static boolean isCount(Word word) {
            return word == Word.CALLS || word == Word.TURNS || word == Word.NUMBER;
        }

        private boolean readSister(Tape t, Plan plan) {
            if (!plan.isSisterName(t)) {
                return false;
            }
            int sister = plan.sisterNamed(t.letters);
            t.step();
            return add(Word.BY, 0, sister);
        }

        private boolean readCount(Tape t, Word word) {
            int sign = t.kind;
            if (sign != '<' && sign != '=' && sign != '>') {
                return t.fail(FAULT_TOKEN);
            }
            t.step();
            return readValue(t, word, sign, 999);
        }

        private boolean readValue(Tape t, Word word, int sign, int most) {
            if (!t.isNumber(0, most)) {
                return false;
            }
            int value = t.number;
            t.step();
            return add(word, sign, value);
        }

        private boolean add(Word word, int sign, int value) {
            if (length >= MOST_STEPS) {
                return false;
            }
            steps[length] = word;
            signs[length] = sign;
            values[length] = value;
            length++;
            return true;
        }

        /** All switches, as bits, of which it may be said: each step is taken for all at once. */
        int switchesSaid(Plan plan, State s, Desk desk) {
            int all = (1 << plan.switches) - 1;
            int height = 0;
            for (int i = 0; i < length && i < MOST_STEPS; i++) {
                Word word = steps[i];
                if (word == Word.NOT && height >= 1) {
                    pile[height - 1] = all & ~pile[height - 1];
                } else if (word == Word.AND && height >= 2) {
                    height--;
                    pile[height - 1] &= pile[height];
                } else if (word == Word.OR && height >= 2) {
                    height--;
                    pile[height - 1] |= pile[height];
                } else {
                    pile[height] = switchesOfStep(i, plan, s, desk);
                    height++;
                }
            }
            return height >= 1 ? pile[0] : 0;
        }

        private int switchesOfStep(int i, Plan plan, State s, Desk desk) {
            Word word = steps[i];
            if (word == Word.CHANGED) {
                return s.setting;
            }
            if (word == Word.JAMMED) {
                return s.jammed;
            }
            if (word == Word.USED) {
                return desk.switchesInUse(s);
            }
            int bits = 0;
            for (int lever = 0; lever < plan.switches; lever++) {
                if (isSo(i, lever, plan, s, desk)) {
                    bits |= 1 << lever;
                }
            }
            return bits;
        }

        private boolean isSo(int i, int lever, Plan plan, State s, Desk desk) {
            Word word = steps[i];
            int value = values[i];
            if (word == Word.BY) {
                return value < plan.sisters && plan.seats[value] == lever;
            }
            if (word == Word.ON) {
                return plan.low[lever] == value || plan.high[lever] == value;
            }
            if (word == Word.CALLS) {
                return agrees(Integer.bitCount(desk.callsThrough(s, lever)), signs[i], value);
            }
            return agrees(word == Word.TURNS ? s.turned[lever] : lever, signs[i], value);
        }

        private static boolean agrees(int number, int sign, int value) {
            if (sign == '<') {
                return number < value;
            }
            return sign == '=' ? number == value : number > value;
        }
    }

    /** Board, all that is so and the sentence, as kept in one place. */
    private static final class Image {
        final Plan plan = new Plan();
        final State state = new State();
        final Sentence sentence = new Sentence();
        boolean kept;
    }
}
