/** Boundary cases of the texts (==== 1) and of the promises that read them: 4, 5, 33 and 35. */
final class TextEdges {
    private static final String BASE = "wires 3;switch a 0 1;switch b 1 2;sister ada b;";
    private static final String[] TOLD = {"wires", "switch", "changed", "sister", "vow", "call", "strict", "shift", "end",
        "turn", "jam", "free", "hour", "or", "and", "not", "jammed", "used", "by", "on", "calls", "turns", "number"};

    private final Due due;

    TextEdges(Due due) {
        this.due = due;
    }

    void go() {
        blanks();
        words();
        numbers();
        runs();
        signs();
        bytesOfBoard();
        linesOfBoard();
        wiresTold();
        wiresOfSwitch();
        setAtFirst();
        vowTold();
        names();
        mostSwitchesAndSisters();
        bytesOfBook();
        linesOfBook();
        callsInBook();
        endsInBook();
        switchesInBook();
        hoursInBook();
        bytesOfSentence();
        shapeOfSentence();
        sistersInSentence();
        wiresInSentence();
        countsInSentence();
        mostOnes();
        mostWithin();
        firstFault();
        leastFault();
        faultAtEnd();
        faultAtMostBytes();
        faultOfNumber();
        faultOfName();
        faultOfOneMore();
        boardAnswers();
        boardStays();
        tapeIsEmptyThen();
        newBoard();
        faultsTold();
        faultLeft();
        bookFaults();
        sentenceAnswers();
        sentenceStays();
    }

    private SistersBoard board(String text, int answer, int kind) {
        SistersBoard x = new SistersBoard();
        due.is("board " + text, Due.text(x, text).board(), answer);
        due.is("kind of board " + text, x.fault(), kind);
        return x;
    }

    private void boardFault(String text, int place, int kind) {
        board(text, -1 - place, kind);
    }

    private SistersBoard book(String text, int answer, int kind) {
        SistersBoard x = Due.boardOf(BASE);
        due.is("book " + text, Due.text(x, text).book(0), answer);
        due.is("kind of book " + text, x.fault(), kind);
        return x;
    }

    private void bookFault(String text, int place, int kind) {
        book(text, -2 - place, kind);
    }

    private SistersBoard sentence(String text, int answer, int kind) {
        SistersBoard x = Due.boardOf(BASE);
        due.is("sentence " + text, Due.text(x, text).sentence(), answer);
        due.is("kind of sentence " + text, x.fault(), kind);
        return x;
    }

    private void sentenceFault(String text, int place, int kind) {
        sentence(text, -1 - place, kind);
    }

    private static String times(int n, String text) {
        return text.repeat(Math.max(0, n));
    }

    /** Blanks ahead, so that the text ends at a length. */
    private static String upTo(int length, String text) {
        return times(length - text.length(), " ") + text;
    }

    private static String switches(int n) {
        StringBuilder b = new StringBuilder();
        for (int i = 0; i < n; i++) {
            b.append("switch ").append((char) ('a' + i)).append(" 0 1;");
        }
        return b.toString();
    }

    private static String sisters(int n) {
        StringBuilder b = new StringBuilder();
        for (int i = 0; i < n; i++) {
            b.append("sister ").append((char) ('p' + i)).append(" a;");
        }
        return b.toString();
    }

    // ---- tokens

    private void blanks() {
        due.by(4, "TOKENS of all texts, with blanks (32, 10) between them or not");
        for (int b = 0; b < 256; b++) {
            boolean blank = b == 32 || b == 10;
            board("vow 3;" + (char) b, blank ? 1 : -7, blank ? 0 : 1);
            board((char) b + "vow 3;", blank ? 1 : -1, blank ? 0 : 1);
        }
        board("\n \n vow \n\n 3 \n ; ", 1, 0);
        board("vow 3;wires 3;switch a 0 1;sister b a;", 4, 0);
        boardFault("vow\t3;", 3, 1);
        boardFault("vow\r3;", 3, 1);
        book("\n hour \n 1 \n ; ", -1, 0);
        sentence("not(used)and(calls<3)", 5, 0);
        sentence("\n not\n(\nused )\nand ( calls < 3 \n)\n", 5, 0);
    }

    private void words() {
        due.by(4, "WORDS: small letters, 1 to 7");
        for (char c = 'a'; c <= 'z'; c++) {
            board("switch " + c + " 0 1;", 1, 0);
            board("switch " + times(7, "" + c) + " 0 1;", 1, 0);
            boardFault("switch " + times(8, "" + c) + " 0 1;", 7, 1);
        }
        for (char c : "`{AZ@[_'".toCharArray()) {
            boardFault("switch " + c + " 0 1;", 7, 1);
            boardFault("switch a" + c + " 0 1;", 8, 1);
        }
        // Names that differ in their last or first letter alone are two names.
        board("switch abcdefg 0 1;switch abcdefh 0 1;switch bbcdefg 0 1;switch abcdef 0 1;", 4, 0);
        // A long run of letters is none of the words it ends in.
        boardFault(times(60, "z") + "vow 3;", 0, 1);
        boardFault("aaaaaaaaaaaavow 3;", 0, 1);
    }

    private void numbers() {
        due.by(4, "NUMBERS: 1 to 3 digits");
        String[] good = {"3", "03", "003", "0", "00", "000", "9", "009"};
        for (String n : good) {
            due.is("vow " + n, board("vow " + n + ";", 1, 0).count(3), Integer.parseInt(n));
        }
        boardFault("vow 0003;", 4, 1);
        boardFault("vow 0000;", 4, 1);
        boardFault("vow 999;", 4, 2);
        boardFault("vow 1000;", 4, 1);
        // Too many digits to hold are no number, and none of the numbers they would wrap to.
        boardFault("vow 4294967299;", 4, 1);
        boardFault("vow 18446744073709551619;", 4, 1);
        boardFault("vow /;", 4, 1);
        boardFault("vow :;", 4, 1);
        sentence("turns<999", 1, 0);
        sentenceFault("turns<1000", 6, 1);
    }

    private void runs() {
        due.by(4, "(A WORD, NUMBER goes on as long as small letters and digits do; what is not as told is no TOKEN.)");
        boardFault("vow 3a;", 4, 1);
        boardFault("vow 3switch a 0 1;", 4, 1);
        boardFault("vow3;", 0, 1);
        boardFault("switch a1 0 1;", 7, 1);
        boardFault("switch 1a 0 1;", 7, 1);
        boardFault("switch a 0 1changed;", 11, 1);
        bookFault("hour 1hour 1;", 5, 1);
        sentenceFault("on 1and used", 3, 1);
        sentenceFault("not1 used", 0, 1);
        sentence("number=1 or(on 1)", 3, 0);
        boardFault("vow 3.", 5, 1);
        boardFault("vow -3;", 4, 1);
        boardFault("Vow 3;", 0, 1);
    }

    private void signs() {
        due.by(35, "; < = > ( )");
        sentence("calls<1", 1, 0);
        sentence("calls=1", 1, 0);
        sentence("calls>1", 1, 0);
        sentence("(used)", 2, 0);
        for (char c : ":?;()'*/!,.".toCharArray()) {
            sentenceFault("calls" + c + "1", 5, 1);
        }
        for (char c : "<=>;".toCharArray()) {
            sentenceFault("used" + c, 4, 1);
            sentenceFault(c + "used", 0, 1);
        }
        for (char c : "<=>():,.".toCharArray()) {
            boardFault("vow 3" + c, 5, 1);
        }
    }

    // ---- a board

    private void bytesOfBoard() {
        due.by(4, "A BOARD is a text of at most 900 bytes");
        board(upTo(900, "vow 3;"), 1, 0);
        board("vow 3;" + times(894, " "), 1, 0);
        board(times(900, "\n"), 0, 0);
        board(upTo(899, "vow 3;"), 1, 0);
        boardFault(upTo(901, "vow 3;"), 900, 1);
        boardFault("vow 3;" + times(895, " "), 900, 1);
        boardFault(times(901, " "), 900, 1);
        boardFault(times(940, " "), 900, 1);
        boardFault("vow 3;" + times(934, "\n"), 900, 1);
    }

    private void linesOfBoard() {
        due.by(4, "{ LINE ; }. LINE: 'wires' N");
        due.is("wires of an empty text", board("", 0, 0).count(0), 4);
        board("vow 3;", 1, 0);
        boardFault(";", 0, 1);
        boardFault("vow 3;;", 6, 1);
        boardFault("vow 3", 5, 1);
        boardFault("vow 3 wires 4;", 6, 1);
        boardFault("3;", 0, 1);
        boardFault("name 3;", 0, 1);
        for (String word : TOLD) {
            boolean first = "wires switch sister vow".contains(word);
            board(word, first ? -1 - word.length() : -1, 1);
        }
    }

    private void wiresTold() {
        due.by(4, "'wires' N (2 to 8; once, ahead of all SWITCHES; 4 without)");
        for (int n = 2; n <= 8; n++) {
            SistersBoard x = board("wires " + n + ";", 1, 0);
            due.is("wires", x.count(0), n);
            due.is("the last wire", x.out(n - 1), n - 1);
            due.is("no more wires", x.out(n), -1);
        }
        int[] bad = {0, 1, 9, 10, 999};
        for (int n : bad) {
            boardFault("wires " + n + ";", 6, 2);
        }
        boardFault("wires 4;wires 4;", 8, 3);
        boardFault("wires 4;vow 1;wires 5;", 14, 3);
        boardFault("switch a 0 1;wires 4;", 13, 3);
        boardFault("wires 4;switch a 0 1;wires 4;", 21, 3);
        due.is("behind a vow", board("vow 1;wires 5;switch a 3 4;", 3, 0).count(0), 5);
        due.is("without", board("vow 1;switch a 2 3;", 2, 0).count(0), 4);
        boardFault("switch a 3 4;", 11, 2);
    }

    private void wiresOfSwitch() {
        due.by(4, "'switch' NAME A B [ 'changed' ] (wires, 0 to 'wires' less 1, A below B; set changed at first, straight without)");
        for (int n = 2; n <= 8; n++) {
            String head = "wires " + n + ";switch a ";
            SistersBoard x = board(head + "0 " + (n - 1) + ";", 2, 0);
            due.is("A", x.lever(0, 0), 0);
            due.is("B", x.lever(0, 1), n - 1);
            board(head + (n - 2) + " " + (n - 1) + ";", 2, 0);
            boardFault(head + "0 " + n + ";", 19, 2);
            boardFault(head + n + " 0;", 17, 2);
            boardFault(head + n + " " + (n + 1) + ";", 17, 2);
            boardFault(head + (n - 1) + " " + n + ";", 19, 2);
            for (int a = 0; a < n; a++) {
                boardFault(head + a + " " + a + ";", 19, 2);
                if (a > 0) {
                    boardFault(head + a + " " + (a - 1) + ";", 19, 2);
                }
            }
        }
        boardFault("switch a 0;", 10, 1);
        boardFault("switch a;", 8, 1);
        boardFault("switch a 0 1 2;", 13, 1);
        boardFault("switch a 0 1 changed changed;", 21, 1);
        boardFault("switch a changed 0 1;", 9, 1);
    }

    private void setAtFirst() {
        due.by(4, "set changed at first, straight without");
        due.is("none", board(switches(10), 10, 0).now(1), 0);
        due.is("all", board(switches(10).replace(";", " changed;"), 10, 0).now(1), 1023);
        SistersBoard x = board("switch a 0 1 changed;switch b 1 2;switch c 2 3 changed;", 3, 0);
        due.is("the first and the third", x.now(1), 5);
        due.is("set so, not turned", x.now(7) + x.lever(0, 5), 0);
    }

    private void vowTold() {
        due.by(4, "'vow' N (0 to 9: how often each call may be SHIFTED; once; 1 without)");
        for (int n = 0; n <= 9; n++) {
            due.is("vow", board("vow " + n + ";", 1, 0).count(3), n);
        }
        boardFault("vow 10;", 4, 2);
        boardFault("vow 999;", 4, 2);
        boardFault("vow 1;vow 1;", 6, 3);
        boardFault("vow 0;switch a 0 1;vow 2;", 19, 3);
        due.is("without", board("wires 2;", 1, 0).count(3), 1);
        due.is("behind all", board("switch a 0 1;sister b a;vow 7;", 3, 0).count(3), 7);
    }

    private void names() {
        due.by(4, "NAME: a WORD, none of those told here, in a BOOK or a SENTENCE; told once.");
        for (String word : TOLD) {
            boardFault("switch " + word + " 0 1;", 7, 1);
            boardFault("switch a 0 1;sister " + word + " a;", 20, 1);
            board("switch x" + word.substring(0, Math.min(6, word.length())) + " 0 1;", 1, 0);
            String shorter = word.substring(0, word.length() - 1);
            if (!"call turn by on jam".contains(shorter)) {
                board("switch " + shorter + " 0 1;", 1, 0);
            }
        }
        boardFault("switch 7 0 1;", 7, 1);
        boardFault("switch a 0 1;switch a 1 2;", 20, 3);
        boardFault("switch a 0 1;sister a a;", 20, 3);
        boardFault("switch a 0 1;sister b a;sister b a;", 31, 3);
        boardFault("switch a 0 1;sister b a;switch b 0 1;", 31, 3);
        boardFault(switches(9) + "switch a 0 1;", 9 * 13 + 7, 3);
        boardFault(switches(9) + "switch i 0 1;", 9 * 13 + 7, 3);
    }

    private void mostSwitchesAndSisters() {
        due.by(4, "10 SWITCHES, 5 SISTERS at most, numbered from 0 each, SWITCHES from the first along the wires.");
        SistersBoard x = board(switches(10) + sisters(5), 15, 0);
        due.is("switches", x.count(1), 10);
        due.is("sisters", x.count(2), 5);
        due.is("switch 9", x.lever(9, 1), 1);
        due.is("no switch 10", Looks.leverOf(x, 10, 1), Looks.THROWS);
        due.is("sister 4", x.hears(4), 0);
        due.is("no sister 5", x.hears(5), -1);
        due.is("behind 10 switches", x.way(0, 10), 0);
        boardFault(switches(11), 130, 4);
        boardFault(switches(10) + sisters(6), 130 + 55, 4);
        boardFault(switches(1) + sisters(6), 13 + 55, 4);
        SistersBoard y = board("wires 5;switch a 3 4;switch b 0 1;sister c b;sister d a;", 5, 0);
        due.is("the first told is 0", y.lever(0, 0), 3);
        due.is("the next is 1", y.lever(1, 0), 0);
        y.call(0, 0, 1, 0);
        due.is("the first told sister is 0", y.hears(0), 1);
        due.is("the next is 1", y.hears(1), 0);
    }

    // ---- a book

    private void bytesOfBook() {
        due.by(33, "A BOOK is a text of at most 400 bytes");
        book(upTo(400, "hour 1;"), -1, 0);
        book(upTo(400, "end 0;"), 0, 0);
        book(times(400, " "), -1, 0);
        bookFault(upTo(401, "hour 1;"), 400, 1);
        bookFault(upTo(401, "hour 1;hour 2;"), 400, 1);
        bookFault(times(401, " "), 400, 1);
        bookFault(times(940, "\n"), 400, 1);
        bookFault("hour 1;" + times(394, " "), 400, 1);
    }

    private void linesOfBook() {
        due.by(33, "{ LINE ; }, 40 at most: 'call' IN OUT N HOW");
        due.is("no line", book("", -1, 0).told(1), 0);
        due.is("one line", book("hour 1;", -1, 0).told(1), 1);
        due.is("forty lines", book(times(40, "hour 1;"), -1, 0).told(1), 40);
        due.is("forty lines' hours", book(times(40, "hour 1;") + "\n", -1, 0).told(2), 40);
        due.is("the last of forty is wrong", book(times(39, "hour 1;") + "end 0;", 39, 0).told(1), 39);
        bookFault(times(41, "hour 1;"), 280, 4);
        bookFault(";", 0, 1);
        bookFault("hour 1;;", 7, 1);
        bookFault("hour 1", 6, 1);
        bookFault("hour 1 hour 1;", 7, 1);
        for (String word : TOLD) {
            boolean first = "call end turn jam free hour".contains(word) && !word.equals("or");
            book(word, first ? -2 - word.length() : -2, 1);
        }
    }

    private void callsInBook() {
        due.by(33, "(0 to 7 each; 1 to 30 HOURS; HOW: 'strict', 'shift', numbered from 0)");
        book("call 0 0 1 strict;", -1, 0);
        book("call 2 2 30 shift;", -1, 0);
        due.is("no such wire is no fault", book("call 7 0 1 strict;", 0, 0).told(0), 9);
        due.is("no such wire is no fault", book("call 0 7 1 strict;", 0, 0).told(0), 9);
        bookFault("call 8 0 1 strict;", 5, 2);
        bookFault("call 0 8 1 strict;", 7, 2);
        bookFault("call 999 0 1 strict;", 5, 2);
        bookFault("call 0 0 0 strict;", 9, 2);
        bookFault("call 0 0 31 strict;", 9, 2);
        bookFault("call 0 0 1;", 10, 1);
        bookFault("call 0 0 1 0;", 11, 1);
        bookFault("call 0 0 1 a;", 11, 1);
        bookFault("call 0 0 1 strict shift;", 18, 1);
        bookFault("call 0 0 strict;", 9, 1);
        bookFault("call;", 4, 1);
        // 0 is strict: what needs a shift is wrong; 1 is with shifts.
        SistersBoard x = Due.boardOf("wires 3;switch a 0 1;switch b 1 2;switch c 0 1;");
        due.is("strict", Due.text(x, "call 0 1 9 strict;call 2 0 9 strict;").book(0), 1);
        due.is("strict, why", x.told(0), 2);
        due.is("shift", Due.text(x, "call 0 1 9 strict;call 2 0 9 shift;").book(0), -1);
        SistersBoard y = Due.boardOf(BASE);
        due.is("hours told", Due.text(y, "call 0 0 30 strict;call 2 2 1 strict;").book(1), -1);
        due.is("30", y.line(0, 1), 30);
        due.is("1", y.line(2, 1), 1);
    }

    private void endsInBook() {
        due.by(33, "'end' IN (0 to 7)");
        due.is("a wire without a call", book("end 0;", 0, 0).told(0), 11);
        due.is("no such wire is no fault", book("end 7;", 0, 0).told(0), 19);
        bookFault("end 8;", 4, 2);
        bookFault("end 999;", 4, 2);
        bookFault("end;", 3, 1);
        bookFault("end a;", 4, 1);
        bookFault("end 0 0;", 6, 1);
    }

    private void switchesInBook() {
        due.by(33, "'turn' SWITCH | 'jam' SWITCH | 'free' SWITCH");
        String[] verbs = {"turn ", "jam ", "free "};
        for (String verb : verbs) {
            int at = verb.length();
            book(verb + "b;", verb.equals("free ") ? 0 : -1, 0);
            bookFault(verb + "c;", at, 3);
            bookFault(verb + "ada;", at, 3);
            bookFault(verb + "0;", at, 1);
            bookFault(verb + ";", at, 1);
            bookFault(verb + "hour;", at, 1);
            bookFault(verb + "a b;", at + 2, 1);
        }
    }

    private void hoursInBook() {
        due.by(33, "'hour' N (1 to 60)");
        due.is("1", book("hour 1;", -1, 0).told(2), 1);
        due.is("60", book("hour 60;", -1, 0).told(2), 60);
        bookFault("hour 0;", 5, 2);
        bookFault("hour 61;", 5, 2);
        bookFault("hour 999;", 5, 2);
        bookFault("hour;", 4, 1);
    }

    // ---- a sentence

    private void bytesOfSentence() {
        due.by(35, "A SENTENCE is a text of at most 200 bytes");
        sentence(upTo(200, "used"), 1, 0);
        sentence("used" + times(196, "\n"), 1, 0);
        sentenceFault(upTo(201, "used"), 200, 1);
        sentenceFault("used" + times(197, " "), 200, 1);
        sentenceFault(times(200, " "), 200, 1);
        sentenceFault(times(201, " "), 200, 1);
        sentenceFault(times(940, " "), 200, 1);
    }

    private void shapeOfSentence() {
        due.by(35, "COND: ALL { 'or' ALL }. ALL: ONE { 'and' ONE }.");
        sentenceFault("", 0, 1);
        sentenceFault("and used", 0, 1);
        sentenceFault("or used", 0, 1);
        sentenceFault("used and", 8, 1);
        sentenceFault("used or", 7, 1);
        sentenceFault("used and or used", 9, 1);
        sentenceFault("used used", 5, 1);
        sentenceFault("not", 3, 1);
        sentenceFault("()", 1, 1);
        sentenceFault("(", 1, 1);
        sentenceFault("(used", 5, 1);
        sentenceFault("used)", 4, 1);
        sentenceFault("(used))", 6, 1);
        sentenceFault("used;", 4, 1);
        for (String word : TOLD) {
            boolean whole = "changed jammed used".contains(word);
            boolean part = "not by on calls turns number".contains(word) && !word.equals("call")
                && !word.equals("turn");
            if (whole && !word.equals("jam")) {
                sentence(word, 1, 0);
            } else {
                sentenceFault(word, part ? word.length() : 0, 1);
            }
        }
        // 'and' binds closer than 'or', on either side of it.
        SistersBoard x = sentence("number=0 or number=1 and number=2", 3, 0);
        due.is("how many", x.said(-1), 1);
        due.is("which", x.said(0), 0);
        due.is("on the left", Due.text(x, "number=1 and number=2 or number=0").sentence(), 3);
        due.is("how many", x.said(-1), 1);
        due.is("not binds closest", Due.text(x, "not number=0 and number=0").sentence(), 3);
        due.is("how many", x.said(-1), 0);
    }

    private void sistersInSentence() {
        due.by(35, "'by' SISTER (she sits by it)");
        due.is("hers", sentence("by ada", 1, 0).said(0), 1);
        due.is("hers alone", sentence("by ada", 1, 0).said(-1), 1);
        sentenceFault("by eva", 3, 3);
        sentenceFault("by a", 3, 3);
        sentenceFault("by used", 3, 1);
        sentenceFault("by 0", 3, 1);
        sentenceFault("by", 2, 1);
    }

    private void wiresInSentence() {
        due.by(35, "'on' WIRE (it lies on that: 0 to 7)");
        int[] many = {1, 2, 1, 0, 0, 0, 0, 0};
        for (int w = 0; w <= 7; w++) {
            due.is("on " + w, sentence("on " + w, 1, 0).said(-1), many[w]);
        }
        sentenceFault("on 8", 3, 2);
        sentenceFault("on 999", 3, 2);
        sentenceFault("on a", 3, 1);
        sentenceFault("on", 2, 1);
    }

    private void countsInSentence() {
        due.by(35, "( 'calls' | 'turns' | 'number' ) SIGN NUMBER (calls that go through it; how often it was turned so far; its number). SIGN: < = >.");
        String[] words = {"calls", "turns", "number"};
        int[][] less = {{0, 2, 2, 2}, {0, 2, 2, 2}, {0, 1, 2, 2}};
        int[][] like = {{2, 0, 0, 0}, {2, 0, 0, 0}, {1, 1, 0, 0}};
        int[] values = {0, 1, 2, 999};
        for (int i = 0; i < 3; i++) {
            for (int k = 0; k < 4; k++) {
                int v = values[k];
                due.is(words[i] + "<" + v, sentence(words[i] + "<" + v, 1, 0).said(-1), less[i][k]);
                due.is(words[i] + "=" + v, sentence(words[i] + "=" + v, 1, 0).said(-1), like[i][k]);
                due.is(words[i] + ">" + v, sentence(words[i] + ">" + v, 1, 0).said(-1), 2 - less[i][k] - like[i][k]);
            }
            int at = words[i].length();
            sentenceFault(words[i], at, 1);
            sentenceFault(words[i] + " 1", at + 1, 1);
            sentenceFault(words[i] + "<", at + 1, 1);
            sentenceFault(words[i] + "<=1", at + 1, 1);
            sentenceFault(words[i] + "<a", at + 1, 1);
            sentenceFault(words[i] + "<1000", at + 1, 1);
        }
        SistersBoard x = Due.boardOf(BASE);
        for (int i = 0; i < 3; i++) {
            x.turn(0);
        }
        x.call(0, 1, 9, 0);
        x.call(2, 2, 9, 0);
        due.is("turns", Due.text(x, "turns=3").sentence() + x.said(0), 1);
        due.is("calls", Due.text(x, "calls=2").sentence() + x.said(0), 2);
        due.is("calls", Due.text(x, "calls<2").sentence() + x.said(0), 1);
        due.is("number", Due.text(x, "number>0").sentence() + x.said(0), 2);
    }

    private void mostOnes() {
        due.by(35, "20 ONES, 8 within one another.");
        String twenty = "used" + times(19, " or used");
        sentence(twenty, 20, 0);
        sentenceFault(twenty + " or used", twenty.length() + 4, 4);
        sentence("used" + times(18, " or used"), 19, 0);
        // Each not and each bracket is one, too.
        String nots = "not used" + times(9, " and not used");
        sentence(nots, 20, 0);
        sentenceFault(nots + " or used", nots.length() + 4, 4);
        sentenceFault(nots + " or not used", nots.length() + 4, 4);
        String brackets = "(used)" + times(9, "or(used)");
        sentence(brackets, 20, 0);
        sentenceFault(brackets + "or(used)", brackets.length() + 2, 4);
        sentenceFault("used or " + brackets, brackets.length() + 8 - 5, 4);
    }

    private void mostWithin() {
        due.by(35, "8 within one another");
        sentence(times(7, "not ") + "used", 8, 0);
        sentenceFault(times(8, "not ") + "used", 32, 4);
        sentence(times(7, "(") + "used" + times(7, ")"), 8, 0);
        sentenceFault(times(8, "(") + "used" + times(8, ")"), 8, 4);
        sentenceFault(times(9, "("), 8, 4);
        sentence(times(7, "(") + "used or used and used" + times(7, ")"), 10, 0);
        sentenceFault(times(7, "(") + "used or not used" + times(7, ")"), 19, 4);
        // What is closed is no more around what follows.
        String deep = times(7, "not ") + "used";
        sentence(deep + " or " + deep, 16, 0);
        sentence(times(7, "(") + "used" + times(7, ")") + "and" + times(7, "(") + "used" + times(7, ")"), 16, 0);
        due.is("seven nots", sentence(deep, 8, 0).said(-1), 2);
    }

    // ---- faults

    private void firstFault() {
        due.by(5, "FAULTS, the first along the text");
        boardFault("vow 99;wires 99;", 4, 2);
        boardFault("vow 99 @", 4, 2);
        boardFault("switch a 9 9;@", 9, 2);
        boardFault("switch a 0 1;switch a 9 9;", 20, 3);
        boardFault("wires 4;wires 99;", 8, 3);
        boardFault(switches(10) + "switch a 9 9;@", 130, 4);
        boardFault("@" + times(939, " "), 0, 1);
        bookFault("hour 99;turn c;", 5, 2);
        bookFault("turn c;hour 99;", 5, 3);
        sentenceFault("by eva and on 9", 3, 3);
        sentenceFault("on 9 and by eva", 3, 2);
    }

    private void leastFault() {
        due.by(5, "of one TOKEN the least");
        // No line's word, though it would be the 41st line; no one's, though it would be the 21st or too deep.
        String forty = times(40, "hour 1;");
        bookFault(forty + "a;", 280, 1);
        bookFault(forty + ";", 280, 1);
        bookFault(forty + "hour9;", 280, 1);
        String twenty = "used" + times(19, " or used");
        sentenceFault(twenty + " or ada", twenty.length() + 4, 1);
        sentenceFault(twenty + " or )", twenty.length() + 4, 1);
        sentenceFault(times(8, "not ") + "and", 32, 1);
        sentenceFault(times(8, "(") + ")", 8, 1);
        // A word of the texts' own can't come as a name, though it is not told either.
        boardFault("switch a 0 1;sister b wires;", 22, 1);
        bookFault("turn turn;", 5, 1);
        sentenceFault("by not", 3, 1);
        // Four digits are no token, though the number would be too great as well.
        boardFault("vow 1000;", 4, 1);
    }

    private void faultAtEnd() {
        due.by(5, "1 no TOKEN, or one that can't come (at it; the end: how many bytes there are;");
        boardFault("vow", 3, 1);
        boardFault("vow ", 4, 1);
        boardFault("vow 3  \n", 8, 1);
        boardFault("switch a 0 1", 12, 1);
        boardFault(upTo(900, "vow 3"), 900, 1);
        bookFault("hour", 4, 1);
        bookFault("hour 1 \n", 8, 1);
        bookFault(upTo(400, "turn b"), 400, 1);
        sentenceFault("", 0, 1);
        sentenceFault(" \n ", 3, 1);
        sentenceFault("not ", 4, 1);
        sentenceFault("(used ", 6, 1);
        sentenceFault(upTo(200, "not"), 200, 1);
        boardFault("vow 3;  @", 8, 1);
        boardFault("vow  @ 3;", 5, 1);
    }

    private void faultAtMostBytes() {
        due.by(5, "the most bytes told, if there are more and no FAULT is ahead: TOKENS that begin ahead of it are read whole)");
        boardFault(upTo(901, "vow 3"), 900, 1);
        boardFault(upTo(906, "vow 3;"), 900, 1);
        boardFault(upTo(905, "vow 3;"), 900, 1);
        boardFault(upTo(902, "vow 3;"), 900, 1);
        // 899 is where it begins: ten is no vow, a word told again, eight letters, a word of its own that goes on.
        boardFault(upTo(902, "vow 10;"), 899, 2);
        boardFault(upTo(903, "vow 10;"), 900, 1);
        boardFault(upTo(902, "vow 1;vow"), 899, 3);
        boardFault(upTo(903, "vow 1;vow"), 900, 1);
        boardFault(upTo(907, "abcdefgh"), 899, 1);
        boardFault(upTo(908, "abcdefgh"), 900, 1);
        boardFault(upTo(905, "switch"), 900, 1);
        boardFault(upTo(905, switches(10) + "switch"), 899, 4);
        boardFault(upTo(906, switches(10) + "switch"), 900, 1);
        boardFault(upTo(900, "vow 1;") + "@", 900, 1);
        boardFault(upTo(899, "vow 1;") + "@@", 899, 1);
        boardFault("@" + times(920, " "), 0, 1);
        bookFault(upTo(402, "hour 61;"), 399, 2);
        bookFault(upTo(403, "hour 61;"), 400, 1);
        bookFault(upTo(403, "turn zzz;"), 399, 3);
        bookFault(upTo(404, "turn zzz;"), 400, 1);
        sentenceFault(upTo(202, "by eva"), 199, 3);
        sentenceFault(upTo(203, "by eva"), 200, 1);
        sentenceFault(upTo(203, "used"), 200, 1);
        sentenceFault(upTo(204, "useds"), 199, 1);
        sentenceFault(upTo(201, "on 8"), 200, 1);
    }

    private void faultOfNumber() {
        due.by(5, "2 a NUMBER that is not as told (at it; B not above A, too)");
        boardFault(" wires  1;", 8, 2);
        boardFault("vow\n 10;", 5, 2);
        boardFault("switch a 4 5;", 9, 2);
        boardFault("switch a 0 4;", 11, 2);
        boardFault("switch a 0 0;", 11, 2);
        boardFault("switch a 3 0;", 11, 2);
        boardFault("switch a 003 002;", 13, 2);
        bookFault("hour  0;", 6, 2);
        bookFault("call 0 0 31 strict;", 9, 2);
        sentenceFault("on  8", 4, 2);
    }

    private void faultOfName() {
        due.by(5, "3 a NAME told twice, not told, or of another sort, what is told once told again, 'wires' behind a SWITCH (at the WORD)");
        boardFault("switch a 0 1;switch  a 0 1;", 21, 3);
        boardFault("sister a b;", 9, 3);
        boardFault("sister a a;", 9, 3);
        boardFault("sister b a;switch a 0 1;", 9, 3);
        boardFault("switch a 0 1;sister b a;sister c b;", 33, 3);
        boardFault("wires 4; wires 4;", 9, 3);
        boardFault("vow 4; vow 4;", 7, 3);
        boardFault("switch a 0 1; wires 4;", 14, 3);
        bookFault("free ada;", 5, 3);
        bookFault("free z;", 5, 3);
        sentenceFault("not by b", 7, 3);
        sentenceFault("not by z", 7, 3);
        // A name of the board ahead is not told.
        SistersBoard x = Due.boardOf(BASE);
        Due.text(x, "switch z 0 1;").board();
        due.is("a switch of the board ahead", Due.text(x, "turn a;").book(0), -2 - 5);
        due.is("a sister of the board ahead", Due.text(x, "by ada").sentence(), -1 - 3);
        due.is("a switch of this one", Due.text(x, "turn z;").book(0), -1);
    }

    private void faultOfOneMore() {
        due.by(5, "4 one more than there may be of a sort, a 41st LINE of a BOOK (at the LINE's first WORD), a 21st ONE, a ninth within (at its first TOKEN).");
        boardFault(switches(10) + "  switch", 132, 4);
        boardFault(switches(10) + "switch vow 9 9;", 130, 4);
        boardFault(switches(1) + sisters(5) + " sister", 13 + 55 + 1, 4);
        boardFault(switches(10) + sisters(5) + "switch k 0 1;", 130 + 55, 4);
        bookFault(times(40, "hour 1;") + "  hour 99;", 282, 4);
        bookFault(times(40, "hour 1;") + "call", 280, 4);
        bookFault(times(40, "hour 1;") + "turn z;", 280, 4);
        String twenty = "used" + times(19, " or used");
        sentenceFault(twenty + " or  by eva", twenty.length() + 5, 4);
        sentenceFault(twenty + " or  (", twenty.length() + 5, 4);
        sentenceFault(times(8, "not ") + " on 9", 33, 4);
        sentenceFault(times(8, "not ") + "  (used)", 34, 4);
    }

    // ---- what the calls answer and leave

    private void boardAnswers() {
        due.by(4, "how many LINES; -1 less the place of a FAULT");
        board("", 0, 0);
        board("vow 1;", 1, 0);
        board("wires 4;vow 1;" + switches(10) + sisters(5), 17, 0);
        board("@", -1, 1);
        board(times(901, " "), -901, 1);
        board(upTo(902, "vow 10;"), -900, 2);
    }

    private void boardStays() {
        due.by(4, "-1 less the place of a FAULT: it stays.");
        String[] bad = {"@", "vow 1;@", "wires 8;switch z 0 7 changed;vow 10;", switches(11), times(901, " ")};
        // Sentences with faults of the same kinds, which leave all else as it was.
        String[] alike = {"@", "@", "on 9", times(8, "not ") + "used", "@"};
        for (int i = 0; i < bad.length; i++) {
            SistersBoard x = lived();
            SistersBoard y = lived();
            due.is("fault of " + bad[i], Due.text(x, bad[i]).board() < 0, true);
            due.is("fault of the twin", Due.text(y, alike[i]).sentence() < 0, true);
            due.is("names", Due.text(x, "turn b;").book(0), 0);
            due.is("names of the twin", Due.text(y, "turn b;").book(0), 0);
            Looks.alike(due, "behind " + bad[i], x, y);
        }
    }

    /** Call 0 to 1 by a, b jammed, three hours: three acts, and a sentence. */
    private static SistersBoard lived() {
        SistersBoard x = Due.boardOf(BASE + "vow 2;");
        x.call(0, 1, 9, 0);
        x.jam(1);
        x.hours(3);
        Due.text(x, "changed").sentence();
        return x;
    }

    private void tapeIsEmptyThen() {
        due.by(4, "The tape (empty then, here and below) is the BOARD now");
        SistersBoard x = new SistersBoard();
        String[] texts = {"vow 1;", "@", times(940, " ")};
        for (String text : texts) {
            Due.text(x, text).board();
            due.is("behind board " + text.trim(), x.count(4), 0);
            Due.text(x, text).book(0);
            due.is("behind book " + text.trim(), x.count(4), 0);
            Due.text(x, text).book(1);
            due.is("behind book " + text.trim(), x.count(4), 0);
            Due.text(x, text).sentence();
            due.is("behind sentence " + text.trim(), x.count(4), 0);
            Due.text(x, text).sets();
            due.is("behind sets", x.count(4), 0);
            Due.text(x, text).faulty();
            due.is("behind faulty", x.count(4), 0);
        }
        Due.text(x, "used").sentence();
        due.is("behind a good sentence", x.count(4), 0);
        Due.text(x, "hour 1;").book(1);
        due.is("behind a good book", x.count(4), 0);
        Due.put(x, 255, 255, 255, 255);
        due.is("sets", x.sets(), 1);
        due.is("behind sets above 0", x.count(4), 0);
        Due.put(x, 0, 0);
        due.is("faulty", x.faulty(), 1024);
        due.is("behind faulty above 0", x.count(4), 0);
        // The bytes that end() took away are no part of it.
        Due.text(x, "vow 3;@@@@");
        x.end(6);
        due.is("the first bytes alone", x.board(), 1);
    }

    private void newBoard() {
        due.by(4, "A new BOARD: HOUR 0, no calls, nothing JAMMED, no SENTENCE.");
        SistersBoard x = lived();
        due.is("board", Due.text(x, "wires 3;switch b 1 2 changed;").board(), 2);
        int[] due8 = {0, 1, 0, 0, 0, 0, 0, 0};
        for (int what = 0; what < 8; what++) {
            due.is("now " + what, x.now(what), due8[what]);
        }
        due.is("no sentence", x.said(-1), -1);
        due.is("no turns", x.lever(0, 5), 0);
        due.is("not jammed", x.lever(0, 3), 0);
        due.is("no call", x.line(0, 0), -1);
        due.is("vow without", x.count(3), 1);
        due.is("no sisters", x.count(2), 0);
        due.is("nothing of another board is undone", x.undo(), -1);
        SistersBoard w = Due.boardOf("wires 3;switch a 0 1;switch b 1 2;switch c 0 1;");
        w.call(0, 1, 9, 0);
        w.call(2, 0, 9, 1);
        due.is("a shift", w.now(6), 1);
        due.is("board", Due.text(w, "wires 2;").board(), 1);
        due.is("no shifts so far", w.now(6), 0);
        SistersBoard y = lived();
        due.is("an empty text is a board, too", y.board(), 0);
        due.is("its wires", y.count(0), 4);
        due.is("its hour", y.now(0), 0);
        due.is("no sentence", y.said(-1), -1);
        SistersBoard z = lived();
        due.is("the same board again", Due.text(z, BASE + "vow 2;").board(), 5);
        Looks.alike(due, "a board again is as at first", z, Due.boardOf(BASE + "vow 2;"));
    }

    private void faultsTold() {
        due.by(5, "The kind of the FAULT of the latest board(), book() or sentence()");
        SistersBoard x = Due.boardOf(BASE);
        Due.text(x, "wires 9;").board();
        due.is("board", x.fault(), 2);
        Due.text(x, "turn z;").book(1);
        due.is("book", x.fault(), 3);
        Due.text(x, times(9, "(")).sentence();
        due.is("sentence", x.fault(), 4);
        Due.text(x, "(").sentence();
        due.is("sentence", x.fault(), 1);
        x.feed(0, 0, 0, 0, 0);
        x.end(0);
        x.call(0, 0, 1, 0);
        x.undo();
        x.sets();
        x.faulty();
        x.image(0);
        x.restore(0);
        due.is("other calls leave it", x.fault(), 1);
        due.by(5, "0 without one and ahead of any.");
        due.is("ahead of any", new SistersBoard().fault(), 0);
        Due.text(x, "used").sentence();
        due.is("a sentence without one", x.fault(), 0);
        Due.text(x, "@").board();
        Due.text(x, "end 0;").book(0);
        due.is("a book without one, though it is wrong", x.fault(), 0);
        Due.text(x, "@").board();
        Due.text(x, "hour 1;").book(1);
        due.is("a book without one", x.fault(), 0);
        Due.text(x, "@").sentence();
        x.board();
        due.is("a board without one", x.fault(), 0);
    }

    private void faultLeft() {
        due.by(5, "(a book() of -1000 leaves it)");
        SistersBoard x = Due.boardOf(BASE);
        due.is("none", x.book(2), -1000);
        due.is("none is left", x.fault(), 0);
        Due.text(x, "wires 9;").board();
        Due.text(x, "turn z;");
        due.is("other lives", x.book(2), -1000);
        due.is("it is left", x.fault(), 2);
        due.is("the tape is left, too", x.book(1), -2 - 5);
        due.is("another now", x.fault(), 3);
    }

    private void bookFaults() {
        due.by(33, "-2 less the place of a FAULT");
        book("@", -2, 1);
        book("hour 61;", -7, 2);
        book(times(401, " "), -402, 1);
        int[] lives = {0, 1};
        for (int l : lives) {
            SistersBoard x = lived();
            SistersBoard y = lived();
            due.is("a fault behind good lines", Due.text(x, "hour 5;end 0;hour 99;").book(l), -2 - 18);
            due.is("no line was lived", x.now(0), 3);
            due.is("told stays as it was", x.told(0), -1);
            // The twin's fault is of the same kind, so that they look alike.
            Due.text(y, "hour 99;").book(l);
            Looks.alike(due, "a book with a fault, lives " + l, x, y);
        }
    }

    private void sentenceAnswers() {
        due.by(35, "how many ONES (each not, bracket and other one)");
        sentence("used", 1, 0);
        sentence("on 1", 1, 0);
        sentence("calls<1", 1, 0);
        sentence("by ada", 1, 0);
        sentence("not used", 2, 0);
        sentence("(used)", 2, 0);
        sentence("not(used)", 3, 0);
        sentence("(used and used)or used", 4, 0);
        sentence("used and used", 2, 0);
        due.by(35, "-1 less the place of a FAULT: it stays.");
        sentence("@", -1, 1);
        sentence(times(201, " "), -201, 1);
        sentence(upTo(201, "on 9"), -201, 1);
        sentence(upTo(200, "on 9"), -200, 2);
    }

    private void sentenceStays() {
        due.by(35, "The tape is the SENTENCE now");
        SistersBoard x = lived();
        due.is("said", x.said(-1), 1);
        due.is("which", x.said(0), 0);
        due.is("a new one", Due.text(x, "jammed").sentence(), 1);
        due.is("which", x.said(0), 1);
        String[] bad = {"", "@", "used or not", "used and by eva", times(9, "not ") + "used", times(201, " ")};
        for (String text : bad) {
            due.is("a fault", Due.text(x, text).sentence() < 0, true);
            due.is("it stays: how many", x.said(-1), 1);
            due.is("it stays: which", x.said(0), 1);
        }
        // Nothing of an earlier, longer one is said.
        String[] longer = {"not used", "used or used or used", "not not not not used and not on 1"};
        for (String text : longer) {
            due.is(text, Due.text(x, text).sentence() > 1, true);
            due.is("a shorter one", Due.text(x, "changed").sentence(), 1);
            due.is("how many", x.said(-1), 1);
            due.is("which", x.said(0), 0);
        }
        SistersBoard y = Due.boardOf(BASE);
        due.is("a fault ahead of any", Due.text(y, "used and").sentence(), -9);
        due.is("there is none", y.said(-1), -1);
    }
}
