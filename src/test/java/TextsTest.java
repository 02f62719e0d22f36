/** The texts of boards, books and sentences: what is read, and the first fault, its place and its kind. */
public final class TextsTest {
    private static final Due due = new Due("TextsTest");
    private static final String BASE = "wires 3;switch a 0 1;switch b 1 2;sister ada b;";

    public static void main(String[] args) {
        tokens();
        boardLines();
        boardNumbers();
        boardNames();
        boardLimits();
        longTexts();
        bookLines();
        bookLimits();
        sentenceFaults();
        sentenceLimits();
        due.close();
    }

    private static void boardIs(String text, int answer, int kind) {
        SistersBoard x = new SistersBoard();
        due.is("board " + text, Due.text(x, text).board(), answer);
        due.is("kind of board " + text, x.fault(), kind);
    }

    private static void boardFails(String text, int place, int kind) {
        boardIs(text, -1 - place, kind);
    }

    private static void bookIs(String text, int answer, int kind) {
        SistersBoard x = Due.boardOf(BASE);
        due.is("book " + text, Due.text(x, text).book(0), answer);
        due.is("kind of book " + text, x.fault(), kind);
    }

    private static void bookFails(String text, int place, int kind) {
        bookIs(text, -2 - place, kind);
    }

    private static void sentenceIs(String text, int answer, int kind) {
        SistersBoard x = Due.boardOf(BASE);
        due.is("sentence " + text, Due.text(x, text).sentence(), answer);
        due.is("kind of sentence " + text, x.fault(), kind);
    }

    private static void sentenceFails(String text, int place, int kind) {
        sentenceIs(text, -1 - place, kind);
    }

    private static void tokens() {
        boardIs("", 0, 0);
        boardIs(" \n ", 0, 0);
        boardIs("vow\n\n 3 ;\n", 1, 0);
        boardIs("vow 003;", 1, 0);
        boardFails("vow 0003;", 4, 1);
        boardFails("vow3;", 0, 1);
        boardFails("vow 3a;", 4, 1);
        boardFails("vow\t3;", 3, 1);
        boardFails("vow\r\n3;", 3, 1);
        boardFails("Vow 3;", 0, 1);
        boardFails("vow 3.", 5, 1);
        boardFails("vow -3;", 4, 1);
        boardFails("vow 3;" + (char) 0, 6, 1);
        boardFails("vow 3;" + (char) 255, 6, 1);
        boardFails("vow 3;" + (char) 160, 6, 1);
        boardIs("switch abcdefg 0 1;", 1, 0);
        boardIs("switch z 0 1;switch za 0 1;sister az z;", 3, 0);
        boardFails("switch abcdefgh 0 1;", 7, 1);
        boardFails("switch a{ 0 1;", 8, 1);
        boardFails("switch ` 0 1;", 7, 1);
        boardFails("switch a / 1;", 9, 1);
        boardFails("switch a : 1;", 9, 1);
        boardFails("switch zz9 0 1;", 7, 1);
        boardFails("switch abcdefghijklmnopqrstuvwxyzabcdefghijklmnopqrstuvwxyz 0 1;", 7, 1);
        boardFails("vow 99999999999999999999;", 4, 1);
    }

    private static void boardLines() {
        boardFails(";", 0, 1);
        boardFails("vow 3;;", 6, 1);
        boardFails("vow 3", 5, 1);
        boardFails("vow 3  ", 7, 1);
        boardFails("vow", 3, 1);
        boardFails("vow ;", 4, 1);
        boardFails("vow vow;", 4, 1);
        boardFails("vow 3 4;", 6, 1);
        boardFails("vow 3 vow 4;", 6, 1);
        boardFails("3;", 0, 1);
        boardFails("hour 3;", 0, 1);
        boardFails("changed;", 0, 1);
        boardFails("name 3;", 0, 1);
        boardFails("( vow 3;", 0, 1);
        boardFails("vow = 3;", 4, 1);
        boardFails("switch a 0;", 10, 1);
        boardFails("switch a b 0 1;", 9, 1);
        boardFails("switch 0 1;", 7, 1);
        boardFails("switch a 0 1 changed changed;", 21, 1);
        boardFails("switch a 0 1 straight;", 13, 1);
        boardFails("switch a 0 1 jammed;", 13, 1);
        boardFails("switch a 0 1 2;", 13, 1);
        boardFails("sister a;", 8, 1);
        boardFails(BASE + "sister eva a b;", BASE.length() + 13, 1);
        boardIs("switch a 0 1changed;", -1 - 11, 1);
        boardIs("switch a 0 1 changed;sister b a;sister c a;vow 0;", 4, 0);
    }

    private static void boardNumbers() {
        boardFails("wires 1;", 6, 2);
        boardFails("wires 9;", 6, 2);
        boardIs("wires 2;", 1, 0);
        boardIs("wires 8;", 1, 0);
        boardFails("vow 10;", 4, 2);
        boardIs("vow 9;", 1, 0);
        boardIs("vow 0;", 1, 0);
        boardFails("switch a 4 3;", 9, 2);
        boardFails("switch a 0 4;", 11, 2);
        boardIs("switch a 0 3;", 1, 0);
        boardFails("switch a 3 3;", 11, 2);
        boardFails("switch a 3 4;", 11, 2);
        boardFails("switch a 1 1;", 11, 2);
        boardFails("switch a 2 1;", 11, 2);
        boardFails("wires 2;switch a 0 2;", 19, 2);
        boardIs("wires 8;switch a 6 7;", 2, 0);
        boardFails("wires 9 9;", 6, 2);
        boardFails("vow 10 @", 4, 2);
    }

    private static void boardNames() {
        String[] told = {"wires", "switch", "changed", "sister", "vow", "call", "strict", "shift", "end", "turn", "jam",
            "free", "hour", "or", "and", "not", "jammed", "used", "by", "on", "calls", "turns", "number"};
        for (String word : told) {
            boardFails("switch " + word + " 0 1;", 7, 1);
            boardFails("switch a 0 1;sister " + word + " a;", 20, 1);
            boardFails("switch a 0 1;sister b " + word + ";", 22, 1);
        }
        boardIs("switch wire 0 1;switch callss 0 1;switch o 0 1;switch straigh 0 1;", 4, 0);
        boardFails("switch a 0 1;switch a 1 2;", 20, 3);
        boardFails("switch a 0 1;sister a a;", 20, 3);
        boardFails("switch a 0 1;sister b a;sister b a;", 31, 3);
        boardFails("switch a 0 1;sister b a;switch b 0 1;", 31, 3);
        boardFails("sister b a;", 9, 3);
        boardFails("sister b a;switch a 0 1;", 9, 3);
        boardFails("switch a 0 1;sister b b;", 22, 3);
        boardFails("switch a 0 1;sister b a;sister c b;", 33, 3);
        boardFails("wires 4;wires 4;", 8, 3);
        boardFails("wires 4;wires;", 8, 3);
        boardFails("vow 1;vow 1;", 6, 3);
        boardFails("switch a 0 1;wires 4;", 13, 3);
        boardIs("vow 1;wires 5;switch a 3 4;", 3, 0);
        boardFails("switch a 0 1;switch a 9 9;", 20, 3);
    }

    private static void boardLimits() {
        StringBuilder ten = new StringBuilder();
        for (char c = 'a'; c < 'k'; c++) {
            ten.append("switch ").append(c).append(" 0 1;");
        }
        boardIs(ten.toString(), 10, 0);
        boardFails(ten + "switch k 0 1;", ten.length(), 4);
        boardFails(ten + "  switch", ten.length() + 2, 4);
        StringBuilder five = new StringBuilder(ten);
        for (char c = 'p'; c < 'u'; c++) {
            five.append("sister ").append(c).append(" a;");
        }
        boardIs(five.toString(), 15, 0);
        boardFails(five + "sister z a;", five.length(), 4);
        boardIs(five + "vow 3;", 16, 0);
    }

    private static String padded(String text, int length) {
        StringBuilder b = new StringBuilder();
        for (int i = text.length(); i < length; i++) {
            b.append(' ');
        }
        return b.append(text).toString();
    }

    private static void longTexts() {
        boardIs(padded("vow 3;", 900), 1, 0);
        boardFails(padded("vow 3;", 901), 900, 1);
        boardFails(padded("vow 3", 901), 900, 1);
        boardFails(padded("", 901), 900, 1);
        boardIs(padded("", 900), 0, 0);
        boardFails(padded("vow 3;", 906), 900, 1);
        boardFails(padded("vow 3;", 905), 900, 1);
        // A token that begins ahead of 900 is read whole: a word of eight letters is none, ten is no vow.
        boardFails(padded("abcdefgh", 907), 899, 1);
        boardFails(padded("vow 10;", 902), 899, 2);
        boardFails(padded("vow 10;", 903), 900, 1);
        boardFails(padded("vow 1;wires", 904), 900, 1);
        boardFails(padded("vow 1;vow", 902), 899, 3);
        boardFails(padded("vow 1;vow", 903), 900, 1);
        boardFails(padded("vow 1;@", 940), 900, 1);
        boardFails("@" + padded("vow 1;", 930), 0, 1);
        bookIs(padded("hour 1;", 400), -1, 0);
        bookFails(padded("hour 1;", 401), 400, 1);
        bookFails(padded("hour 61;", 402), 399, 2);
        bookFails(padded("hour 61;", 403), 400, 1);
        bookFails(padded("turn xyz;", 401), 397, 3);
        sentenceIs(padded("used", 200), 1, 0);
        sentenceFails(padded("used", 201), 200, 1);
        sentenceFails(padded("used", 203), 200, 1);
        sentenceFails(padded("useds", 204), 199, 1);
        sentenceFails(padded("used", 204), 200, 1);
        sentenceFails("used" + padded("", 196) + "\n", 200, 1);
    }

    private static void bookLines() {
        bookIs("call 0 0 1 strict;end 0;turn a;jam a;free a;hour 1;", -1, 0);
        bookIs("", -1, 0);
        bookFails(";", 0, 1);
        bookFails("hour 1", 6, 1);
        bookFails("hour;", 4, 1);
        bookFails("hour a;", 5, 1);
        bookFails("hour 0;", 5, 2);
        bookFails("hour 61;", 5, 2);
        bookIs("hour 60;", -1, 0);
        bookFails("call 8 0 1 strict;", 5, 2);
        bookFails("call 0 8 1 strict;", 7, 2);
        bookFails("call 0 0 0 strict;", 9, 2);
        bookFails("call 0 0 31 strict;", 9, 2);
        bookIs("call 0 0 30 shift;", -1, 0);
        bookIs("call 7 0 30 shift;", 0, 0);
        bookFails("call 0 0 1;", 10, 1);
        bookFails("call 0 0 1 0;", 11, 1);
        bookFails("call 0 0 1 a;", 11, 1);
        bookFails("call 0 0 1 turn;", 11, 1);
        bookFails("call 0 0 strict;", 9, 1);
        bookFails("end 8;", 4, 2);
        bookIs("end 7;", 0, 0);
        bookFails("end a;", 4, 1);
        bookFails("turn c;", 5, 3);
        bookFails("turn ada;", 5, 3);
        bookFails("jam eva;", 4, 3);
        bookFails("free ada;", 5, 3);
        bookFails("turn 0;", 5, 1);
        bookFails("turn jam;", 5, 1);
        bookFails("turn;", 4, 1);
        bookFails("wires 3;", 0, 1);
        bookFails("strict;", 0, 1);
        bookFails("a;", 0, 1);
        bookFails("hour 1;hour 2;hour 3 3;", 21, 1);
        // A fault anywhere leaves all lines unlived.
        SistersBoard x = Due.boardOf(BASE);
        due.is("a fault behind", Due.text(x, "hour 1;hour 99;").book(1), -2 - 12);
        due.is("nothing was lived", x.now(0), 0);
    }

    private static void bookLimits() {
        StringBuilder forty = new StringBuilder();
        for (int i = 0; i < 40; i++) {
            forty.append("hour 1;");
        }
        bookIs(forty.toString(), -1, 0);
        bookFails(forty + "hour 1;", 280, 4);
        bookFails(forty + " hour 99;", 281, 4);
        bookFails(forty + "a;", 280, 1);
        bookFails(forty + ";", 280, 1);
        bookFails(forty + "strict", 280, 1);
        bookIs(forty + " \n", -1, 0);
    }

    private static void sentenceFaults() {
        sentenceFails("", 0, 1);
        sentenceFails("  ", 2, 1);
        sentenceFails("and", 0, 1);
        sentenceFails("used used", 5, 1);
        sentenceFails("used;", 4, 1);
        sentenceFails("used and", 8, 1);
        sentenceFails("used or or used", 8, 1);
        sentenceFails("not", 3, 1);
        sentenceFails("not and", 4, 1);
        sentenceFails("(used", 5, 1);
        sentenceFails("()", 1, 1);
        sentenceFails("(used))", 6, 1);
        sentenceFails("used)", 4, 1);
        sentenceFails("ada", 0, 1);
        sentenceFails("7", 0, 1);
        sentenceFails("= 7", 0, 1);
        sentenceFails("by", 2, 1);
        sentenceFails("by a", 3, 3);
        sentenceFails("by eva", 3, 3);
        sentenceFails("by used", 3, 1);
        sentenceFails("by 0", 3, 1);
        sentenceIs("by ada", 1, 0);
        sentenceFails("on 8", 3, 2);
        sentenceIs("on 7", 1, 0);
        sentenceFails("on a", 3, 1);
        sentenceFails("on", 2, 1);
        sentenceFails("calls", 5, 1);
        sentenceFails("calls 3", 6, 1);
        sentenceFails("calls <", 7, 1);
        sentenceFails("calls < = 3", 8, 1);
        sentenceFails("calls <a", 7, 1);
        sentenceFails("calls ; 3", 6, 1);
        sentenceFails("turns<1000", 6, 1);
        sentenceIs("turns<999", 1, 0);
        sentenceIs("number>000", 1, 0);
        sentenceFails("switch", 0, 1);
        sentenceFails("number = 3 4", 11, 1);
        sentenceFails("changed = 1", 8, 1);
        sentenceFails("jammed!", 6, 1);
        sentenceIs("not(not(used)and(on 3or used))", -1 - 20, 1);
        sentenceIs("not(not(used)and(on 3 or used))", 8, 0);
    }

    private static void sentenceLimits() {
        StringBuilder twenty = new StringBuilder("used");
        for (int i = 1; i < 20; i++) {
            twenty.append(i % 2 == 0 ? " or used" : " or on 1");
        }
        sentenceIs(twenty.toString(), 20, 0);
        sentenceFails(twenty + " or used", twenty.length() + 4, 4);
        sentenceFails(twenty + " or ada", twenty.length() + 4, 1);
        sentenceFails(twenty + " or (", twenty.length() + 4, 4);
        sentenceFails(twenty + " or", twenty.length() + 3, 1);
        sentenceIs("not not not not not not not used", 8, 0);
        sentenceFails("not not not not not not not not used", 32, 4);
        sentenceFails("not not not not not not not not (used)", 32, 4);
        sentenceFails("not not not not not not not not ada", 32, 1);
        sentenceIs("(((((((used)))))))", 8, 0);
        sentenceFails("((((((((used))))))))", 8, 4);
        sentenceFails("(((((((((used)))))))))", 8, 4);
        sentenceIs("(((((((used or on 1 and not(((used)))))))))) ", -1 - 27, 4);
        sentenceIs("((not((used))and not((used or used)))or(used))", 13, 0);
    }
}
