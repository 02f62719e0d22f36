import java.io.IOException;
import java.nio.file.Files;
import java.nio.file.Path;
import java.util.ArrayList;
import java.util.Arrays;
import java.util.List;
import java.util.regex.Matcher;
import java.util.regex.Pattern;

/** What the tests share: a count of answers that are not as due, and texts put on a board's tape. */
final class Due {
    private static final Path DOCUMENT = Path.of("../shared/DOC.md");
    private static final Pattern HEADINGS = Pattern.compile("## Terms|## Promise \\d+: [A-Za-z ]+ `[^`]*`|```(text)?|==== [23]\\.");

    private final String test;
    private final List<String> sentences = new ArrayList<>();
    private final List<Integer> promises = new ArrayList<>();
    private String heading = "";
    private int right;
    private int wrong;

    Due(String test) {
        this.test = test;
    }

    /** The answers behind this are due by a sentence of the document, which is told in its own words. */
    void by(int promise, String sentence) {
        promises.add(promise);
        sentences.add(sentence);
        heading = "P" + promise + " \"" + sentence + "\": ";
    }

    void is(String what, long got, long want) {
        if (got == want) {
            right++;
            return;
        }
        wrong++;
        if (wrong <= 40) {
            System.out.println(test + ": " + heading + what + " answered " + got + ", due is " + want);
        }
    }

    void is(String what, boolean got, boolean want) {
        is(what, got ? 1 : 0, want ? 1 : 0);
    }

    void close() {
        System.out.println(test + ": " + right + " answers as due, " + wrong + " not"
            + (sentences.isEmpty() ? "" : ", by " + sentences.size() + " sentences"));
        if (wrong > 0) {
            System.exit(1);
        }
    }

    /** Each sentence that answers are due by stands in the document, and each promise has one. */
    void quotesStand(int lastPromise) throws IOException {
        heading = "";
        for (int p = 1; p <= lastPromise; p++) {
            is("promise " + p + " has a sentence", promises.contains(p), true);
        }
        String document = document();
        for (String sentence : sentences) {
            is("the document says: " + sentence, document.isEmpty() || document.contains(sentence), true);
        }
    }

    /** The document on one line; empty if it is not here. */
    private String document() throws IOException {
        if (!Files.isReadable(DOCUMENT)) {
            System.out.println(test + ": " + DOCUMENT + " is not here, so no sentence was looked up");
            return "";
        }
        return Files.readString(DOCUMENT).replaceAll("\\s+", " ");
    }

    /** All words of the terms and the promises, but for their headings, stand in a sentence that answers are due by. */
    void quotesCover() throws IOException {
        heading = "";
        String rest = document();
        if (rest.isEmpty()) {
            return;
        }
        int from = rest.indexOf("## Terms");
        int to = rest.indexOf("## Not promised");
        is("the document has terms and promises", from >= 0 && from < to, true);
        boolean[] quoted = new boolean[rest.length()];
        for (String sentence : sentences) {
            for (int at = rest.indexOf(sentence); at >= 0; at = rest.indexOf(sentence, at + 1)) {
                Arrays.fill(quoted, at, at + sentence.length(), true);
            }
        }
        Matcher headings = HEADINGS.matcher(rest);
        while (headings.find()) {
            Arrays.fill(quoted, headings.start(), headings.end(), true);
        }
        StringBuilder words = new StringBuilder();
        for (int at = Math.max(from, 0); at < to; at++) {
            words.append(quoted[at] ? '\n' : rest.charAt(at));
        }
        for (String left : words.toString().split("\n+")) {
            is("answers are due by: " + left, left.matches(".*[A-Za-z0-9].*"), false);
        }
    }

    static int[] bytesOf(String text) {
        int[] bytes = new int[text.length()];
        for (int i = 0; i < bytes.length; i++) {
            bytes[i] = text.charAt(i) & 255;
        }
        return bytes;
    }

    /** Five ints for feed: twenty bytes from a place on, zeros behind the end. */
    static int[] twenty(int[] bytes, int from) {
        int[] five = new int[5];
        for (int i = 0; i < 20; i++) {
            int b = from + i < bytes.length ? bytes[from + i] & 255 : 0;
            five[i / 4] |= b << (24 - 8 * (i % 4));
        }
        return five;
    }

    /** Puts bytes on an empty tape. */
    static SistersBoard put(SistersBoard x, int... bytes) {
        for (int from = 0; from < bytes.length; from += 20) {
            int[] f = twenty(bytes, from);
            x.feed(f[0], f[1], f[2], f[3], f[4]);
        }
        x.end(bytes.length);
        return x;
    }

    static SistersBoard text(SistersBoard x, String text) {
        return put(x, bytesOf(text));
    }

    static SistersBoard boardOf(String text) {
        SistersBoard x = new SistersBoard();
        if (text(x, text).board() < 0) {
            throw new IllegalArgumentException("a test's board has a fault: " + text);
        }
        return x;
    }
}
