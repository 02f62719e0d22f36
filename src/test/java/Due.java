import java.io.IOException;
import java.nio.file.Files;
import java.nio.file.Path;
import java.util.ArrayList;
import java.util.List;

/** What the tests share: a count of answers that are not as due, and texts put on a board's tape. */
final class Due {
    private static final Path DOCUMENT = Path.of("../shared/DOC.md");

    private final String test;
    private final List<String> sentences = new ArrayList<>();
    private final List<Integer> promises = new ArrayList<>();
    private String heading = "";
    private int right;
    private int wrong;

    Due(String test) {
        this.test = test;
    }

    /** The answers behind this are due by a sentence of the document, which is told in its own words. */
    void by(int promise, String sentence) {
        promises.add(promise);
        sentences.add(sentence);
        heading = "P" + promise + " \"" + sentence + "\": ";
    }

    void is(String what, long got, long want) {
        if (got == want) {
            right++;
            return;
        }
        wrong++;
        if (wrong <= 40) {
            System.out.println(test + ": " + heading + what + " answered " + got + ", due is " + want);
        }
    }

    void is(String what, boolean got, boolean want) {
        is(what, got ? 1 : 0, want ? 1 : 0);
    }

    void close() {
        System.out.println(test + ": " + right + " answers as due, " + wrong + " not"
            + (sentences.isEmpty() ? "" : ", by " + sentences.size() + " sentences"));
        if (wrong > 0) {
            System.exit(1);
        }
    }

    /** Each sentence that answers are due by stands in the document, and each promise has one. */
    void quotesStand(int lastPromise) throws IOException {
        heading = "";
        for (int p = 1; p <= lastPromise; p++) {
            is("promise " + p + " has a sentence", promises.contains(p), true);
        }
        if (!Files.isReadable(DOCUMENT)) {
            System.out.println(test + ": " + DOCUMENT + " is not here, so no sentence was looked up");
            return;
        }
        String document = Files.readString(DOCUMENT).replaceAll("\\s+", " ");
        for (String sentence : sentences) {
            is("the document says: " + sentence, document.contains(sentence), true);
        }
    }

    static int[] bytesOf(String text) {
        int[] bytes = new int[text.length()];
        for (int i = 0; i < bytes.length; i++) {
            bytes[i] = text.charAt(i) & 255;
        }
        return bytes;
    }

    /** Five ints for feed: twenty bytes from a place on, zeros behind the end. */
    static int[] twenty(int[] bytes, int from) {
        int[] five = new int[5];
        for (int i = 0; i < 20; i++) {
            int b = from + i < bytes.length ? bytes[from + i] & 255 : 0;
            five[i / 4] |= b << (24 - 8 * (i % 4));
        }
        return five;
    }

    /** Puts bytes on an empty tape. */
    static SistersBoard put(SistersBoard x, int... bytes) {
        for (int from = 0; from < bytes.length; from += 20) {
            int[] f = twenty(bytes, from);
            x.feed(f[0], f[1], f[2], f[3], f[4]);
        }
        x.end(bytes.length);
        return x;
    }

    static SistersBoard text(SistersBoard x, String text) {
        return put(x, bytesOf(text));
    }

    static SistersBoard boardOf(String text) {
        SistersBoard x = new SistersBoard();
        if (text(x, text).board() < 0) {
            throw new IllegalArgumentException("a test's board has a fault: " + text);
        }
        return x;
    }
}
