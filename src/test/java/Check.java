import java.io.IOException;
import java.io.UncheckedIOException;
import java.nio.file.Files;
import java.nio.file.Path;

/** Counts answers that are not as due; the tests of this project end with {@link #end}. */
final class Check {
    private static final Path DOCUMENT = Path.of("../shared/DOC.md");

    private static int answers = 0;
    private static int wrong = 0;
    private static String sentence = "";
    private static String document = null;

    private Check() {
    }

    static void is(String what, long got, long want) {
        answers++;
        if (got != want) {
            wrong++;
            System.out.println(sentence + what + " answered " + got + ", due is " + want);
        }
    }

    static void that(String what, boolean holds) {
        is(what, holds ? 1 : 0, 1);
    }

    /** Names the sentence of the document that the answers from here on are held against. */
    static void sentence(String words) {
        sentence = "";
        that("the document says: " + words, document().isEmpty() || document().contains(words));
        sentence = "[" + words + "] ";
    }

    private static String document() {
        if (document == null) {
            document = Files.exists(DOCUMENT) ? plain(read(DOCUMENT)) : "";
        }
        return document;
    }

    private static String read(Path path) {
        try {
            return Files.readString(path);
        } catch (IOException e) {
            throw new UncheckedIOException(e);
        }
    }

    private static String plain(String text) {
        return text.replace("&lt;", "<").replace("&amp;", "&").replaceAll("\\s+", " ");
    }

    /** Feeds a text of any length to the tape, four bytes a call. */
    static void feed(OpenFields x, String text) {
        for (int i = 0; i < text.length(); i += 4) {
            int n = Math.min(4, text.length() - i);
            int v = 0;
            for (int k = 0; k < n; k++) {
                v |= (text.charAt(i + k) & 255) << (8 * k);
            }
            x.feed(n, v);
        }
    }

    /** Makes a text a by-law from now on. */
    static void enact(OpenFields x, int kind, String text) {
        x.clear();
        feed(x, text);
        is("make of " + text, x.make(kind, x.count(2)), 0);
    }

    /** What the text gives as OPEN for strip 0. */
    static void gives(OpenFields x, String text, int want) {
        enact(x, 0, text);
        is(text, x.law(0, 0, 0), want);
    }

    /** The answer of make for a text with a fault at a place; the tape keeps it until cleared. */
    static void fault(OpenFields x, String text, int place) {
        x.clear();
        feed(x, text);
        is("fault of " + text, x.make(0, x.count(2)), -10 * (place + 1));
        is("tape behind the fault of " + text, x.count(3), text.length());
        x.clear();
    }

    static void end() {
        System.out.println(answers + " answers, " + wrong + " wrong");
        if (wrong != 0) {
            System.exit(1);
        }
    }
}
