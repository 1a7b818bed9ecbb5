import java.io.IOException;
import java.nio.file.Files;
import java.nio.file.Path;

/**
 * What the tests of boundary cases share. Each test stands under a sentence of the document, which is quoted and
 * looked up there, so that what fails says which sentence is broken.
 */
abstract class Boundary {
    static final int NONE = -1;
    static final int RANGE = -2;
    static final int FULL = -3;
    static final int STATE = -4;

    static final int SYNTAX = 1;
    static final int BOUNDS = 2;
    static final int TWICE = 3;
    static final int ROOM = 4;

    private static final Path DOCUMENT = Path.of("../shared/DOC.md");

    private static String document = "";
    private static String words = "";
    private static int sentences = 0;
    private static int answersOfSentence = 0;
    private static int wrong = 0;

    /** All that is due behind this call, up to the next one, tests these words. */
    static void sentence(String quoted) {
        closeSentence();
        words = quoted;
        sentences++;
        if (!document().contains(folded(quoted))) {
            tellWrong("is not in the document");
        }
    }

    static void due(String call, long got, long want) {
        answersOfSentence++;
        if (got != want) {
            tellWrong(call + " answered " + got + ", due is " + want);
        }
    }

    /** The nearest and the farthest numbers that are not from the least to the greatest. */
    static int[] outside(int least, int greatest) {
        return new int[] {Integer.MIN_VALUE, least - 1, greatest + 1, Integer.MAX_VALUE};
    }

    static BellTable withScore(String text) {
        BellTable x = new BellTable();
        if (Texts.score(x, text) < 0) {
            tellWrong("the score has a fault: " + text);
        }
        return x;
    }

    static BellTable withScore(String text, String manners) {
        BellTable x = withScore(text);
        if (Texts.manners(x, manners) < 0) {
            tellWrong("the manners have a fault: " + manners);
        }
        return x;
    }

    /** A table with a PARTING: by part(), then by hand, as pairs of a BELL and its RINGER. */
    static BellTable withParting(String text, int ringers, int... given) {
        BellTable x = withScore(text);
        x.ringers(ringers);
        if (x.part() < 0) {
            tellWrong("there is no parting of " + text);
        }
        for (int i = 0; i + 1 < given.length; i += 2) {
            if (x.give(given[i], given[i + 1]) < 0) {
                tellWrong("cannot give " + given[i] + " to " + given[i + 1]);
            }
        }
        return x;
    }

    static void finish() {
        closeSentence();
        System.out.println(sentences + " sentences, " + (wrong == 0 ? "all as due" : wrong + " answers not as due"));
        if (wrong != 0) {
            System.exit(1);
        }
        sentences = 0;
    }

    private static void closeSentence() {
        if (sentences > 0 && answersOfSentence == 0) {
            tellWrong("has no test");
        }
        answersOfSentence = 0;
    }

    private static void tellWrong(String what) {
        wrong++;
        System.out.println("\"" + words + "\": " + what);
    }

    private static String document() {
        if (document.isEmpty()) {
            try {
                document = folded(Files.readString(DOCUMENT));
            } catch (IOException e) {
                throw new IllegalStateException("no document at " + DOCUMENT, e);
            }
        }
        return document;
    }

    private static String folded(String text) {
        return text.replaceAll("\\s+", " ");
    }
}
