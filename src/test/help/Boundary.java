import java.io.IOException;
import java.nio.file.Files;
import java.nio.file.Path;
import java.util.TreeSet;

/**
 * What the tests of boundary cases share. Each test stands under a sentence of the document, which is quoted and
 * looked up in its section there, so that what fails says which sentence is broken.
 */
abstract class Boundary {
    static final int NONE = -1;
    static final int RANGE = -2;
    static final int FULL = -3;
    static final int STATE = -4;

    static final int SYNTAX = 1;
    static final int BOUNDS = 2;
    static final int TWICE = 3;
    static final int ROOM = 4;

    /** Empty where there is none: then the answers are tested all the same, but no sentence is looked up. */
    private static final String DOCUMENT = folded(read(Path.of("../shared/DOC.md")));

    private static final TreeSet<Integer> PROMISES = new TreeSet<>();

    private static String words = "";
    private static int sentences = 0;
    private static int answersOfSentence = 0;
    private static int wrong = 0;

    /** All that is due behind this call, up to the next sentence, tests these words, which stand ahead of promise 1. */
    static void terms(String quoted) {
        openSentence(quoted, from("# BellTable", "## Promise 1:"));
    }

    /** All that is due behind this call, up to the next sentence, tests these words of that promise. */
    static void promise(int number, String quoted) {
        openSentence(quoted, from("## Promise " + number + ":", "## "));
        PROMISES.add(number);
    }

    static void due(String call, long got, long want) {
        answersOfSentence++;
        if (got != want) {
            tellWrong(call + " answered " + got + ", due is " + want);
        }
    }

    /** The nearest and the farthest numbers that are not from the least to the greatest. */
    static int[] outside(int least, int greatest) {
        return new int[] {Integer.MIN_VALUE, least - 1, greatest + 1, Integer.MAX_VALUE};
    }

    static BellTable withScore(String text) {
        BellTable x = new BellTable();
        if (Texts.score(x, text) < 0) {
            tellWrong("the score has a fault: " + text);
        }
        return x;
    }

    static BellTable withScore(String text, String manners) {
        BellTable x = withScore(text);
        if (Texts.manners(x, manners) < 0) {
            tellWrong("the manners have a fault: " + manners);
        }
        return x;
    }

    /** A table with a PARTING: by part(), then by hand, as pairs of a BELL and its RINGER. */
    static BellTable withParting(String text, int ringers, int... given) {
        BellTable x = withScore(text);
        x.ringers(ringers);
        if (x.part() < 0) {
            tellWrong("there is no parting of " + text);
        }
        for (int i = 0; i + 1 < given.length; i += 2) {
            if (x.give(given[i], given[i + 1]) < 0) {
                tellWrong("cannot give " + given[i] + " to " + given[i + 1]);
            }
        }
        return x;
    }

    /** Ends with exit code 1 if an answer was wrong, or if one of these promises has no sentence here. */
    static void finish(int firstPromise, int lastPromise) {
        closeSentence();
        for (int number = firstPromise; number <= lastPromise; number++) {
            if (!PROMISES.contains(number)) {
                tellWrong("and no sentence of promise " + number);
            }
        }
        System.out.println(sentences + " sentences, " + (wrong == 0 ? "all as due" : wrong + " answers not as due"));
        if (wrong != 0) {
            System.exit(1);
        }
    }

    private static void openSentence(String quoted, String section) {
        closeSentence();
        words = quoted;
        sentences++;
        if (!DOCUMENT.isEmpty() && !section.contains(folded(quoted))) {
            tellWrong("is not in the document, or not there");
        }
    }

    private static void closeSentence() {
        if (!words.isEmpty() && answersOfSentence == 0) {
            tellWrong("has no test");
        }
        words = "";
        answersOfSentence = 0;
    }

    private static void tellWrong(String what) {
        wrong++;
        System.out.println("\"" + words + "\": " + what);
    }

    /** What the document has from a heading on up to what comes next; nothing without that heading. */
    private static String from(String heading, String next) {
        int start = DOCUMENT.indexOf(heading);
        if (start < 0) {
            return "";
        }
        int end = DOCUMENT.indexOf(next, start + heading.length());
        return DOCUMENT.substring(start, end < 0 ? DOCUMENT.length() : end);
    }

    private static String read(Path path) {
        try {
            return Files.readString(path);
        } catch (IOException e) {
            System.out.println("no document at " + path + ": the sentences are not looked up");
            return "";
        }
    }

    private static String folded(String text) {
        return text.replaceAll("\\s+", " ");
    }
}
