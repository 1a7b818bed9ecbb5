import java.nio.charset.StandardCharsets;

/** Puts texts onto the tape as feed() and end() want them, and lets them be read. */
final class Texts {
    private static final int FEED_BYTES = 20;

    private Texts() {
    }

    /** The five ints of feed() for the text's bytes from a place on, filled up with zeros. */
    static int[] fiveFrom(String text, int place) {
        byte[] bytes = text.getBytes(StandardCharsets.ISO_8859_1);
        int[] five = new int[5];
        for (int j = 0; j < FEED_BYTES; j++) {
            int b = place + j < bytes.length ? bytes[place + j] & 255 : 0;
            five[j / 4] = five[j / 4] << 8 | b;
        }
        return five;
    }

    static void tape(BellTable x, String text) {
        x.end(0);
        for (int i = 0; i < text.length(); i += FEED_BYTES) {
            int[] five = fiveFrom(text, i);
            x.feed(five[0], five[1], five[2], five[3], five[4]);
        }
        if (x.end(text.length()) != text.length()) {
            throw new IllegalStateException("the tape does not take " + text);
        }
    }

    static int score(BellTable x, String text) {
        tape(x, text);
        return x.score();
    }

    static int manners(BellTable x, String text) {
        tape(x, text);
        return x.manners();
    }

    static int heard(BellTable x, String text) {
        tape(x, text);
        return x.heard();
    }

    /** So many STROKES, 40 a beat, from beat 0 and BELL 0 on. */
    static String many(int n) {
        StringBuilder s = new StringBuilder();
        for (int i = 0; i < n; i++) {
            if (i % 40 == 0) {
                s.append(i == 0 ? "at " : ";at ").append(i / 40);
            }
            s.append(' ').append(i % 40);
        }
        return s.append(";").toString();
    }
}
