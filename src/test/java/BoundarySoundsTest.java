/** The boundary cases of the document's Terms III and of promises 20 to 26: clashes, damping, what was heard. */
public final class BoundarySoundsTest extends Boundary {
    private static void ends(String score, int k, int want) {
        due("end of " + k + " in " + score, withScore(score).stroke(k, 4), want);
    }

    private static void clashes(String score, int want) {
        due("clashes of " + score, withScore(score).clashes(), want);
    }

    private static void clashRow(BellTable x, int i, int... want) {
        for (int what = 0; what < want.length; what++) {
            due("clash(" + i + ", " + what + ")", x.clash(i, what), want[what]);
        }
    }

    private static void damp(String score, int want, int... lengths) {
        BellTable x = withScore(score);
        due("damp of " + score, x.damp(), want);
        for (int k = 0; k < lengths.length; k++) {
            due("length of " + k + " in " + score, x.stroke(k, 2), lengths[k]);
        }
    }

    private static void heard(String score, String heard, int want) {
        due("heard " + heard + " beside " + score, Texts.heard(withScore(score), heard), want);
    }

    private static BellTable laid(String score, String heard) {
        BellTable x = withScore(score);
        Texts.heard(x, heard);
        return x;
    }

    private static void laidRow(BellTable x, int k, int... want) {
        for (int what = 0; what < want.length; what++) {
            due("laid(" + k + ", " + what + ")", x.laid(k, what), want[what]);
        }
    }

    private static void sounding() {
        terms("a STROKE sounds from its beat on for its LENGTH, but no longer than to the next STROKE of its BELL.");
        ends("at 0 1;", 0, 1);
        ends("at 999 1 for 16;", 0, 1015);
        ends("at 0 1 for 16;at 1 1;", 0, 1);
        ends("at 0 1 for 3;at 2 1;", 0, 2);
        ends("at 0 1 for 3;at 3 1;", 0, 3);
        ends("at 0 1 for 3;at 4 1;", 0, 3);
        ends("at 0 1 for 9;at 2 1 stick;at 5 1;", 0, 2);
        ends("at 0 1 for 9;at 2 1 stick;at 5 1;", 1, 3);
        ends("at 0 1 for 9;at 2 0 2;", 0, 9);
        ends("at 0 0 for 9;at 2 0;", 0, 2);
        ends("at 0 47 for 9;at 2 47;", 0, 2);
    }

    private static void clashing() {
        terms("two STROKES on BELLS next to each other (one apart by number)");
        clashes("at 0 0 1;", 1);
        clashes("at 0 46 47;", 1);
        clashes("at 0 0 2;", 0);
        clashes("at 0 0 47;", 0);
        clashes("at 0 11 23;", 0);
        clashes("at 0 1 for 2;at 1 1;", 0);

        terms("the second one (by number) while the first one sounds (at the same beat, too).");
        clashes("at 5 1 2;", 1);
        clashes("at 5 1 for 3;at 7 2;", 1);
        clashes("at 5 1 for 3;at 8 2;", 0);
        clashes("at 5 2 for 3;at 7 1;", 1);
        clashes("at 5 2 for 3;at 8 1;", 0);
        clashes("at 5 1 for 16;at 6 1;at 7 2;", 0);
        clashes("at 5 1 for 16;at 6 1 2;", 1);
        clashes("at 5 1;at 6 2 for 16;", 0);
        clashes("at 984 0 for 16;at 999 1;", 1);

        promise(20, "How many CLASHES there are.");
        due("no score", new BellTable().clashes(), 0);
        clashes("", 0);
        clashes("at 0 1 2 3;", 2);
        clashes("at 0 1 for 4;at 1 2;at 2 0 2;", 3);
        clashes(Texts.many(160), 4 * 39);

        promise(21, "CLASH i (by the first STROKE, then by the second one)");
        BellTable x = withScore("at 0 2 for 9 5 for 9;at 1 1;at 2 4;at 3 3;");
        clashRow(x, 0, 0, 2);
        clashRow(x, 1, 0, 4);
        clashRow(x, 2, 1, 3);
        BellTable all = withScore(Texts.many(160));
        clashRow(all, 0, 0, 1, 1);
        clashRow(all, 155, 158, 159, 1);

        promise(21, "2: how many beats both sound.");
        clashRow(withScore("at 0 1 for 4;at 1 2 for 2;"), 0, 0, 1, 2);
        clashRow(withScore("at 0 1 for 4;at 1 2 for 3;"), 0, 0, 1, 3);
        clashRow(withScore("at 0 1 for 4;at 1 2 for 9;"), 0, 0, 1, 3);
        clashRow(withScore("at 0 1 for 4;at 3 2 for 9;"), 0, 0, 1, 1);
        clashRow(withScore("at 0 1 for 9;at 1 2 for 9;at 3 2;"), 0, 0, 1, 2);
        clashRow(withScore("at 0 1 for 16 2 for 16;"), 0, 0, 1, 16);

        promise(21, "NONE when there is none such.");
        for (int i : outside(0, 2)) {
            clashRow(x, i, NONE, NONE, NONE);
        }
        for (int what : outside(0, 2)) {
            due("clash(0, " + what + ")", x.clash(0, what), NONE);
        }
        clashRow(all, 156, NONE, NONE, NONE);
        clashRow(new BellTable(), 0, NONE, NONE, NONE);
    }

    private static void damping() {
        terms("cut down to where the earliest of those second ones of its CLASHES begins that begin later "
            + "than itself");
        damp("at 0 5 for 9;at 3 4;at 5 6;", 6, 3, 1, 1);
        damp("at 0 5 for 9;at 3 6;at 5 4;", 6, 3, 1, 1);
        damp("at 0 5 for 16;at 1 6;", 15, 1, 1);
        damp("at 0 5 for 16;at 15 6;", 1, 15, 1);
        damp("at 0 5 for 16;at 16 6;", 0, 16, 1);
        damp("at 0 5 for 9 6 for 9;", 0, 9, 9);
        damp("at 0 5 for 9 6;at 4 4;", 5, 4, 1, 1);
        damp("at 0 5 for 9;at 2 7;at 4 3;", 0, 9, 1, 1);
        damp("at 0 5 for 9;at 2 5 for 9;at 3 6;", 8, 9, 1, 1);
        damp("at 0 5 for 9;at 1 6;at 2 5;", 8, 1, 1, 1);
        damp("at 0 5 for 9;at 2 5 6;", 0, 9, 1, 1);
        damp("at 0 5 for 9;at 2 5;at 2 4;", 0, 9, 1, 1);

        terms("(all as they are ahead of it).");
        damp("at 0 1 for 9;at 1 2 for 9;at 2 3;", 16, 1, 1, 1);
        damp("at 0 3 for 9;at 1 2 for 9;at 2 1 for 9;at 3 2;", 8 + 8 + 8, 1, 1, 1, 1);

        promise(22, "DAMPED: how many beats are cut off in all.");
        due("no score", new BellTable().damp(), 0);
        damp("at 0 1;at 1 2;", 0);
        damp(Texts.many(160), 0);
        BellTable fewer = withScore(Texts.many(160));
        Texts.score(fewer, "at 0 0 for 16;");
        due("of a score that is gone", fewer.damp(), 0);
        BellTable x = withScore("at 0 1 for 4 9 for 5;at 2 2 8;");
        due("of both", x.damp(), 2 + 3);
        due("nothing is left", x.damp(), 0);
        due("ends as it is now", x.stroke(0, 4), 2);
        due("no clash is left", x.clashes(), 0);
        BellTable y = withScore("at 0 1 for 4 5 for 4;at 1 2;at 2 7;");
        due("too long for hands", y.hands(1L << 1 | 1L << 5 | 1L << 7), NONE);
        y.damp();
        due("hands by what is left", y.hands(1L << 1 | 1L << 5 | 1L << 7), 1);
    }

    private static void pairs() {
        terms("if the BELLS are alike and the beats at most 2 apart (as many points)");
        for (int late = -2; late <= 2; late++) {
            heard("at 5 1;", "at " + (5 + late) + " 1;", Math.abs(late));
        }
        heard("at 5 1;", "at 8 1;", 6);
        heard("at 5 1;", "at 2 1;", 6);
        heard("at 0 0;at 999 47;", "at 2 0;at 997 47;", 4);

        terms("or the beats are alike (2 points, if the BELLS aren't);");
        heard("at 5 1;", "at 5 47;", 2);
        heard("at 5 1;", "at 5 2;", 2);
        heard("at 5 1;", "at 6 2;", 6);
        heard("at 5 1;", "at 4 2;", 6);

        terms("a STROKE that is in none is MISSED (3), one that was heard and is in none is MORE (3).");
        heard("at 5 1;", "", 3);
        heard("", "at 5 1;", 3);
        heard("", "", 0);
        due("no score", Texts.heard(new BellTable(), "at 5 1 2;"), 6);
        heard(Texts.many(160), "", 480);
        heard("", Texts.many(160), 480);
        heard(Texts.many(160), Texts.many(160), 0);
        heard("at 0 1;", "at 900 1;", 6);
        BellTable far = withScore(Texts.many(160));
        due("nothing alike", Texts.heard(far, Texts.many(160).replace("at ", "at 50")), 960);
        due("all of them more", far.more(), 160);

        terms("PAIRS go forth in both.");
        heard("at 0 1;at 1 2;", "at 0 2;at 1 1;", 4);
        heard("at 2 1;at 3 2;", "at 1 2;at 4 1;", 8);
        heard("at 0 1 2;", "at 0 2 3;", 4);
    }

    private static void ties() {
        terms("from the begin on, where more than one way is as good: a PAIR, else MISSED, else MORE.");
        BellTable x = laid("at 0 1;at 2 1;", "at 1 1;");
        laidRow(x, 0, 1, 1, 1);
        laidRow(x, 1, 0, 0, NONE);
        BellTable y = laid("at 1 1;", "at 0 1;at 2 1;");
        laidRow(y, 0, 1, -1, 1);
        BellTable z = laid("at 2 1;at 3 2;", "at 1 2;at 4 1;");
        laidRow(z, 0, 0, 0, NONE);
        laidRow(z, 1, 1, -2, 2);
        due("more", z.more(), 1);
        BellTable w = laid("at 0 1 2;", "at 0 3;");
        laidRow(w, 0, 1, 0, 3);
        laidRow(w, 1, 0, 0, NONE);
        BellTable v = laid("at 0 1;", "at 0 2 3;");
        laidRow(v, 0, 1, 0, 2);
        BellTable u = laid("at 9 1;", "at 0 5;at 9 1;");
        laidRow(u, 0, 1, 0, 1);
        due("more ahead of a pair", u.more(), 1);
        shifted();
    }

    /** As many as there can be, all heard one beat later: the first two missed, the last two more, the rest on time. */
    private static void shifted() {
        StringBuilder score = new StringBuilder();
        StringBuilder later = new StringBuilder();
        for (int beat = 0; beat < 80; beat++) {
            score.append("at ").append(beat).append(" 0 9;");
            later.append("at ").append(beat + 1).append(" 0 9;");
        }
        BellTable x = withScore(score.toString());
        due("later", Texts.heard(x, later.toString()), 12);
        due("more", x.more(), 2);
        for (int k = 0; k < 160; k++) {
            laidRow(x, k, k < 2 ? 0 : 1, 0, k < 2 ? NONE : k % 2 == 0 ? 0 : 9);
        }
        BellTable y = withScore(later.toString());
        due("earlier", Texts.heard(y, score.toString()), 12);
        for (int k = 0; k < 160; k++) {
            laidRow(y, k, k < 158 ? 1 : 0, 0, k >= 158 ? NONE : k % 2 == 0 ? 0 : 9);
        }
    }

    private static void hearing() {
        promise(23, "THE TAPE is WHAT WAS HEARD: the points; NONE with a FAULT (all stays).");
        BellTable x = withParting("at 0 1;at 5 2;", 4);
        due("points", Texts.heard(x, "at 1 1;at 9 9;"), 1 + 3 + 3);
        for (String text : new String[] {"at 0 1;at 5 2", "at 0 1;at 5 48;", "at 0 1 1;", ".", "at 0 1 stick;"}) {
            due("heard of " + text, Texts.heard(x, text), NONE);
            laidRow(x, 0, 1, 1, 1);
            laidRow(x, 1, 0, 0, NONE);
            due("more", x.more(), 1);
            due("blame", x.blame(3), 1 + 3);
            due("strokes", x.count(0), 2);
        }

        promise(24, "By the latest heard() that told points, of STROKE k, what 0: 1 a PAIR, 0 MISSED;");
        BellTable z = laid("at 0 1;at 9 2;", "at 0 1;");
        laidRow(z, 0, 1);
        laidRow(z, 1, 0);
        Texts.heard(z, "at 9 2");
        laidRow(z, 0, 1);
        laidRow(z, 1, 0);
        Texts.heard(z, "at 9 2;");
        laidRow(z, 0, 0);
        laidRow(z, 1, 1);

        promise(24, "1: beats by which it was late (below 0: early; 0), 2: the BELL that was heard (NONE: MISSED).");
        BellTable y = laid("at 5 1;at 10 2;at 20 3;at 30 4;at 40 0;at 50 47;",
            "at 3 1;at 12 2;at 20 9;at 40 47;at 50 0;");
        laidRow(y, 0, 1, -2, 1);
        laidRow(y, 1, 1, 2, 2);
        laidRow(y, 2, 1, 0, 9);
        laidRow(y, 3, 0, 0, NONE);
        laidRow(y, 4, 1, 0, 47);
        laidRow(y, 5, 1, 0, 0);
        Texts.heard(y, "");
        for (int k = 0; k < 6; k++) {
            laidRow(y, k, 0, 0, NONE);
        }
        Texts.heard(y, "at 3 1;");

        promise(24, "-9 when there is none such, or a score() came since.");
        laidRow(withScore("at 0 1;"), 0, -9, -9, -9);
        for (int k : outside(0, 5)) {
            laidRow(y, k, -9, -9, -9);
        }
        for (int what : outside(0, 2)) {
            due("laid(0, " + what + ")", y.laid(0, what), -9);
        }
        y.damp();
        y.ringers(2);
        laidRow(y, 0, 1, -2, 1);
        Texts.score(y, "at 5 1;");
        laidRow(y, 0, -9, -9, -9);
    }

    private static void tellingMore() {
        promise(25, "How many were MORE by it; NONE: there was no heard() that told points since the latest score().");
        BellTable x = new BellTable();
        due("ahead of any", x.more(), NONE);
        Texts.heard(x, "at 0 48;");
        due("a fault alone", x.more(), NONE);
        Texts.heard(x, Texts.many(160));
        due("all of them", x.more(), 160);
        Texts.heard(x, "");
        due("none of them", x.more(), 0);
        Texts.score(x, "");
        due("a score() came", x.more(), NONE);
        Texts.heard(x, "");
        due("none of none", x.more(), 0);
    }

    private static void blaming() {
        terms("the points of PAIRS and MISSED on STROKES of that one's BELLS, and of MORE on these BELLS.");
        BellTable x = withParting("at 0 0;at 5 1;at 9 2;at 20 47;", 4, 0, 0, 1, 1, 2, 2, 47, 3);
        due("points", Texts.heard(x, "at 2 0;at 5 7;at 20 47;at 30 0 7 47;"), 2 + 2 + 3 + 3 + 3 + 3);
        due("late, and one more", x.blame(0), 2 + 3);
        due("another bell", x.blame(1), 2);
        due("missed", x.blame(2), 3);
        due("one more", x.blame(3), 3);
        BellTable all = withParting("at 0 0 1;", 2);
        StringBuilder both = new StringBuilder();
        for (int beat = 0; beat < 80; beat++) {
            both.append("at ").append(beat).append(" 0 1;");
        }
        Texts.score(all, both.toString());
        all.part();
        Texts.heard(all, "");
        due("as many as there can be missed", all.blame(1), 480);
        Texts.score(all, "at 999 0 1;");
        all.part();
        Texts.heard(all, both.toString());
        due("as many as there can be more, and two missed", all.blame(1), 486);
        Texts.heard(x, "at 0 0;at 5 1;at 9 2;at 20 47;");
        for (int r = 0; r < 4; r++) {
            due("none of blame(" + r + ")", x.blame(r), 0);
        }

        promise(26, "BLAME of a RINGER by it and the PARTING as it is now; RANGE; STATE: there is no PARTING, "
            + "or no such heard().");
        BellTable y = withScore("at 0 1;");
        due("neither", y.blame(0), STATE);
        due("neither, and no such one", y.blame(4), RANGE);
        Texts.heard(y, "");
        due("no parting", y.blame(0), STATE);
        y.part();
        due("missed", y.blame(3), 3);
        y.give(1, 0);
        due("as it is now", y.blame(3), 0);
        due("as it is now", y.blame(0), 3);
        for (int r : outside(0, 3)) {
            due("blame(" + r + ")", y.blame(r), RANGE);
        }
        y.ringers(4);
        due("no parting", y.blame(0), STATE);
        Texts.score(y, "at 0 1;");
        y.part();
        due("no heard() since the score", y.blame(0), STATE);
        Texts.heard(y, "at 0 48;");
        due("nor one with a fault", y.blame(0), STATE);
    }

    public static void main(String[] args) {
        sounding();
        clashing();
        damping();
        pairs();
        ties();
        hearing();
        tellingMore();
        blaming();
        finish(20, 26);
    }
}
