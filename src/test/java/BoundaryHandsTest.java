/** The boundary cases of the document's Terms II and of promises 11 to 19: hands, ranges, cover and help. */
public final class BoundaryHandsTest extends Boundary {
    /** Three BELLS at once are too many for two hands; a fourth one never is. */
    private static final String THREE = "at 0 1 2 3;";

    /** As many STROKES as there can be: BELLS 0 and 1 at beats 0 to 79. */
    private static final String TWO_BY_TWO = twoByTwo();

    private static void hands(String score, String manners, long bells, int want) {
        due("hands of " + score + " by " + manners, withScore(score, manners).hands(bells), want);
    }

    private static void handRow(BellTable x, int... want) {
        for (int k = 0; k < want.length; k++) {
            due("hand(" + k + ")", x.hand(k), want[k]);
        }
    }

    private static void partedAs(BellTable x, int... bellsAndRingers) {
        for (int i = 0; i + 1 < bellsAndRingers.length; i += 2) {
            due("parted(" + bellsAndRingers[i] + ")", x.parted(bellsAndRingers[i]), bellsAndRingers[i + 1]);
        }
    }

    /** So many BELLS, one behind the other, far enough apart for any TAKE. */
    private static String oneByOne(int bells) {
        StringBuilder s = new StringBuilder();
        for (int bell = 0; bell < bells; bell++) {
            s.append("at ").append(20 * bell).append(' ').append(bell).append(';');
        }
        return s.toString();
    }

    private static String twoByTwo() {
        StringBuilder s = new StringBuilder();
        for (int beat = 0; beat < 80; beat++) {
            s.append("at ").append(beat).append(" 0 1;");
        }
        return s.toString();
    }

    private static void holding() {
        terms("A hand HOLDS nothing at first;");
        hands("at 0 1 2 stick;", "take 9;stick 9;", 6, 0);
        hands("at 0 1 for 16 shake 2 stick;", "take 9;stick 9;", 6, 0);
        hands("at 0 1;at 1 2 stick;", "take 9;stick 9;", 6, 0);

        terms("with a STROKE that is rung or shaken it HOLDS the BELL, with a stick a stick.");
        hands("at 0 1 2;at 1 1 2;", "take 9;stick 9;", 6, 0);
        hands("at 0 1 shake 2 shake;at 1 1 shake 2;", "take 9;stick 9;", 6, 0);
        hands("at 0 1 stick 2 stick;at 1 3 stick 4 stick;", "take 9;stick 9;", 30, 0);
        hands("at 0 1 stick;at 1 1;", "take 9;stick 9;", 2, 0);
        hands("at 0 1 stick 2 stick;at 1 1;", "take 9;stick 9;", 6, NONE);

        terms("the same BELL, both not with a stick: at least 1 beat later;");
        hands("at 0 1 for 16;at 1 1 for 16;at 2 1 for 16 shake;", "take 9;stick 9;", 2, 0);
        hands("at 998 47 for 16;at 999 47;", "take 9;", 1L << 47, 0);

        terms("if that one was shaken, at least its LENGTH later.");
        hands("at 0 1 shake;at 1 1;", "take 9;", 2, 0);
        hands("at 0 1 for 16 shake;at 16 1;", "take 9;", 2, 0);
        hands("at 0 1 for 16 shake;at 15 1;", "take 0;", 2, NONE);
        hands("at 0 1 for 16 shake;at 15 1 shake;", "take 0;", 2, NONE);

        terms("both with a stick: at least 1 beat later.");
        hands("at 0 1 for 16 stick 2 for 16 stick;at 1 1 stick 3 stick;", "take 9;stick 9;", 14, 0);
        hands("at 0 1 stick 2 stick 3 stick;", "take 0;stick 0;", 14, NONE);
        hands("at 0 1 stick 2 stick;", "take 9;stick 9;", 6, 0);
    }

    /** Both hands hold something, so that the third BELL needs a TAKE: just in time, and one beat too early. */
    private static void justInTime(String held, String third, int beat, String manners) {
        hands(held + "at " + beat + " " + third + ";", manners, 14, 1);
        hands(held + "at " + (beat - 1) + " " + third + ";", manners, 14, NONE);
    }

    private static void takes() {
        terms("a TAKE: at least take beats behind the end of that one (its beat and LENGTH; "
            + "with a stick its beat and 1)");
        justInTime("at 4 1 for 3 2 for 3;", "3", 7, "take 0;");
        justInTime("at 4 1 for 3 2 for 3;", "3", 8, "take 1;");
        justInTime("at 4 1 for 3 2 for 3;", "3", 16, "take 9;");
        justInTime("at 4 1 for 16 shake 2 for 16;", "3 shake", 22, "take 2;stick 9;");
        justInTime("at 4 1 for 2 2 for 3;", "3", 8, "take 2;");
        justInTime("at 4 1 for 9 stick 2 for 9 stick;", "3", 7, "take 2;stick 0;");
        justInTime("at 4 1 for 9 stick 2 for 9 stick;", "3", 5, "take 0;stick 0;");

        terms("and stick beats besides, if one of the two is with a stick.");
        justInTime("at 4 1 for 2 2 for 2;", "3 stick", 11, "take 1;stick 4;");
        justInTime("at 4 1 for 2 2 for 2;", "3 stick", 15, "take 0;stick 9;");
        justInTime("at 4 1 for 2 2 for 2;", "3 stick", 6, "take 0;stick 0;");
        justInTime("at 4 1 for 9 stick 2 for 9 stick;", "3 for 9", 10, "take 1;stick 4;");
        justInTime("at 4 1 2;", "3", 6, "take 1;stick 9;");
        due("at first", withScore("at 0 1;at 3 1 stick;").hands(2), 1);
        due("at first, too early", withScore("at 0 1;at 2 1 stick;").hands(2), NONE);

        terms("A BELL that the other hand HOLDS can't be the one of the new STROKE (with a stick either).");
        hands("at 0 1 for 4 shake;at 3 1;", "take 0;stick 0;", 2, NONE);
        hands("at 0 1 for 4;at 3 1 stick;", "take 0;stick 0;", 2, NONE);
        hands("at 0 0 for 4;at 3 0 stick;", "take 0;stick 0;", 1, NONE);
        BellTable x = withScore("at 0 1;at 5 2;at 10 1 stick;");
        due("once it holds another one", x.hands(6), 1);
        handRow(x, 0, 0, 1);
    }

    private static void rows() {
        terms("The fewest TAKES; then the least row of hands by STROKES.");
        BellTable x = withScore("at 0 1;at 3 2;at 6 1;");
        due("none is fewest", x.hands(6), 0);
        handRow(x, 0, 1, 0);
        BellTable y = withScore("at 0 1;at 3 2;at 6 3;");
        due("one is fewest", y.hands(14), 1);
        handRow(y, 0, 0, 1);
        BellTable z = withScore("at 0 1;at 3 2;at 4 3;");
        due("one is fewest", z.hands(14), 1);
        handRow(z, 0, 0, 1);
        BellTable w = withScore("at 0 1 for 9;at 3 2;at 6 3;");
        due("the least goes not", w.hands(14), 1);
        handRow(w, 0, 1, 1);

        terms("(It can't be, if no row goes.) Of a set without STROKES: 0.");
        due("three at once", withScore(THREE).hands(14), NONE);
        due("two of them", withScore(THREE).hands(10), 0);
        due("no bells", withScore(THREE).hands(0), 0);
        due("bells that aren't used", withScore(THREE).hands((1L << 48) - 1 - 14), 0);
        due("no score", new BellTable().hands((1L << 48) - 1), 0);
        BellTable u = withScore("at 0 1 2;at 2 3;at 4 4;at 6 5 6 7;");
        due("some", u.hands(30), 2);
        due("no bells behind them", u.hands(0), 0);
        due("no way", u.hands(7 << 5), NONE);
        due("no bells behind it", u.hands(1), 0);

        terms("one RINGER rings all STROKES on them, one by one as they stand, each with the hand 0 or 1.");
        BellTable all = withScore(TWO_BY_TWO);
        due("as many as there can be", all.count(0), 160);
        due("two by two", all.hands(3), 0);
        for (int k = 0; k < 160; k++) {
            due("hand(" + k + ")", all.hand(k), k % 2);
        }
        due("every second one", all.hands(2), 0);
        handRow(all, NONE, 0, NONE, 0);
        due("the last one", all.hand(159), 0);

        promise(11, "HANDS of a set of BELLS (bits, 0 .. 47): TAKES; NONE: it can't be; RANGE: another bit.");
        BellTable v = withScore("at 0 0 47;at 9 46;");
        due("the least and the greatest bit", v.hands(1L << 47 | 1), 0);
        due("all bits", v.hands((1L << 48) - 1), 1);
        for (int bit = 48; bit < 64; bit++) {
            due("bit " + bit, v.hands(1L << bit), RANGE);
            due("bit " + bit + " among others", v.hands(1L << bit | 1), RANGE);
        }
        due("all of a long", v.hands(-1), RANGE);
    }

    private static void tellingHands() {
        promise(12, "The hand of STROKE k by the latest hands() that told TAKES");
        BellTable x = withScore("at 0 1 2 3;at 9 4;");
        due("takes", x.hands(22), 1);
        handRow(x, 0, 1, NONE, 0);
        due("can't be", x.hands(14), NONE);
        handRow(x, 0, 1, NONE, 0);
        due("another bit", x.hands(1L << 48), RANGE);
        handRow(x, 0, 1, NONE, 0);
        due("other bells", x.hands(8), 0);
        handRow(x, NONE, NONE, 0, NONE);

        promise(12, "as long as no score(), manners() or damp() came;");
        x.part();
        x.load(0);
        x.help(0);
        x.cover(0);
        x.ringers(5);
        x.absent(1, true);
        Texts.heard(x, "at 0 1;");
        due("other calls", x.hand(2), 0);
        Texts.score(x, "at 0 48;");
        Texts.manners(x, "take 10;");
        due("texts with a fault, by which all stays", x.hand(2), 0);
        due("nothing to damp", x.damp(), 0);
        due("a damp() came", x.hand(2), NONE);
        x.hands(8);
        Texts.manners(x, "");
        due("a manners() came", x.hand(2), NONE);
        x.hands(8);
        Texts.score(x, "at 0 1 2 3;at 9 4;");
        due("a score() came", x.hand(2), NONE);

        promise(12, "NONE: none such, or it isn't of the set.");
        BellTable y = withScore("at 0 1;at 9 2;");
        due("ahead of any", y.hand(0), NONE);
        y.hands(2);
        for (int k : outside(0, 1)) {
            due("hand(" + k + ")", y.hand(k), NONE);
        }
        handRow(y, 0, NONE);
        due("of no bells", y.hands(0), 0);
        handRow(y, NONE, NONE);
    }

    private static void pieces() {
        terms("USED are the BELLS of the SCORE.");
        due("no score", new BellTable().count(1), 0);
        due("each once", withScore("at 0 0 47;at 1 0 stick;at 2 0 shake 47;").count(1), 2);
        BellTable all = withScore("at 0 " + firstBells(48) + ";");
        due("all", all.count(1), 48);

        terms("A PARTING gives each USED BELL a RINGER.");
        BellTable full = withScore(oneByOne(48));
        full.ringers(12);
        due("all bells, all ringers", full.part(), 24);
        for (int bell = 0; bell < 48; bell++) {
            partedAs(full, bell, bell / 4);
        }

        terms("go in a row of whole pieces (some empty) to those RINGERS who aren't ABSENT, by number;");
        BellTable x = withScore("at 0 1 2 3 4;");
        due("some empty", x.part(), 0);
        partedAs(x, 1, 2, 2, 2, 3, 3, 4, 3);
        x.absent(2, true);
        due("not to one who is absent", x.part(), 0);
        partedAs(x, 1, 1, 2, 1, 3, 3, 4, 3);
        x.absent(3, true);
        due("nor to the last", x.part(), 0);
        partedAs(x, 1, 0, 2, 0, 3, 1, 4, 1);
        BellTable y = withScore("at 0 0 1 2 45 46 47;at 1 0;");
        y.ringers(12);
        due("to the last of twelve", y.part(), 0);
        partedAs(y, 0, 8, 1, 9, 2, 9, 45, 10, 46, 11, 47, 11);

        terms("each has at most most BELLS,");
        due("four at first", partOf(oneByOne(4), ""), 2);
        due("five at first", partOf(oneByOne(5), ""), NONE);
        due("one", partOf(oneByOne(1), "most 1;"), 0);
        due("two", partOf(oneByOne(2), "most 1;"), NONE);
        due("twelve", partOf(oneByOne(12), "most 12;"), 10);
        due("thirteen", partOf(oneByOne(13), "most 12;reach 47;"), NONE);
        BellTable by = withScore(oneByOne(2));
        by.ringers(1);
        due("two", by.part(), 0);
        Texts.manners(by, "most 1;");
        due("as it is told now", by.part(), NONE);
        Texts.manners(by, "");
        due("as at first", by.part(), 0);
        Texts.score(by, oneByOne(5));
        due("one bell too many in the new score", by.part(), NONE);

        terms("the greatest not more than reach above the least,");
        due("12 at first", partOf("at 0 1;at 9 13;", ""), 0);
        due("13", partOf("at 0 1;at 9 14;", ""), NONE);
        due("all the way", partOf("at 0 0;at 9 47;", "reach 47;"), 0);
        due("one too few", partOf("at 0 0;at 9 47;", "reach 46;"), NONE);
        due("none at all", partOf("at 0 5;", "reach 0;"), 0);
        due("none at all", partOf("at 0 5;at 9 6;", "reach 0;"), NONE);
        due("two with a hole", partOf("at 0 5;at 9 7;", "reach 2;"), 0);

        terms("and HANDS that can be.");
        due("three at once", partOf(THREE, ""), NONE);
        BellTable two = withScore(THREE);
        two.ringers(2);
        due("for two", two.part(), 0);
        partedAs(two, 1, 0, 2, 1, 3, 1);
        BellTable one = withScore("at 0 1 2;at 9 3;");
        one.ringers(1);
        due("time to take one", one.part(), 1);
        Texts.manners(one, "take 9;");
        due("no time by these manners", one.part(), NONE);
        Texts.manners(one, "take 8;");
        due("just time by these", one.part(), 1);
        Texts.score(one, THREE);
        due("not in this score", one.part(), NONE);
        BellTable cut = withScore("at 0 1 for 4 5 for 4;at 1 2;at 2 7;", "take 0;");
        cut.ringers(1);
        due("too long", cut.part(), NONE);
        cut.damp();
        due("long enough when it is damped", cut.part(), 2);
    }

    /** part() of one RINGER alone. */
    private static int partOf(String score, String manners) {
        BellTable x = withScore(score, manners);
        x.ringers(1);
        return x.part();
    }

    private static String firstBells(int n) {
        StringBuilder s = new StringBuilder();
        for (int bell = 0; bell < n; bell++) {
            s.append(' ').append(bell);
        }
        return s.toString();
    }

    private static void best() {
        terms("BEST: the least sum of TAKES;");
        BellTable x = withScore(oneByOne(3));
        due("none, though one could have all", x.part(), 0);
        due("two of them", x.count(5), 2);
        BellTable y = withScore("at 0 1 for 9;at 2 2 for 9;at 20 3;at 22 4;at 40 4;at 42 3;");
        Texts.manners(y, "most 3;");
        y.ringers(2);
        due("two each, not one and three", y.part(), 0);
        partedAs(y, 1, 0, 2, 0, 3, 1, 4, 1);

        terms("then the fewest RINGERS with a BELL;");
        BellTable z = withScore(oneByOne(2));
        due("takes", z.part(), 0);
        due("one of them", z.count(5), 1);
        BellTable w = withParting(oneByOne(2), 4, 0, 1);
        due("one bell changes", w.cover(3), 1);
        partedAs(w, 0, 1, 1, 1);

        terms("then the least row of how many BELLS those who aren't ABSENT have.");
        partedAs(x, 0, 2, 1, 3, 2, 3);
        partedAs(z, 0, 3, 1, 3);
        x.absent(2, true);
        due("takes", x.part(), 0);
        partedAs(x, 0, 1, 1, 3, 2, 3);
        BellTable all = withScore(oneByOne(48), "most 12;reach 47;");
        all.ringers(12);
        due("takes", all.part(), 24);
        for (int bell = 0; bell < 48; bell++) {
            partedAs(all, bell, bell < 18 ? bell / 2 : bell < 24 ? 9 : bell / 12 + 8);
        }
    }

    private static void parting() {
        promise(13, "The BEST RANGES are the PARTING: the sum of TAKES; NONE: there are none (the PARTING stays).");
        BellTable x = withScore(THREE);
        for (int r = 0; r < 4; r++) {
            x.absent(r, true);
        }
        due("nobody", x.part(), NONE);
        due("still no parting", x.count(4), 0);
        due("still no parting", x.parted(1), NONE);
        x.absent(1, false);
        due("one alone", x.part(), NONE);
        x.absent(2, false);
        due("two", x.part(), 0);
        x.give(1, 3);
        x.absent(2, true);
        due("one alone again", x.part(), NONE);
        due("the parting stays", x.count(4), 1);
        partedAs(x, 1, 3, 2, 2, 3, 2);
        due("takes in all", partOf(oneByOne(4), ""), 2);

        promise(13, "(A SCORE without STROKES: 0.)");
        BellTable y = new BellTable();
        due("no score", y.part(), 0);
        due("a parting", y.count(4), 1);
        due("of nobody", y.count(5), 0);
        BellTable z = withScore("");
        for (int r = 0; r < 4; r++) {
            z.absent(r, true);
        }
        due("nobody there", z.part(), 0);
        due("a parting", z.count(4), 1);
    }

    private static void giving() {
        promise(14, "A BELL goes to a RINGER by hand: who had it (NONE);");
        BellTable x = withParting("at 0 0 47;", 12);
        due("of the least bell", x.give(0, 0), 10);
        due("of the greatest bell", x.give(47, 11), 11);
        due("to the same one", x.give(0, 0), 0);
        partedAs(x, 0, 0, 47, 11);
        x.absent(5, true);
        due("to one who is absent", x.give(0, 5), 0);
        due("more than most and reach let", x.give(47, 5), 11);
        partedAs(x, 0, 5, 47, 5);

        promise(14, "RANGE: no such RINGER, or the BELL isn't USED; STATE: there is no PARTING.");
        BellTable y = withParting("at 0 1;", 4);
        for (int r : outside(0, 3)) {
            due("give(1, " + r + ")", y.give(1, r), RANGE);
        }
        for (int bell : outside(0, 47)) {
            due("give(" + bell + ", 0)", y.give(bell, 0), RANGE);
        }
        due("give(0, 0)", y.give(0, 0), RANGE);
        due("give(2, 0)", y.give(2, 0), RANGE);
        partedAs(y, 1, 3);
        y.ringers(4);
        due("no parting", y.give(1, 0), STATE);
        due("no parting, no such ringer", y.give(1, 4), RANGE);
        due("no parting, not used", y.give(2, 0), RANGE);
        due("no score", new BellTable().give(0, 0), RANGE);

        promise(15, "The RINGER of a BELL by the PARTING; NONE: none, or it isn't USED, or there is no PARTING.");
        BellTable z = withScore("at 0 0 47;");
        partedAs(z, 0, NONE, 47, NONE);
        z.part();
        partedAs(z, 0, 2, 47, 3, 1, NONE, 46, NONE);
        for (int bell : outside(0, 47)) {
            due("parted(" + bell + ")", z.parted(bell), NONE);
        }
        z.ringers(4);
        partedAs(z, 0, NONE, 47, NONE);
        due("nothing parted", new BellTable().parted(0), NONE);
    }

    private static void loads() {
        promise(16, "TAKES of a RINGER's BELLS by the PARTING; NONE: HANDS can't be; RANGE; "
            + "STATE: there is no PARTING.");
        BellTable x = withScore("at 0 1 2 3;at 9 4;");
        due("no parting", x.load(0), STATE);
        due("no parting, no such one", x.load(4), RANGE);
        x.part();
        for (int r : outside(0, 3)) {
            due("load(" + r + ")", x.load(r), RANGE);
        }
        due("one without bells", x.load(0), 0);
        x.give(1, 1);
        x.give(2, 1);
        due("two at once", x.load(1), 0);
        x.give(4, 1);
        due("one taken up", x.load(1), 1);
        x.give(3, 1);
        due("three at once", x.load(1), NONE);
        x.absent(1, true);
        due("of one who is absent", x.load(1), NONE);
        BellTable y = withParting("", 12);
        due("no bells", y.load(11), 0);
        due("nor such a ringer", y.load(12), RANGE);
    }

    private static void covering() {
        terms("of all RANGES without that one too:");
        BellTable x = withParting(oneByOne(2), 4);
        partedAs(x, 0, 3, 1, 3);
        due("the one below", x.cover(3), 2);
        partedAs(x, 0, 2, 1, 2);
        x.absent(3, true);
        due("nor one who is absent", x.cover(2), 2);
        partedAs(x, 0, 1, 1, 1);
        due("one who is absent", x.cover(3), 0);
        due("the first", x.cover(0), 0);

        terms("the fewest USED BELLS that have another RINGER than they had; then as BEST.");
        BellTable y = withParting(oneByOne(3), 4, 0, 1, 1, 1, 2, 3);
        y.absent(2, true);
        due("one, though a take more", y.cover(3), 1);
        due("the take", y.load(1), 1);
        partedAs(y, 0, 1, 1, 1, 2, 1);
        BellTable z = withParting(oneByOne(3), 4, 0, 1, 1, 1, 2, 3);
        due("one, and no take, though a ringer more", z.cover(3), 1);
        partedAs(z, 0, 1, 1, 1, 2, 2);
        BellTable w = withParting(oneByOne(2), 4, 0, 3, 1, 2);
        due("no ranges, though without the one", w.cover(0), 1);
        partedAs(w, 0, 3, 1, 3);

        promise(17, "COVER of a RINGER: how many BELLS have another RINGER:");
        BellTable all = withParting(oneByOne(48), 12);
        for (int bell = 0; bell < 48; bell++) {
            all.give(bell, 0);
        }
        due("48 for eleven, each at most four", all.cover(11), NONE);
        Texts.manners(all, "most 12;reach 47;");
        due("all but twelve that the first one keeps", all.cover(11), 36);
        due("those twelve, and two to make room for them", all.cover(0), 14);
        for (int bell = 0; bell < 48; bell++) {
            all.give(bell, 0);
        }
        due("all of them", all.cover(0), 48);
        due("none of them", all.cover(0), 0);

        promise(17, "it is the PARTING then (the RINGER isn't made ABSENT by it);");
        due("none absent", z.count(3), 0);
        due("not absent", z.absent(3, false), 0);
        due("by the parting", z.load(2), 0);
        due("has bells again", z.part(), 0);
        partedAs(z, 2, 3);
    }

    private static void refusedCovers() {
        promise(17, "NONE: there are no such RANGES (all stays); RANGE; STATE: there is no PARTING.");
        BellTable x = withParting(THREE, 2);
        due("one is too few", x.cover(0), NONE);
        due("one is too few", x.cover(1), NONE);
        partedAs(x, 1, 0, 2, 1, 3, 1);
        BellTable y = withParting("at 0 1;", 1);
        due("nobody is left", y.cover(0), NONE);
        partedAs(y, 1, 0);
        for (int r : outside(0, 1)) {
            due("cover(" + r + ")", x.cover(r), RANGE);
        }
        x.ringers(2);
        due("no parting", x.cover(0), STATE);
        due("no parting, no such one", x.cover(2), RANGE);
        due("still no parting", x.count(4), 0);
        BellTable z = withParting("", 1);
        due("no bells, nobody left", z.cover(0), 0);
        due("a parting", z.count(4), 1);
    }

    private static void helping() {
        terms("done by the RINGER one below or one above (who is told and not ABSENT)");
        BellTable x = withParting(THREE, 3, 1, 0, 2, 0, 3, 0);
        due("the first has one above alone", x.help(0), 0);
        due("the one above", x.helped(1), 1);
        BellTable y = withParting(THREE, 3, 1, 2, 2, 2, 3, 2);
        due("the last has one below alone", y.help(2), 0);
        due("the one below", y.helped(1), 1);
        y.absent(1, true);
        due("the one above isn't told", y.help(2), NONE);
        due("one alone", withParting("at 0 1;", 1).help(0), NONE);
        BellTable z = withParting(THREE, 12, 1, 11, 2, 11, 3, 11);
        due("the last of twelve", z.help(11), 0);
        due("the one below", z.helped(1), 10);
        z.absent(10, true);
        due("nobody", z.help(11), NONE);
        BellTable w = withParting(THREE, 4, 1, 1, 2, 1, 3, 1);
        w.absent(0, true);
        due("the one below is absent", w.help(1), 0);
        due("the one above", w.helped(1), 2);
        w.absent(2, true);
        due("both are absent", w.help(1), NONE);
        w.absent(1, true);
        w.absent(0, false);
        due("one who is absent, too", w.help(1), 0);

        terms("among that one's own (as if that STROKE were of a BELL of that one's) so that HANDS of both can be:");
        due("the other has two of them", withParting("at 0 1 2 3 4 5;", 3, 3, 2, 4, 2, 5, 2, 1, 1, 2, 1).help(2), NONE);
        due("the other has one of them", withParting("at 0 1 2 3 4;", 3, 2, 2, 3, 2, 4, 2, 1, 1).help(2), 0);
        due("four at once", withParting("at 0 1 2 3 4;", 3, 1, 2, 2, 2, 3, 2, 4, 2).help(2), NONE);
        due("the one above has two of them", withParting("at 0 1 2 3 4 5;", 3, 1, 0, 2, 0, 3, 0, 4, 1, 5, 1).help(0),
            NONE);
        due("the one above has one of them", withParting("at 0 1 2 3 4;", 3, 1, 0, 2, 0, 3, 0, 4, 1).help(0), 0);
        due("the other can't be without", withParting("at 0 1 2 3;at 9 4;", 2, 1, 0, 2, 0, 3, 0, 4, 1).help(1), NONE);
        BellTable v = withParting("at 0 1;at 1 2;at 2 1;", 2, 1, 0, 2, 1);
        due("between two of the other's", v.help(1), 0);
        due("the one between", v.helped(0), 1);
        BellTable u = withParting("at 0 1 2;at 1 3;at 2 1 2;", 2, 1, 0, 2, 0, 3, 1);
        due("no time between two of the other's", u.help(1), NONE);
        BellTable t = withParting("at 0 3;at 1 1 2;", 2, 1, 0, 2, 0, 3, 1);
        due("ahead of all of the other's, too late for them", t.help(1), NONE);
        BellTable s = withParting("at 0 3;at 2 1 2;", 2, 1, 0, 2, 0, 3, 1);
        due("ahead of all of the other's, just in time", s.help(1), 1);
        BellTable r = withParting("at 0 1 2;at 1 3;", 2, 1, 0, 2, 0, 3, 1);
        due("behind all of the other's, too early", r.help(1), NONE);
        BellTable q = withParting("at 0 1 2;at 2 3;", 2, 1, 0, 2, 0, 3, 1);
        due("behind all of the other's, just in time", q.help(1), 1);
        BellTable all = withParting(TWO_BY_TWO, 2, 0, 0, 1, 0);
        due("as many as there can be", all.help(0), 0);
        due("the first of all", all.helped(0), 0);
    }

    private static void bestHelp() {
        terms("the least sum of TAKES of the two; then the least STROKE; then the one below.");
        BellTable x = withParting("at 0 1 2 3;at 9 1;", 3, 1, 1, 2, 1, 3, 1);
        due("the second does without a take", x.help(1), 0);
        due("the second", x.helped(0), 1);
        due("the one below", x.helped(1), 0);
        BellTable y = withParting("at 0 1 2;at 9 3;", 3, 1, 0, 2, 0, 3, 1);
        due("the one above has no take", y.help(1), 0);
        due("the one above", y.helped(1), 2);
        y.absent(2, true);
        due("the other's takes count", y.help(1), 1);
        due("the one below", y.helped(1), 0);
        BellTable z = withParting("at 0 1 stick 2 stick 5;at 20 6 stick;", 3, 1, 0, 2, 0, 5, 1, 6, 1);
        due("as good", z.help(1), 0);
        due("the least stroke, though by the one above", z.helped(0), 2);
        due("the one above", z.helped(1), 2);
        BellTable w = withParting("at 0 1 2;at 9 3;at 18 4;", 2, 1, 0, 2, 0, 3, 0, 4, 0);
        due("one's own takes count", w.help(0), 1);
        due("the least stroke", w.helped(0), 0);
        BellTable v = withParting("at 0 1;at 9 2 3;", 3, 1, 1, 2, 2, 3, 2);
        v.absent(0, true);
        due("the takes of the one above count", v.help(1), 1);
        due("the one above", v.helped(1), 2);
    }

    private static void refusedHelp() {
        promise(18, "NONE: no one STROKE does; RANGE; STATE: there is no PARTING.");
        BellTable x = withParting("at 0 1 2 3 4;", 2, 1, 0, 2, 0, 3, 0, 4, 0);
        due("two would be needed", x.help(0), NONE);
        due("one without bells", x.help(1), NONE);
        for (int r : outside(0, 1)) {
            due("help(" + r + ")", x.help(r), RANGE);
        }
        x.ringers(2);
        due("no parting", x.help(0), STATE);
        due("no parting, no such one", x.help(2), RANGE);
        due("no bells at all", withParting("", 4).help(0), NONE);

        promise(18, "(Asked also where HANDS can be without.)");
        BellTable y = withParting(oneByOne(3), 2, 0, 0, 1, 0, 2, 0);
        due("can be", y.load(0), 1);
        due("help", y.help(0), 0);
        due("nor does a bell go with it", y.parted(0), 0);
        due("nor does a take", y.load(0), 1);

        promise(19, "Of the latest help() that told TAKES, what 0: the STROKE, 1: the RINGER who does it.");
        due("stroke", y.helped(0), 0);
        due("ringer", y.helped(1), 1);
        due("nobody has bells there", y.help(1), NONE);
        due("no such one", y.help(2), RANGE);
        y.ringers(4);
        due("no parting", y.help(0), STATE);
        due("stroke", y.helped(0), 0);
        due("ringer", y.helped(1), 1);

        promise(19, "NONE for others, ahead of any, or if a score() came since.");
        for (int what : outside(0, 1)) {
            due("helped(" + what + ")", y.helped(what), NONE);
        }
        due("of a new object", new BellTable().helped(0), NONE);
        due("of a new object", new BellTable().helped(1), NONE);
        BellTable z = withParting(oneByOne(3), 2);
        due("ahead of any", z.helped(0), NONE);
        due("ahead of any", z.helped(1), NONE);
        Texts.score(y, oneByOne(3));
        due("a score() came", y.helped(0), NONE);
        due("a score() came", y.helped(1), NONE);
    }

    public static void main(String[] args) {
        holding();
        takes();
        rows();
        tellingHands();
        pieces();
        best();
        parting();
        giving();
        loads();
        covering();
        refusedCovers();
        helping();
        bestHelp();
        refusedHelp();
        finish(11, 19);
    }
}
