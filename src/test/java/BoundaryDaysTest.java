/** The boundary cases of the document's Terms IV and of promises 27 to 33: days, keys, counts. */
public final class BoundaryDaysTest extends Boundary {
    private static void there(BellTable x, int bell, int day, int known, int want) {
        due("there(" + bell + ", " + day + ", " + known + ")", x.there(bell, day, known), want);
    }

    private static void keyIs(BellTable x, int points, int k, int leftOut, int octaves) {
        due("key", x.key(0, 0), points);
        due("k", x.keyed(0), k);
        due("left out", x.keyed(1), leftOut);
        due("12 above or below", x.keyed(2), octaves);
    }

    /** How far a score, which loses nothing by it, is moved. */
    private static void moveOn(BellTable x, int day, int known, int k) {
        due("key(" + day + ", " + known + ")", x.key(day, known), 0);
        due("k of key(" + day + ", " + known + ")", x.keyed(0), k);
    }

    /** A table with that score on which, on day 0, these BELLS alone are there. */
    private static BellTable withBells(String score, int... there) {
        BellTable x = withScore(score);
        for (int bell = 0; bell < 48; bell++) {
            boolean is = false;
            for (int t : there) {
                is = is || t == bell;
            }
            if (!is) {
                x.away(bell, 0, 0);
            }
        }
        return x;
    }

    private static BellTable without(String score, int... gone) {
        BellTable x = withScore(score);
        for (int bell : gone) {
            x.away(bell, 0, 0);
        }
        return x;
    }

    private static void clock() {
        terms("DAYS 0 .. 999; the CLOCK's is 0 at first.");
        BellTable x = new BellTable();
        due("at first", x.count(6), 0);
        there(x, 0, 0, 0, 1);
        there(x, 0, 999, 999, 1);
        there(x, 0, 1000, 0, RANGE);
        there(x, 0, -1, 0, RANGE);

        promise(27, "So many days (1 .. 500) pass: the CLOCK's; RANGE, also beyond 999.");
        for (int n : outside(1, 500)) {
            due("pass(" + n + ")", x.pass(n), RANGE);
        }
        due("stays", x.count(6), 0);
        due("the least", x.pass(1), 1);
        due("the greatest", x.pass(500), 501);
        due("beyond by one", x.pass(499), RANGE);
        due("stays", x.count(6), 501);
        due("to the last day", x.pass(498), 999);
        due("beyond by one", x.pass(1), RANGE);
        due("beyond by many", x.pass(500), RANGE);
        due("stays", x.count(6), 999);
    }

    private static void away() {
        terms("AWAY is told (at most 60): a BELL from a day to a day, KNOWN from the CLOCK's on;");
        BellTable x = new BellTable();
        x.pass(10);
        due("away", x.away(3, 20, 22), 0);
        there(x, 3, 19, 10, 1);
        there(x, 3, 20, 10, 0);
        there(x, 3, 22, 10, 0);
        there(x, 3, 23, 10, 1);
        there(x, 3, 21, 9, 1);
        there(x, 3, 21, 0, 1);
        there(x, 3, 21, 999, 0);
        there(x, 2, 21, 10, 1);
        there(x, 4, 21, 10, 1);
        due("of days that are over", x.away(3, 0, 0), 1);
        there(x, 3, 0, 10, 0);
        there(x, 3, 0, 9, 1);
        there(x, 3, 1, 10, 1);

        promise(28, "A BELL is told AWAY from a day to a day (0 .. 999, not ahead of the first one): its number; "
            + "RANGE; FULL.");
        BellTable y = new BellTable();
        for (int bell : outside(0, 47)) {
            due("bell " + bell, y.away(bell, 0, 0), RANGE);
        }
        for (int day : outside(0, 999)) {
            due("from " + day, y.away(0, day, 999), RANGE);
            due("to " + day, y.away(0, 0, day), RANGE);
        }
        due("ahead of the first", y.away(0, 500, 499), RANGE);
        due("none was told", y.count(7), 0);
        due("all days", y.away(0, 0, 999), 0);
        due("the first day", y.away(47, 0, 0), 1);
        due("the last day", y.away(47, 999, 999), 2);
        for (int a = 3; a < 60; a++) {
            due("away " + a, y.away(1, a, a), a);
        }
        due("no room", y.away(2, 5, 5), FULL);
        due("no room, and no such bell", y.away(48, 5, 5), RANGE);
        due("as many as there can be", y.count(7), 60);
        there(y, 2, 5, 0, 1);
        there(y, 1, 59, 0, 0);
        there(y, 0, 999, 0, 0);
        there(y, 47, 0, 0, 0);
        there(y, 47, 1, 0, 1);
        there(y, 47, 998, 0, 1);
        there(y, 47, 999, 0, 0);
    }

    private static void back() {
        terms("BACK is told of such a one: from a day on it is there all the same, KNOWN likewise.");
        BellTable x = new BellTable();
        x.pass(10);
        x.away(3, 20, 30);
        x.pass(5);
        due("back", x.back(0, 25), 1);
        there(x, 3, 24, 15, 0);
        there(x, 3, 25, 15, 1);
        there(x, 3, 30, 15, 1);
        there(x, 3, 25, 14, 0);
        there(x, 3, 25, 9, 1);
        there(x, 3, 25, 999, 1);

        terms("if no AWAY that is KNOWN has the day,");
        BellTable none = new BellTable();
        there(none, 3, 20, 0, 1);
        none.away(3, 0, 19);
        none.away(3, 21, 999);
        none.away(2, 0, 999);
        there(none, 3, 20, 0, 1);
        none.pass(1);
        none.away(3, 20, 20);
        there(none, 3, 20, 0, 1);
        there(none, 3, 20, 1, 0);

        terms("or each such has a BACK that is KNOWN, from a day not behind it.");
        BellTable y = new BellTable();
        y.away(3, 20, 30);
        y.away(3, 25, 40);
        y.away(4, 20, 40);
        due("of the first alone", y.back(0, 20), 1);
        there(y, 3, 24, 0, 1);
        there(y, 3, 25, 0, 0);
        there(y, 3, 31, 0, 0);
        y.pass(1);
        due("of the second", y.back(1, 27), 1);
        there(y, 3, 26, 1, 0);
        there(y, 3, 27, 1, 1);
        there(y, 3, 27, 0, 0);
        there(y, 4, 27, 1, 0);
        due("beyond its last day", y.back(2, 41), 1);
        there(y, 4, 40, 1, 0);
        there(y, 4, 41, 1, 1);
        BellTable z = new BellTable();
        z.away(3, 20, 30);
        due("ahead of its first day", z.back(0, 0), 1);
        there(z, 3, 20, 0, 1);

        promise(29, "BACK of such a one from a day on: 1; RANGE: no such one, day; STATE: it was told.");
        BellTable w = new BellTable();
        due("none was told", w.back(0, 0), RANGE);
        w.away(1, 0, 999);
        w.away(2, 0, 999);
        for (int a : outside(0, 1)) {
            due("back(" + a + ", 0)", w.back(a, 0), RANGE);
        }
        for (int day : outside(0, 999)) {
            due("back(0, " + day + ")", w.back(0, day), RANGE);
        }
        due("the last day", w.back(0, 999), 1);
        due("was told", w.back(0, 0), STATE);
        due("was told, and no such day", w.back(0, 1000), RANGE);
        there(w, 1, 998, 0, 0);
        there(w, 1, 999, 0, 1);
        due("the first day", w.back(1, 0), 1);
        there(w, 2, 0, 0, 1);
        due("was told", w.back(1, 0), STATE);
    }

    private static void thereRange() {
        promise(30, "1 if a BELL is THERE on a day, as KNOWN on a day, else 0; RANGE.");
        BellTable x = new BellTable();
        there(x, 0, 0, 0, 1);
        there(x, 47, 999, 999, 1);
        for (int bell : outside(0, 47)) {
            there(x, bell, 0, 0, RANGE);
        }
        for (int day : outside(0, 999)) {
            there(x, 0, day, 0, RANGE);
            there(x, 0, 0, day, RANGE);
        }
        x.away(0, 0, 999);
        there(x, 0, 0, 0, 0);
        there(x, 0, 999, 999, 0);
    }

    private static void keys() {
        terms("a SCORE moved by k (-12 .. 12): each STROKE is on a BELL k above;");
        keyIs(withBells("at 0 20;", 32), 0, 12, 0, 0);
        keyIs(withBells("at 0 20;", 8), 0, -12, 0, 0);
        keyIs(withBells("at 0 20;", 33), 1, 1, 0, 1);
        keyIs(withBells("at 0 20;", 7), 1, -1, 0, 1);
        keyIs(withBells("at 0 20;", 44), 1, 12, 0, 1);
        keyIs(withBells("at 0 20;", 45), 3, 0, 1, 0);
        keyIs(withBells("at 0 30;", 6), 1, -12, 0, 1);
        keyIs(withBells("at 0 30;", 5), 3, 0, 1, 0);
        keyIs(withBells("at 0 20 21;at 1 20;", 25, 26), 0, 5, 0, 0);

        terms("if that is none or isn't THERE, on the one 12 above it, else 12 below it "
            + "(each 1 point, if it is one and is THERE)");
        keyIs(without("at 0 0 47;", 0, 12), 1, 1, 0, 1);
        keyIs(without("at 0 0 47;", 47, 35, 36), 1, -1, 0, 1);
        keyIs(withBells("at 0 0 47;", 12, 35), 2, 0, 0, 2);
        keyIs(withBells("at 0 0 47;", 12, 47), 1, 0, 0, 1);
        keyIs(withBells("at 0 0 47;", 0, 35), 1, 0, 0, 1);
        keyIs(withBells("at 0 0 1 2;", 11, 0, 1), 1, -1, 0, 1);

        terms("else it is left out (3 points).");
        keyIs(withBells("at 0 20;"), 3, 0, 1, 0);
        keyIs(withBells(Texts.many(160)), 480, 0, 160, 0);
        keyIs(withBells("at 0 0 24 47;", 0, 24), 3, 0, 1, 0);
        keyIs(withBells("at 0 1 2 3;", 1, 2), 3, 0, 1, 0);

        terms("The least points; then the least k without its sign; then that above 0.");
        keyIs(without("at 0 20;", 20), 0, 1, 0, 0);
        keyIs(without("at 0 20;", 20, 21), 0, -1, 0, 0);
        keyIs(without("at 0 20;", 20, 21, 19), 0, 2, 0, 0);
        keyIs(without("at 0 20;", 20, 21, 19, 22), 0, -2, 0, 0);
        keyIs(without("at 0 20;"), 0, 0, 0, 0);
        keyIs(withBells("at 0 20;", 32, 8), 0, 12, 0, 0);
        keyIs(withBells("at 0 20;", 31, 8, 33), 0, 11, 0, 0);
    }

    private static void keyCalls() {
        promise(31, "KEY for a day, as KNOWN on a day: its points; RANGE.");
        BellTable x = withScore("at 0 20;");
        for (int day : outside(0, 999)) {
            due("key(" + day + ", 0)", x.key(day, 0), RANGE);
            due("key(0, " + day + ")", x.key(0, day), RANGE);
        }
        x.pass(5);
        x.away(20, 7, 999);
        moveOn(x, 6, 5, 0);
        moveOn(x, 7, 5, 1);
        moveOn(x, 999, 999, 1);
        moveOn(x, 7, 4, 0);
        due("no score", new BellTable().key(999, 0), 0);

        promise(32, "Of the latest key() that was not RANGE, what 0: k, 1: STROKES that are left out, "
            + "2: those that are 12 above or below.");
        moveOn(x, 7, 5, 1);
        due("a day too far", x.key(1000, 5), RANGE);
        due("k", x.keyed(0), 1);
        due("a day too far", x.key(6, 1000), RANGE);
        due("k", x.keyed(0), 1);
        x.back(0, 7);
        due("as it was then", x.keyed(0), 1);
        moveOn(x, 7, 5, 0);
        keyIs(withBells(Texts.many(160), 12, 24), 480 - 8 * 2 - 8 * 3, 0, 160 - 8 - 8, 8);

        promise(32, "-99 for others, ahead of any, or if a score() came since.");
        for (int what : outside(0, 2)) {
            due("keyed(" + what + ")", x.keyed(what), -99);
        }
        BellTable y = withScore("at 0 20;");
        due("ahead of any", y.keyed(0), -99);
        y.key(-1, 0);
        for (int what = 0; what < 3; what++) {
            due("ahead of any but a refused one", y.keyed(what), -99);
        }
        y.key(0, 0);
        due("k", y.keyed(0), 0);
        y.damp();
        Texts.heard(y, "");
        Texts.manners(y, "");
        due("other calls", y.keyed(0), 0);
        Texts.score(y, "at 0 20;");
        for (int what = 0; what < 3; what++) {
            due("a score() came", y.keyed(what), -99);
        }
    }

    private static void counts() {
        promise(33, "What 0: STROKES, 1: USED BELLS, 2: RINGERS");
        BellTable z = withScore(Texts.many(160));
        due("as many as there can be", z.count(0), 160);
        due("each once", z.count(1), 40);
        z.ringers(12);
        due("as many as there can be", z.count(2), 12);
        Texts.score(z, "");
        due("no strokes", z.count(0), 0);
        due("no bells", z.count(1), 0);
        due("as many as told", z.count(2), 12);

        promise(33, "3: of these ABSENT ones, 4: 1 if there is a PARTING, else 0, 5: RINGERS with a BELL by it (0)");
        BellTable x = withScore("at 0 1 2 3;");
        due("no parting", x.count(4), 0);
        due("none with a bell", x.count(5), 0);
        x.part();
        due("a parting", x.count(4), 1);
        due("two with a bell", x.count(5), 2);
        x.give(1, 0);
        x.give(2, 1);
        due("three", x.count(5), 3);
        x.absent(0, true);
        x.absent(2, true);
        due("one who is absent, too", x.count(5), 3);
        due("absent ones", x.count(3), 2);
        x.ringers(12);
        due("no parting", x.count(4), 0);
        due("none with a bell", x.count(5), 0);
        due("none absent", x.count(3), 0);
        due("a parting of no bells", withParting("", 4).count(4), 1);
        due("a parting of no bells", withParting("", 4).count(5), 0);

        promise(33, "6: the CLOCK's day, 7: AWAY that were told, 8: bytes of THE TAPE.");
        BellTable y = new BellTable();
        y.pass(499);
        y.pass(500);
        y.away(0, 0, 0);
        y.back(0, 0);
        for (int i = 0; i < 60; i++) {
            y.feed(0, 0, 0, 0, 0);
        }
        due("the last day", y.count(6), 999);
        due("one, though it is back", y.count(7), 1);
        due("as many as there can be", y.count(8), 1200);

        promise(33, "NONE for others.");
        for (int what : outside(0, 8)) {
            due("count(" + what + ")", y.count(what), NONE);
        }
    }

    public static void main(String[] args) {
        clock();
        away();
        back();
        thereRange();
        keys();
        keyCalls();
        counts();
        finish(27, 33);
    }
}
