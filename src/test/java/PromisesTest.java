/** Each promise by its number: ordinary inputs, the edges that the document names, wrong inputs. */
public final class PromisesTest {
    private static int wrong = 0;
    private static int promise = 0;

    private static void due(String call, long got, long want) {
        if (got != want) {
            wrong++;
            System.out.println("promise " + promise + ": " + call + " answered " + got + ", due is " + want);
        }
    }

    private static BellTable withScore(String text) {
        BellTable x = new BellTable();
        Texts.score(x, text);
        return x;
    }

    private static void scoreFault(String text, int kind, int place) {
        BellTable x = new BellTable();
        due("score " + text, Texts.score(x, text), -1);
        due("kind of " + text, x.fault(0), kind);
        due("place of " + text, x.fault(1), place);
        due("tape is empty", x.count(8), 0);
    }

    private static void mannersFault(String text, int kind, int place) {
        BellTable x = new BellTable();
        due("manners " + text, Texts.manners(x, text), -1);
        due("kind of " + text, x.fault(0), kind);
        due("place of " + text, x.fault(1), place);
        due("tape is empty", x.count(8), 0);
    }

    private static void heardFault(String text, int kind, int place) {
        BellTable x = new BellTable();
        due("heard " + text, Texts.heard(x, text), -1);
        due("kind of " + text, x.fault(0), kind);
        due("place of " + text, x.fault(1), place);
        due("tape is empty", x.count(8), 0);
    }

    private static void newObject() {
        promise = 1;
        BellTable x = new BellTable();
        int[] counts = {0, 0, 4, 0, 0, 0, 0, 0, 0};
        for (int what = 0; what < counts.length; what++) {
            due("count(" + what + ")", x.count(what), counts[what]);
        }
        due("score", x.stroke(0, 0), -1);
        due("parting", x.load(0), -4);
        due("manners", x.rule(1), 4);
    }

    private static void feed() {
        promise = 2;
        BellTable x = new BellTable();
        for (int i = 1; i <= 60; i++) {
            due("feed", x.feed(0x61742030, 0x20313b20, 0x20202020, 0x20202020, 0x20202020), 20 * i);
        }
        due("feed beyond 1200", x.feed(0, 0, 0, 0, 0), -3);
        due("tape as before", x.count(8), 1200);
        due("end", x.end(1181), 1181);
        due("feed beyond 1200", x.feed(0, 0, 0, 0, 0), -3);
        due("end", x.end(1180), 1180);
        due("feed up to 1200", x.feed(0, 0, 0, 0, 0), 1200);
        due("end", x.end(7), 7);
        due("highest byte first", x.score(), 1);
        due("bell", x.stroke(0, 1), 1);
        due("behind", x.feed(0x61742030, 0x20302032, 0, 0, 0), 20);
        due("end", x.end(6), 6);
        due("behind the six", x.feed(0x20332034, 0x3b202020, 0x20202020, 0x20202020, 0x20202020), 26);
        due("text of both", x.score(), 3);
    }

    private static void end() {
        promise = 3;
        BellTable x = new BellTable();
        due("end(0)", x.end(0), 0);
        due("end(1)", x.end(1), -1);
        due("end(-1)", x.end(-1), -1);
        x.feed(0, 0, 0, 0, 0);
        due("end(21)", x.end(21), -1);
        due("stays", x.count(8), 20);
        due("end(20)", x.end(20), 20);
        due("end(min)", x.end(Integer.MIN_VALUE), -1);
        due("end(max)", x.end(Integer.MAX_VALUE), -1);
        due("end(3)", x.end(3), 3);
        due("end(4)", x.end(4), -1);
    }

    private static void score() {
        promise = 4;
        BellTable x = new BellTable();
        due("empty", Texts.score(x, ""), 0);
        due("blanks", Texts.score(x, " \n \n"), 0);
        due("tight", Texts.score(x, "at0 3for2stick 1shake;at0 2;at999 47for16;"), 4);
        due("tape is empty", x.count(8), 0);
        int[][] rows = {{0, 1, 1, 2}, {0, 2, 1, 0}, {0, 3, 2, 1}, {999, 47, 16, 0}};
        for (int k = 0; k < rows.length; k++) {
            for (int what = 0; what < 4; what++) {
                due("stroke(" + k + ", " + what + ")", x.stroke(k, what), rows[k][what]);
            }
        }
        due("with a leading zero", Texts.score(x, "at 007 007;"), 1);
        due("least and greatest", Texts.score(x, "at 000 000 for 1 47 for 016;"), 2);
        due("length", x.stroke(1, 2), 16);
        due("in any order", Texts.score(x, "at 5 9 for 2 7 stick 8 shake 1;at 5 3 for 4;"), 5);
        int[][] sorted = {{1, 1, 0}, {3, 4, 0}, {7, 1, 1}, {8, 1, 2}, {9, 2, 0}};
        for (int k = 0; k < sorted.length; k++) {
            for (int what = 1; what < 4; what++) {
                due("stroke(" + k + ", " + what + ")", x.stroke(k, what), sorted[k][what - 1]);
            }
        }
        due("160", Texts.score(x, Texts.many(160)), 160);
        due("fault", Texts.score(x, Texts.many(161)), -1);
        due("the one before stays", x.count(0), 160);
        forgets();
    }

    private static void forgets() {
        BellTable x = withScore("at 0 1;at 5 2;");
        x.part();
        x.hands(2);
        x.help(3);
        Texts.heard(x, "at 0 1;");
        x.key(0, 0);
        due("parting", x.count(4), 1);
        Texts.score(x, "at 0 1");
        due("parting stays with a fault", x.count(4), 1);
        due("hand stays with a fault", x.hand(0), 0);
        due("heard stays with a fault", x.more(), 0);
        Texts.score(x, "at 0 1;at 5 2;");
        due("parting", x.count(4), 0);
        due("hand", x.hand(0), -1);
        due("helped", x.helped(0), -1);
        due("more", x.more(), -1);
        due("laid", x.laid(0, 0), -9);
        due("keyed", x.keyed(0), -99);
    }

    private static void manners() {
        promise = 5;
        BellTable x = new BellTable();
        due("all", Texts.manners(x, "stick 9;reach 47;most 12;take 0;"), 4);
        int[] told = {0, 12, 47, 9};
        for (int what = 0; what < 4; what++) {
            due("rule(" + what + ")", x.rule(what), told[what]);
        }
        due("fault", Texts.manners(x, "take 3;reach 48;"), -1);
        due("they stay", x.rule(0), 0);
        due("tape is empty", x.count(8), 0);
        due("one", Texts.manners(x, "take 5;"), 1);
        int[] rest = {5, 4, 12, 1};
        for (int what = 0; what < 4; what++) {
            due("as at first but one: " + what, x.rule(what), rest[what]);
        }
        due("none", Texts.manners(x, ""), 0);
        due("as at first", x.rule(0), 1);
        mannersFault("take;", 1, 4);
        mannersFault("take 1", 1, 6);
        mannersFault("take 1 2;", 1, 7);
        mannersFault("take 10;", 2, 5);
        mannersFault("most 0;", 2, 5);
        mannersFault("most 13;", 2, 5);
        mannersFault("reach 48;", 2, 6);
        mannersFault("stick 10;", 2, 6);
        mannersFault("stick 1;stick", 3, 8);
        mannersFault("at 1 1;", 1, 0);
        mannersFault(";", 1, 0);
        due("a partition stays", partingAfterManners(), 1);
    }

    private static int partingAfterManners() {
        BellTable x = withScore("at 0 1;");
        x.part();
        Texts.manners(x, "most 1;");
        return x.count(4);
    }

    private static void fault() {
        promise = 6;
        BellTable x = new BellTable();
        due("ahead of any", x.fault(0), 0);
        due("ahead of any", x.fault(1), -1);
        due("other", x.fault(2), -1);
        due("other", x.fault(-1), -1);
        Texts.score(x, "at 0 48;");
        due("kind", x.fault(0), 2);
        due("place", x.fault(1), 5);
        Texts.manners(x, "");
        due("without", x.fault(0), 0);
        due("without", x.fault(1), -1);
        Texts.heard(x, "at 0 1 1;");
        due("of heard", x.fault(0), 3);
        due("of heard", x.fault(1), 7);
        Texts.score(x, "");
        due("without", x.fault(0), 0);
        scoreFaults();
        heardFaults();
    }

    private static void scoreFaults() {
        scoreFault("at", 1, 2);
        scoreFault("at 1 2  \n", 1, 9);
        scoreFault("at 1 ;", 1, 5);
        scoreFault("at 1 2;;", 1, 7);
        scoreFault("at 1 2; 3;", 1, 8);
        scoreFault("at at 1 2;", 1, 3);
        scoreFault("at 1 for 2;", 1, 5);
        scoreFault("at 1 2 for;", 1, 10);
        scoreFault("at 1 2 for stick;", 1, 11);
        scoreFault("at 1 2 for 2 for 2;", 1, 13);
        scoreFault("at 1 2 stick for 2;", 1, 13);
        scoreFault("at 1 2 stick shake;", 1, 13);
        scoreFault("at 1 2 shake stick;", 1, 13);
        scoreFault("at 1 2 shake for 2;", 1, 13);
        scoreFault("at 1 2 ring;", 1, 7);
        scoreFault("at 1 2 stickz;", 1, 7);
        scoreFault("at 1 2 stickaa;", 1, 7);
        scoreFault("at 1 2 sticks;", 1, 7);
        scoreFault("at 1 2 stic;", 1, 7);
        scoreFault("at 1 2 stickstick;", 1, 7);
        scoreFault("at 0001 2;", 1, 3);
        scoreFault("at 1 2 for 0016;", 1, 11);
        scoreFault("at 1 0471;", 1, 5);
        scoreFault("at 1 99999999999999;", 1, 5);
        scoreFault("AT 1 2;", 1, 0);
        scoreFault("at 1 2.", 1, 6);
        scoreFault("at 1 2\t;", 1, 6);
        scoreFault("at\r1 2;", 1, 2);
        scoreFault("at 1 -2;", 1, 5);
        scoreFault("at 1 \u00e9;", 1, 5);
        scoreFault("\u0000", 1, 0);
        scoreFault("at 1 48 2.", 2, 5);
        scoreFault("at 1 999;", 2, 5);
        scoreFault("at 1 2 for 0;", 2, 11);
        scoreFault("at 1 2 for 17;", 2, 11);
        scoreFault("at 5 2;at 4 3;", 2, 10);
        scoreFault("at 5 2 3 2;", 3, 9);
        scoreFault("at 5 2 3;at 5 4 3;", 3, 16);
        String full = Texts.many(160);
        scoreFault(full + "at 4 3;", 4, full.length() + 5);
        scoreFault(full + "at 4 48;", 2, full.length() + 5);
        scoreFault(full + "at 3 39;", 3, full.length() + 5);
        scoreFault(full + "at 3 ;", 1, full.length() + 5);
    }

    private static void heardFaults() {
        heardFault("at 1 2 stick;", 1, 7);
        heardFault("at 1;", 1, 4);
        heardFault("at 1 2", 1, 6);
        heardFault("at 1 48;", 2, 5);
        heardFault("at 1 2;at 0 2;", 2, 10);
        heardFault("at 1 2;at 1 2;", 3, 12);
        String full = Texts.many(160);
        heardFault(full + "at 4 3 2;", 4, full.length() + 5);
    }

    private static void rule() {
        promise = 7;
        BellTable x = new BellTable();
        int[] first = {1, 4, 12, 1};
        for (int what = 0; what < 4; what++) {
            due("rule(" + what + ")", x.rule(what), first[what]);
        }
        due("rule(4)", x.rule(4), -1);
        due("rule(-1)", x.rule(-1), -1);
        due("rule(min)", x.rule(Integer.MIN_VALUE), -1);
    }

    private static void stroke() {
        promise = 8;
        BellTable x = withScore("at 3 5 for 4;at 5 5 shake;at 7 6 for 2 stick;");
        int[][] rows = {{3, 5, 4, 0, 5}, {5, 5, 1, 2, 6}, {7, 6, 2, 1, 9}};
        for (int k = 0; k < rows.length; k++) {
            for (int what = 0; what < 5; what++) {
                due("stroke(" + k + ", " + what + ")", x.stroke(k, what), rows[k][what]);
            }
        }
        due("bell 0 rung again", withScore("at 0 0 for 9;at 2 0;").stroke(0, 4), 2);
        due("bell 47 rung again", withScore("at 0 47 for 9;at 2 47;").stroke(0, 4), 2);
        due("stroke(3, 0)", x.stroke(3, 0), -1);
        due("stroke(-1, 0)", x.stroke(-1, 0), -1);
        due("stroke(0, 5)", x.stroke(0, 5), -1);
        due("stroke(0, -1)", x.stroke(0, -1), -1);
    }

    private static void ringers() {
        promise = 9;
        BellTable x = withScore("at 0 1;");
        x.part();
        x.absent(2, true);
        due("ringers(0)", x.ringers(0), -2);
        due("ringers(13)", x.ringers(13), -2);
        due("ringers(-1)", x.ringers(-1), -2);
        due("parting stays", x.count(4), 1);
        due("absent stays", x.count(3), 1);
        due("ringers(12)", x.ringers(12), 4);
        due("parting", x.count(4), 0);
        due("absent", x.count(3), 0);
        due("ringers(1)", x.ringers(1), 12);
        due("count(2)", x.count(2), 1);
        x.part();
        x.ringers(1);
        due("parting, though as many", x.count(4), 0);
    }

    private static void absent() {
        promise = 10;
        BellTable x = withScore("at 0 1;");
        x.part();
        due("absent(3, true)", x.absent(3, true), 1);
        due("absent(3, true)", x.absent(3, true), 0);
        due("absent(4, true)", x.absent(4, true), -2);
        due("absent(-1, true)", x.absent(-1, true), -2);
        due("absent(0, false)", x.absent(0, false), 0);
        due("parting stays", x.parted(1), 3);
        due("absent(3, false)", x.absent(3, false), 1);
        due("count(3)", x.count(3), 0);
    }

    private static void hands() {
        promise = 11;
        BellTable x = withScore("at 0 1;at 2 2;at 4 3;");
        due("all", x.hands(14), 1);
        due("without strokes", x.hands(1), 0);
        due("none", x.hands(0), 0);
        due("all bits", x.hands((1L << 48) - 1), 1);
        due("bit 48", x.hands(1L << 48), -2);
        due("bit 63", x.hands(Long.MIN_VALUE), -2);
        due("just in time", withScore("at 0 1 2;at 2 3;").hands(14), 1);
        due("too early", withScore("at 0 1 2;at 1 3;").hands(14), -1);
        due("three at once", withScore("at 0 1 2 3;").hands(14), -1);
        due("length counts", withScore("at 0 1 for 2 2 for 2;at 2 3;").hands(14), -1);
        due("length counts", withScore("at 0 1 for 2 2 for 2;at 3 3;").hands(14), 1);
        due("same bell, rung long", withScore("at 0 1 for 9;at 1 1;").hands(2), 0);
        due("same bell, shaken too long", withScore("at 0 1 for 3 shake;at 2 1;").hands(2), -1);
        due("same bell, shaken just enough", withScore("at 0 1 for 3 shake;at 3 1;").hands(2), 0);
        due("sticks at once", withScore("at 0 1 stick 2 stick 3 stick;").hands(14), -1);
        due("sticks", withScore("at 0 1 for 9 stick 2 stick;at 1 3 stick;").hands(14), 0);
        due("to a stick", withScore("at 0 1 2;at 2 3 stick;").hands(14), -1);
        due("to a stick", withScore("at 0 1 2;at 3 3 stick;").hands(14), 1);
        due("from a stick", withScore("at 0 1 for 9 stick 2 for 9 stick;at 2 3;").hands(14), -1);
        due("from a stick", withScore("at 0 1 for 9 stick 2 for 9 stick;at 3 3;").hands(14), 1);
        due("the same bell with a stick", withScore("at 0 1;at 2 1 stick;").hands(2), -1);
        due("the same bell with a stick", withScore("at 0 1;at 3 1 stick;").hands(2), 1);
        due("the other hand too", withScore("at 0 1;at 1 1 stick;at 2 2 stick;").hands(6), -1);
        BellTable y = new BellTable();
        Texts.manners(y, "take 0;stick 0;");
        Texts.score(y, "at 0 1 2;at 1 3 4;");
        due("take 0", y.hands(30), 2);
        atMost();
    }

    /** As many STROKES as there can be, all with one RINGER. */
    private static void atMost() {
        StringBuilder both = new StringBuilder();
        StringBuilder one = new StringBuilder();
        for (int beat = 0; beat < 159; beat++) {
            both.append(beat < 80 ? "at" + beat + " 0 1;" : "");
            one.append("at" + beat + (beat == 80 ? " 0 1;" : " 0;"));
        }
        BellTable x = withScore(both.toString());
        due("160", x.count(0), 160);
        due("hands", x.hands(3), 0);
        due("hand", x.hand(158), 0);
        due("hand", x.hand(159), 1);
        BellTable y = withScore(one.toString());
        due("160", y.count(0), 160);
        due("hands", y.hands(3), 0);
        y.part();
        due("one each", y.give(0, 3), 3);
        y.give(1, 3);
        due("load", y.load(3), 0);
        due("help", y.help(3), 0);
        due("helped", y.helped(0), 0);
        y.give(1, 2);
        due("help with one of one", y.help(2), 0);
        due("helped", y.helped(0), 81);
        due("helped", y.helped(1), 1);
        y.absent(1, true);
        due("help into a row of 159", y.help(2), 0);
        due("helped", y.helped(1), 3);
    }

    private static void hand() {
        promise = 12;
        BellTable x = withScore("at 0 1;at 3 2;at 6 1;at 9 2;at 12 3;");
        due("ahead of any", x.hand(0), -1);
        due("takes", x.hands(6), 0);
        int[] row = {0, 1, 0, 1, -1};
        for (int k = 0; k < row.length; k++) {
            due("hand(" + k + ")", x.hand(k), row[k]);
        }
        due("hand(5)", x.hand(5), -1);
        due("hand(-1)", x.hand(-1), -1);
        due("range", x.hands(-1), -2);
        due("stays", x.hand(1), 1);
        due("load and part", x.part(), 0);
        due("stays", x.hand(1), 1);
        due("takes", x.hands(14), 1);
        int[] all = {0, 1, 0, 1, 0};
        for (int k = 0; k < all.length; k++) {
            due("least row: hand(" + k + ")", x.hand(k), all[k]);
        }
        x.damp();
        due("a damp came", x.hand(0), -1);
        x.hands(14);
        Texts.manners(x, "take 1;");
        due("manners came", x.hand(0), -1);
        x.hands(14);
        Texts.score(x, "at 0 1;");
        due("a score came", x.hand(0), -1);
        Texts.score(x, "at 0 1;at 0 2 3;at 4 4;");
        x.hands(2);
        due("it can't be", x.hands(14), -1);
        due("the latest that told stays", x.hand(0), 0);
        due("without strokes", x.hands(1), 0);
        due("isn't of the set", x.hand(0), -1);
    }

    private static void part() {
        promise = 13;
        BellTable x = withScore("");
        due("without strokes", x.part(), 0);
        due("parting", x.count(4), 1);
        x = withScore("at 0 1 2 3 4 5 6 7 8;");
        due("two each", x.part(), 0);
        due("bell 1", x.parted(1), 0);
        due("bell 8", x.parted(8), 3);
        x.absent(1, true);
        due("one too few", x.part(), -1);
        due("the parting stays", x.parted(3), 1);
        x = withScore("at 0 1;at 5 14;at 9 15;");
        x.ringers(2);
        due("reach parts them", x.part(), 0);
        due("bell 14", x.parted(14), 1);
        due("bell 1", x.parted(1), 0);
        x = withScore("at 0 1;at 5 13;");
        due("reach is enough", x.part(), 0);
        due("the last one has both", x.parted(1), 3);
        Texts.manners(x, "most 1;");
        due("most parts them", x.part(), 0);
        due("bell 1", x.parted(1), 2);
        x = withScore("at 0 0;at 9 1;at 18 2;at 27 3;at 36 4;");
        due("five bells", x.part(), 0);
        due("fewest with a bell", x.count(5), 3);
        due("least row", x.parted(0), 1);
        due("least row", x.parted(1), 2);
        due("least row", x.parted(2), 2);
        due("least row", x.parted(4), 3);
        x.ringers(2);
        due("takes", x.part(), 1);
        due("least row of as good ones", x.parted(2), 1);
        x.absent(0, true);
        due("most", x.part(), -1);
    }

    private static void give() {
        promise = 14;
        BellTable x = withScore("at 0 1;at 5 2;");
        due("no parting", x.give(1, 0), -4);
        due("no such ringer first", x.give(1, 4), -2);
        x.part();
        due("give(1, 0)", x.give(1, 0), 3);
        due("give(1, 2)", x.give(1, 2), 0);
        due("parted(1)", x.parted(1), 2);
        due("parted(2)", x.parted(2), 3);
        due("no such ringer", x.give(1, 4), -2);
        due("no such ringer", x.give(1, -1), -2);
        due("not used", x.give(3, 0), -2);
        due("no bell", x.give(48, 0), -2);
        due("no bell", x.give(-1, 0), -2);
        x.absent(1, true);
        due("to one who is absent", x.give(2, 1), 3);
        due("parted(2)", x.parted(2), 1);
    }

    private static void parted() {
        promise = 15;
        BellTable x = withScore("at 0 1;");
        due("no parting", x.parted(1), -1);
        x.part();
        due("parted(1)", x.parted(1), 3);
        due("not used", x.parted(0), -1);
        due("no bell", x.parted(48), -1);
        due("no bell", x.parted(-1), -1);
        x.ringers(4);
        due("no parting", x.parted(1), -1);
    }

    private static void load() {
        promise = 16;
        BellTable x = withScore("at 0 1;at 2 2;at 4 3;at 6 1;");
        due("no parting", x.load(0), -4);
        due("no such ringer first", x.load(4), -2);
        x.part();
        due("load(0)", x.load(0), 0);
        x.give(1, 0);
        x.give(2, 0);
        x.give(3, 0);
        due("load(0)", x.load(0), 1);
        due("no such ringer", x.load(-1), -2);
        Texts.manners(x, "take 6;");
        due("it can't be", x.load(0), -1);
        x.absent(0, true);
        due("of one who is absent", x.load(0), -1);
    }

    private static void cover() {
        promise = 17;
        BellTable x = withScore("at 0 1;at 9 2;at 18 3;at 27 4;");
        due("no parting", x.cover(0), -4);
        due("no such ringer first", x.cover(4), -2);
        due("part", x.part(), 0);
        due("two each", x.parted(2), 2);
        due("two each", x.parted(3), 3);
        due("no such ringer", x.cover(-1), -2);
        due("those of the last one", x.cover(3), 2);
        due("bell 1", x.parted(1), 2);
        due("bell 4", x.parted(4), 2);
        due("not made absent", x.count(3), 0);
        due("one who has none", x.cover(0), 0);
        due("as few as can be", x.cover(2), 4);
        due("then the least of takes", x.load(3), 0);
        due("fewest ringers", x.count(5), 2);
        x.ringers(1);
        due("part", x.part(), 2);
        due("nobody is left", x.cover(0), -1);
        due("all stays", x.parted(1), 0);
        BellTable y = withScore("");
        y.part();
        due("no bells", y.cover(0), 0);
    }

    private static void help() {
        promise = 18;
        BellTable x = withScore("at 0 1 2 3;at 9 1;");
        due("no parting", x.help(0), -4);
        due("no such ringer first", x.help(4), -2);
        x.part();
        for (int bell = 1; bell <= 3; bell++) {
            x.give(bell, 1);
        }
        due("no such ringer", x.help(-1), -2);
        due("no such ringer", x.help(12), -2);
        due("can't without", x.load(1), -1);
        due("helped", x.help(1), 0);
        due("the least sum ahead of the least stroke", x.helped(0), 1);
        due("the one below", x.helped(1), 0);
        x.absent(0, true);
        due("helped", x.help(1), 0);
        due("the one above", x.helped(1), 2);
        x.absent(2, true);
        due("nobody", x.help(1), -1);
        due("one without bells", x.help(3), -1);
        BellTable y = withScore("at 0 1 2;at 3 3;at 6 1;");
        y.ringers(2);
        y.part();
        for (int bell = 1; bell <= 3; bell++) {
            y.give(bell, 0);
        }
        due("load", y.load(0), 1);
        due("asked where it can be without", y.help(0), 0);
        due("stroke", y.helped(0), 1);
        due("ringer", y.helped(1), 1);
    }

    private static void helped() {
        promise = 19;
        BellTable x = withScore("at 0 1;at 5 2;");
        due("ahead of any", x.helped(0), -1);
        due("ahead of any", x.helped(1), -1);
        x.part();
        due("help(3)", x.help(3), 0);
        due("helped(0)", x.helped(0), 0);
        due("helped(1)", x.helped(1), 2);
        due("helped(2)", x.helped(2), -1);
        due("helped(-1)", x.helped(-1), -1);
        due("none", x.help(0), -1);
        due("the latest that told stays", x.helped(1), 2);
        x.ringers(2);
        due("stays", x.helped(1), 2);
        Texts.score(x, "");
        due("a score came", x.helped(0), -1);
        due("a score came", x.helped(1), -1);
    }

    private static void clashes() {
        promise = 20;
        due("no score", new BellTable().clashes(), 0);
        due("at the same beat", withScore("at 0 1 2;").clashes(), 1);
        due("two apart", withScore("at 0 1 3;").clashes(), 0);
        due("while it sounds", withScore("at 0 1 for 2;at 1 2;").clashes(), 1);
        due("behind its end", withScore("at 0 1 for 2;at 2 2;").clashes(), 0);
        due("rung again", withScore("at 0 1 for 9;at 2 1;at 3 2;").clashes(), 0);
        due("the last beat", withScore("at 0 1 for 9;at 1 2;at 2 1;").clashes(), 1);
        due("both sides", withScore("at 0 1 2 3;").clashes(), 2);
    }

    private static void clash() {
        promise = 21;
        BellTable x = withScore("at 0 5 for 4 6;at 2 4 for 9 6;at 5 5;");
        int[][] rows = {{0, 1, 1}, {0, 2, 2}, {0, 3, 1}, {2, 4, 1}};
        due("clashes", x.clashes(), rows.length);
        for (int i = 0; i < rows.length; i++) {
            for (int what = 0; what < 3; what++) {
                due("clash(" + i + ", " + what + ")", x.clash(i, what), rows[i][what]);
            }
        }
        due("clash(4, 0)", x.clash(4, 0), -1);
        due("clash(-1, 0)", x.clash(-1, 0), -1);
        due("clash(0, 3)", x.clash(0, 3), -1);
        due("clash(0, -1)", x.clash(0, -1), -1);
        due("no score", new BellTable().clash(0, 0), -1);
    }

    private static void damp() {
        promise = 22;
        BellTable x = withScore("at 0 5 for 4 6 for 3;at 2 4 for 9 6;at 5 5;");
        due("damp", x.damp(), 2 + 6);
        int[] lengths = {2, 3, 3, 1, 1};
        for (int k = 0; k < lengths.length; k++) {
            due("length of " + k, x.stroke(k, 2), lengths[k]);
        }
        due("sounds as long", x.stroke(2, 4), 5);
        due("one at the same beat stays", x.clashes(), 1);
        due("no more", x.damp(), 0);
        due("as they are ahead of it", withScore("at 0 1 for 9;at 1 2 for 9;at 2 3;").damp(), 8 + 8);
        due("no score", new BellTable().damp(), 0);
        BellTable y = withScore("at 0 1 for 4 5 for 4;at 1 2;at 2 7;");
        due("ahead", y.hands(162), -1);
        due("damp", y.damp(), 3);
        due("hands by the lengths as they are now", y.hands(162), 1);
        BellTable z = withScore("at 0 1 for 4 2;at 3 2;at 5 3;");
        z.ringers(1);
        due("ahead", z.part(), 1);
        due("parting stays", partedAfterDamp(z), 0);
        due("weighed anew", z.part(), 1);
        Texts.manners(y, "take 0;");
        Texts.score(y, "at 0 1 for 4 5 for 4;at 1 2;at 2 7;");
        y.ringers(1);
        due("ahead", y.part(), -1);
        y.damp();
        due("weighed anew", y.part(), 2);
    }

    private static int partedAfterDamp(BellTable x) {
        x.damp();
        return x.parted(1);
    }

    private static void heard() {
        promise = 23;
        BellTable x = withScore("at 0 1;at 2 2;at 4 3;");
        due("as told", Texts.heard(x, "at 0 1;at 2 2;at 4 3;"), 0);
        due("tape is empty", x.count(8), 0);
        due("late and early", Texts.heard(x, "at 1 1;at 2 2 3;"), 1 + 0 + 2);
        due("too late", Texts.heard(x, "at 2 2;at 3 1;at 4 3;"), 3 + 0 + 3);
        due("another bell", Texts.heard(x, "at 0 9;at 2 2;at 4 3;"), 2);
        due("none", Texts.heard(x, ""), 9);
        due("fault", Texts.heard(x, "at 0 1 2 stick;"), -1);
        due("all stays", x.laid(0, 0), 0);
        due("tape is empty", x.count(8), 0);
        due("no score", Texts.heard(new BellTable(), "at 0 1 2;"), 6);
        due("pairs go forth", Texts.heard(withScore("at 0 1;at 1 2;"), "at 0 2;at 1 1;"), 4);
        due("many", Texts.heard(withScore(Texts.many(160)), Texts.many(160)), 0);
        due("many", Texts.heard(withScore(Texts.many(160)), ""), 480);
        due("many", Texts.heard(withScore(""), Texts.many(160)), 480);
    }

    private static void laid() {
        promise = 24;
        BellTable x = withScore("at 2 1;at 4 2;at 6 3;at 9 4;");
        due("ahead of any", x.laid(0, 0), -9);
        due("heard", Texts.heard(x, "at 1 1;at 4 7;at 8 3;"), 1 + 2 + 2 + 3);
        int[][] rows = {{1, -1, 1}, {1, 0, 7}, {1, 2, 3}, {0, 0, -1}};
        for (int k = 0; k < rows.length; k++) {
            for (int what = 0; what < 3; what++) {
                due("laid(" + k + ", " + what + ")", x.laid(k, what), rows[k][what]);
            }
        }
        due("laid(4, 0)", x.laid(4, 0), -9);
        due("laid(-1, 0)", x.laid(-1, 0), -9);
        due("laid(0, 3)", x.laid(0, 3), -9);
        due("laid(0, -1)", x.laid(0, -1), -9);
        BellTable y = withScore("at 0 1;at 2 1;");
        due("one for both", Texts.heard(y, "at 1 1;"), 4);
        due("a pair first", y.laid(0, 0), 1);
        due("then missed", y.laid(1, 0), 0);
    }

    private static void more() {
        promise = 25;
        BellTable x = withScore("at 0 1;");
        due("ahead of any", x.more(), -1);
        Texts.heard(x, "at 0 1 2;at 9 9;");
        due("more", x.more(), 2);
        Texts.heard(x, "at 0 1 1;");
        due("stays with a fault", x.more(), 2);
        Texts.heard(x, "at 0 1;");
        due("more", x.more(), 0);
        Texts.score(x, "at 0 1;");
        due("a score came", x.more(), -1);
    }

    private static void blame() {
        promise = 26;
        BellTable x = withScore("at 0 1;at 5 2;at 9 14;");
        due("nothing", x.blame(0), -4);
        due("no such ringer first", x.blame(4), -2);
        x.part();
        due("no heard", x.blame(0), -4);
        due("heard", Texts.heard(x, "at 1 1;at 5 7;at 20 14;at 30 7;"), 1 + 2 + 3 + 3 + 3);
        due("bells", x.parted(1), 2);
        due("bells", x.parted(2), 3);
        due("blame(2)", x.blame(2), 1);
        due("blame(3)", x.blame(3), 2 + 3 + 3);
        due("blame(0)", x.blame(0), 0);
        due("no such ringer", x.blame(-1), -2);
        x.give(14, 0);
        due("as it is now", x.blame(0), 6);
        BellTable y = withScore("at 0 0;at 5 47;");
        y.part();
        Texts.heard(y, "at 0 0;at 5 47;at 9 0 47;");
        due("more on bell 0", y.blame(2), 3);
        due("more on bell 47", y.blame(3), 3);
        Texts.heard(y, "at 0 0;at 5 47;");
        due("no more", y.blame(2) + y.blame(3), 0);
        x.ringers(4);
        due("no parting", x.blame(0), -4);
        x.part();
        due("by the heard() before", x.blame(3), 8);
    }

    private static void pass() {
        promise = 27;
        BellTable x = new BellTable();
        due("pass(0)", x.pass(0), -2);
        due("pass(-1)", x.pass(-1), -2);
        due("pass(501)", x.pass(501), -2);
        due("pass(max)", x.pass(Integer.MAX_VALUE), -2);
        due("pass(500)", x.pass(500), 500);
        due("pass(500)", x.pass(500), -2);
        due("stays", x.count(6), 500);
        due("pass(1)", x.pass(1), 501);
        due("pass(498)", x.pass(498), 999);
        due("pass(1)", x.pass(1), -2);
    }

    private static void away() {
        promise = 28;
        BellTable x = new BellTable();
        due("bell 48", x.away(48, 0, 0), -2);
        due("bell -1", x.away(-1, 0, 0), -2);
        due("day -1", x.away(0, -1, 0), -2);
        due("day 1000", x.away(0, 0, 1000), -2);
        due("ahead of the first", x.away(0, 2, 1), -2);
        for (int a = 0; a < 60; a++) {
            due("away", x.away(47, 999, 999), a);
        }
        due("no room", x.away(0, 0, 0), -3);
        due("range first", x.away(48, 0, 0), -2);
        due("count(7)", x.count(7), 60);
        due("there", x.there(47, 999, 0), 0);
        due("there", x.there(47, 998, 0), 1);
        due("there", x.there(46, 999, 0), 1);
    }

    private static void back() {
        promise = 29;
        BellTable x = new BellTable();
        due("none such", x.back(0, 0), -2);
        x.away(1, 5, 9);
        due("day -1", x.back(0, -1), -2);
        due("day 1000", x.back(0, 1000), -2);
        due("back(-1, 0)", x.back(-1, 0), -2);
        due("back(1, 0)", x.back(1, 0), -2);
        due("back", x.back(0, 7), 1);
        due("told", x.back(0, 7), -4);
        due("range first", x.back(0, 1000), -2);
        due("there", x.there(1, 6, 0), 0);
        due("there", x.there(1, 7, 0), 1);
    }

    private static void there() {
        promise = 30;
        BellTable x = new BellTable();
        due("bell 48", x.there(48, 0, 0), -2);
        due("bell -1", x.there(-1, 0, 0), -2);
        due("day 1000", x.there(0, 1000, 0), -2);
        due("day -1", x.there(0, -1, 0), -2);
        due("known 1000", x.there(0, 0, 1000), -2);
        due("known -1", x.there(0, 0, -1), -2);
        due("all", x.there(0, 0, 0), 1);
        x.pass(10);
        x.away(3, 20, 30);
        x.pass(5);
        x.away(3, 25, 40);
        due("not known yet", x.there(3, 20, 9), 1);
        due("known", x.there(3, 20, 10), 0);
        due("ahead of it", x.there(3, 19, 999), 1);
        due("behind it", x.there(3, 41, 999), 1);
        due("the last day", x.there(3, 40, 999), 0);
        due("by the first alone", x.there(3, 31, 14), 1);
        x.pass(5);
        x.back(0, 20);
        due("back of one", x.there(3, 24, 20), 1);
        due("not known yet", x.there(3, 24, 19), 0);
        due("each must have one", x.there(3, 25, 20), 0);
        x.back(1, 28);
        due("ahead of it", x.there(3, 27, 20), 0);
        due("each has one", x.there(3, 28, 20), 1);
    }

    private static void key() {
        promise = 31;
        BellTable x = new BellTable();
        due("day 1000", x.key(1000, 0), -2);
        due("day -1", x.key(-1, 0), -2);
        due("known 1000", x.key(0, 1000), -2);
        due("known -1", x.key(0, -1), -2);
        due("no score", x.key(0, 0), 0);
        due("no score", x.keyed(0), 0);
        x = withScore("at 0 20;");
        due("as it is", x.key(0, 0), 0);
        x.away(20, 0, 9);
        due("moved", x.key(0, 0), 0);
        due("above 0 first", x.keyed(0), 1);
        x.away(21, 0, 9);
        x.key(0, 0);
        due("below", x.keyed(0), -1);
        due("other day", x.key(10, 0), 0);
        due("not moved", x.keyed(0), 0);
        farthest(32, 12);
        farthest(8, -12);
        octaves();
    }

    /** A STROKE on BELL 20, and one BELL alone is there. */
    private static void farthest(int bell, int k) {
        BellTable x = withScore("at 0 20;");
        for (int b = 0; b < 48; b++) {
            if (b != bell) {
                x.away(b, 0, 9);
            }
        }
        due("moved by " + k, x.key(0, 0), 0);
        due("k", x.keyed(0), k);
    }

    private static void octaves() {
        BellTable x = withScore("at 0 0 47;");
        for (int bell = 1; bell < 47; bell++) {
            if (bell != 12) {
                x.away(bell, 0, 9);
            }
        }
        due("both", x.key(0, 0), 0);
        x.away(0, 0, 9);
        due("one 12 above", x.key(0, 0), 1);
        due("k", x.keyed(0), 0);
        due("left out", x.keyed(1), 0);
        due("12 above", x.keyed(2), 1);
        x.away(12, 0, 9);
        due("one left out", x.key(0, 0), 3);
        due("left out", x.keyed(1), 1);
        due("12 above", x.keyed(2), 0);
        BellTable y = withScore("at 0 47;");
        for (int bell = 0; bell < 48; bell++) {
            if (bell != 36) {
                y.away(bell, 0, 9);
            }
        }
        due("moved", y.key(0, 0), 0);
        due("k", y.keyed(0), -11);
        due("12 below that isn't there", Texts.score(y, "at 0 35 47;"), 2);
        y.key(0, 0);
        due("k", y.keyed(0), 1);
        due("12 below one that is none", y.keyed(2), 1);
    }

    private static void keyed() {
        promise = 32;
        BellTable x = withScore("at 0 1;");
        due("ahead of any", x.keyed(0), -99);
        x.key(-1, 0);
        due("was RANGE", x.keyed(0), -99);
        x.key(0, 0);
        due("keyed(0)", x.keyed(0), 0);
        due("keyed(3)", x.keyed(3), -99);
        due("keyed(-1)", x.keyed(-1), -99);
        x.away(1, 0, 0);
        due("of the latest", x.keyed(0), 0);
        x.key(0, 0);
        x.key(0, 1000);
        due("of the latest that was not RANGE", x.keyed(0), 1);
        Texts.score(x, "at 0 1;");
        due("a score came", x.keyed(0), -99);
        due("a score came", x.keyed(1), -99);
    }

    private static void count() {
        promise = 33;
        BellTable x = withScore("at 0 1 2;at 1 1;at 3 40;");
        x.ringers(5);
        x.absent(0, true);
        x.absent(2, true);
        x.part();
        x.pass(9);
        x.away(0, 0, 0);
        x.feed(0, 0, 0, 0, 0);
        x.end(13);
        int[] counts = {4, 3, 5, 2, 1, 2, 9, 1, 13};
        for (int what = 0; what < counts.length; what++) {
            due("count(" + what + ")", x.count(what), counts[what]);
        }
        due("count(9)", x.count(9), -1);
        due("count(-1)", x.count(-1), -1);
        x.ringers(5);
        due("no parting", x.count(5), 0);
    }

    public static void main(String[] args) {
        newObject();
        feed();
        end();
        score();
        manners();
        fault();
        rule();
        stroke();
        ringers();
        absent();
        hands();
        hand();
        part();
        give();
        parted();
        load();
        cover();
        help();
        helped();
        clashes();
        clash();
        damp();
        heard();
        laid();
        more();
        blame();
        pass();
        away();
        back();
        there();
        key();
        keyed();
        count();
        System.out.println(wrong == 0 ? "all answers are as due" : wrong + " answers are not as due");
        if (wrong != 0) {
            System.exit(1);
        }
    }
}
