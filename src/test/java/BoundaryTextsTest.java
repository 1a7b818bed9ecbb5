/** The boundary cases of the document's Terms I and of promises 1 to 10: the tape, its texts, those who ring. */
public final class BoundaryTextsTest extends Boundary {
    private static final int[] AT_FIRST = {1, 4, 12, 1};

    private static void scoreFault(String text, int kind, int place) {
        BellTable x = new BellTable();
        due("score of " + text, Texts.score(x, text), NONE);
        due("kind of " + text, x.fault(0), kind);
        due("place of " + text, x.fault(1), place);
    }

    private static void mannersFault(String text, int kind, int place) {
        BellTable x = new BellTable();
        due("manners of " + text, Texts.manners(x, text), NONE);
        due("kind of " + text, x.fault(0), kind);
        due("place of " + text, x.fault(1), place);
    }

    private static void heardFault(String text, int kind, int place) {
        BellTable x = new BellTable();
        due("heard of " + text, Texts.heard(x, text), NONE);
        due("kind of " + text, x.fault(0), kind);
        due("place of " + text, x.fault(1), place);
    }

    private static void goodScore(String text, int strokes) {
        BellTable x = new BellTable();
        due("score of " + text, Texts.score(x, text), strokes);
        due("no fault in " + text, x.fault(0), 0);
    }

    private static void row(BellTable x, int k, int... want) {
        for (int what = 0; what < want.length; what++) {
            due("stroke(" + k + ", " + what + ")", x.stroke(k, what), want[what]);
        }
    }

    private static void rules(BellTable x, int... want) {
        for (int what = 0; what < want.length; what++) {
            due("rule(" + what + ")", x.rule(what), want[what]);
        }
    }

    private static void lastCall() {
        terms("An object is used for at most 512 calls after it has been made");
        BellTable x = new BellTable();
        for (int i = 1; i < 512; i++) {
            due("call " + i, x.absent(0, i % 2 == 1), 1);
        }
        due("call 512", x.count(3), 1);
    }

    private static void constants() {
        terms("The constants: `NONE = -1`: There is none.");
        due("NONE", BellTable.NONE, NONE);
        terms("`RANGE = -2`: A number that can't be.");
        due("RANGE", BellTable.RANGE, RANGE);
        terms("`FULL = -3`: No room.");
        due("FULL", BellTable.FULL, FULL);
        terms("`STATE = -4`: Not as things are.");
        due("STATE", BellTable.STATE, STATE);
    }

    private static void bellsAndRingers() {
        terms("BELLS 0 .. 47 lie on the table by number.");
        BellTable x = withScore("at 0 47 0;");
        due("the least", x.stroke(0, 1), 0);
        due("the greatest", x.stroke(1, 1), 47);
        scoreFault("at 0 48;", BOUNDS, 5);

        terms("RINGERS 0 .. 11 stand along it by number (so many as are told; 4 at first), some of them ABSENT.");
        BellTable y = new BellTable();
        due("the first", y.absent(0, true), 1);
        due("the last of four", y.absent(3, true), 1);
        due("a fifth", y.absent(4, true), RANGE);
        due("some", y.count(3), 2);
        y.ringers(12);
        due("the last of twelve", y.absent(11, true), 1);
        due("a thirteenth", y.absent(12, true), RANGE);
    }

    private static void tape() {
        terms("THE TAPE has at most 1200 bytes;");
        String whole = "at 0" + " ".repeat(1194) + "1;";
        goodScore(whole, 1);
        scoreFault(whole.substring(0, 1199) + " ", SYNTAX, 1200);
        scoreFault(whole.substring(0, 1199) + ".", SYNTAX, 1199);

        terms("each call that reads it empties it, whatever it tells.");
        String[] texts = {"at 0 1;", "take 1;", "", "at 0", "at 0 48;", "at 0 1 1;", "take 1;take 1;", "...."};
        for (String text : texts) {
            BellTable x = new BellTable();
            Texts.score(x, text);
            due("score of " + text, x.count(8), 0);
            Texts.manners(x, text);
            due("manners of " + text, x.count(8), 0);
            Texts.heard(x, text);
            due("heard of " + text, x.count(8), 0);
            due("nothing is left to cut", x.end(1), NONE);
            due("nothing is left to read", x.score(), 0);
            due("the next bytes are the first", x.feed(0, 0, 0, 0, 0), 20);
        }
    }

    private static void tokens() {
        terms("TOKENS with any blanks (32, 10) between:");
        goodScore("at0 1for2stick 3shake;at0 4;", 3);
        goodScore("\n \nat\n\n0 \n 1  for\n2\n\nstick 3 shake\n;\n  at 0\n4 ;\n\n", 3);
        for (int b : new int[] {0, 9, 11, 12, 13, 31, 33, 128 + 10, 128 + 32}) {
            scoreFault("at" + (char) b + "0 1;", SYNTAX, 2);
        }

        terms("WORDS (small letters, as many as there are, 8 at most)");
        for (char letter = 'a'; letter <= 'z'; letter++) {
            scoreFault("at 1 2 stick" + letter + ";", SYNTAX, 7);
        }
        for (char none : new char[] {'`', '{', 'A', 'K', 'Z', '@', '[', 128 + 'k'}) {
            scoreFault("at 1 2 stick" + none + ";", SYNTAX, 12);
        }
        scoreFault("ut 1 2;", SYNTAX, 0);
        scoreFault("a 1 2;", SYNTAX, 0);
        scoreFault("atat 1 2;", SYNTAX, 0);
        scoreFault("at 1 2 abcdefgh;", SYNTAX, 7);
        scoreFault("at 1 2 abcdefghi;", SYNTAX, 7);
        scoreFault("at 1 2 shakesticks;", SYNTAX, 7);

        terms("N (digits, as many as there are, 3 at most)");
        goodScore("at 999 047;", 1);
        due("047 is one bell", withScore("at 0 047;").stroke(0, 1), 47);
        for (int digit = 0; digit <= 9; digit++) {
            due("two digits are one bell", withScore("at 0 3" + digit + ";").stroke(0, 1), 30 + digit);
        }
        scoreFault("at 0000 1;", SYNTAX, 3);
        scoreFault("at 0 0001;", SYNTAX, 5);
        scoreFault("at 0 1 for 0016;", SYNTAX, 11);
        mannersFault("take 0001;", SYNTAX, 5);
        heardFault("at 0 0001;", SYNTAX, 5);
        scoreFault("at 0 4294967297;", SYNTAX, 5);
        scoreFault("at 0 18446744073709551617;", SYNTAX, 5);
        scoreFault("at 0 1/;", SYNTAX, 6);
        scoreFault("at 0 1:;", SYNTAX, 6);
        scoreFault("at 0 1" + (char) (128 + '1') + ";", SYNTAX, 6);
    }

    private static void scoreText() {
        terms("A SCORE's text = {\"at\" N STROKE {STROKE} \";\"}.");
        goodScore("", 0);
        goodScore(" \n", 0);
        goodScore("at 0 1;", 1);
        goodScore("at 0 1 2;at 1 1;", 3);
        scoreFault("at;", SYNTAX, 2);
        scoreFault("at 0;", SYNTAX, 4);
        scoreFault("at 0 1;;", SYNTAX, 7);
        scoreFault("at 0 1;2;", SYNTAX, 7);
        scoreFault(";", SYNTAX, 0);

        terms("STROKE = N [\"for\" N] [\"stick\" | \"shake\"]:");
        goodScore("at 0 1 for 2 stick 2 for 2 shake 3 stick 4 shake 5 for 2 6;", 6);
        scoreFault("at 0 1 for;", SYNTAX, 10);
        scoreFault("at 0 1 for stick;", SYNTAX, 11);
        scoreFault("at 0 1 for 2 for 2;", SYNTAX, 13);
        scoreFault("at 0 1 stick for 2;", SYNTAX, 13);
        scoreFault("at 0 1 shake for 2;", SYNTAX, 13);
        scoreFault("at 0 1 stick shake;", SYNTAX, 13);
        scoreFault("at 0 1 shake stick;", SYNTAX, 13);
        scoreFault("at 0 1 shake shake;", SYNTAX, 13);
        scoreFault("at 0 1 for 2 stick stick;", SYNTAX, 19);
        scoreFault("at 0 for 2;", SYNTAX, 5);
        scoreFault("at 0 stick;", SYNTAX, 5);

        terms("its LENGTH in beats (1 .. 16; 1 if it isn't told)");
        BellTable x = withScore("at 0 1 for 1 2 for 16 3;");
        due("the least", x.stroke(0, 2), 1);
        due("the greatest", x.stroke(1, 2), 16);
        due("isn't told", x.stroke(2, 2), 1);
        scoreFault("at 0 1 for 0;", BOUNDS, 11);
        scoreFault("at 0 1 for 17;", BOUNDS, 11);

        terms("its MANNER (0 rung, 1 with a stick, 2 shaken)");
        BellTable y = withScore("at 0 1 2 stick 3 shake 4;");
        for (int k = 0; k < 4; k++) {
            due("manner of " + k, y.stroke(k, 3), k % 3);
        }

        terms("a beat, 0 .. 999, not below that of the clause ahead.");
        goodScore("at 0 1;at 0 2;at 999 3;at 999 4;", 4);
        scoreFault("at 1 1;at 0 2;", BOUNDS, 10);
        scoreFault("at 999 1;at 998 2;", BOUNDS, 12);
        scoreFault("at 1 1;at 5 2;at 4 3;", BOUNDS, 17);
    }

    private static void manyStrokes() {
        terms("At most 160 STROKES;");
        goodScore(Texts.many(160), 160);
        String full = Texts.many(160);
        scoreFault(full + "at 4 0;", ROOM, full.length() + 5);
        scoreFault(full.substring(0, full.length() - 1) + " 40;", ROOM, full.length());

        terms("they stand by beat, then by BELL, numbered so from 0.");
        BellTable x = withScore("at 3 9 for 2 47 stick 0 for 4 shake 8;at 3 46 for 5 1;at 4 0;");
        row(x, 0, 3, 0, 4, 2);
        row(x, 1, 3, 1, 1, 0);
        row(x, 2, 3, 8, 1, 0);
        row(x, 3, 3, 9, 2, 0);
        row(x, 4, 3, 46, 5, 0);
        row(x, 5, 3, 47, 1, 1);
        row(x, 6, 4, 0, 1, 0);
        BellTable all = withScore(Texts.many(160));
        row(all, 0, 0, 0);
        row(all, 159, 3, 39);
        row(all, 160, NONE, NONE);
    }

    private static void ruleBounds(String word, int what, int least, int greatest) {
        BellTable x = new BellTable();
        due(word + " at first", x.rule(what), AT_FIRST[what]);
        due("least " + word, Texts.manners(x, word + " " + least + ";"), 1);
        due("least " + word, x.rule(what), least);
        due("greatest " + word, Texts.manners(x, word + " " + greatest + ";"), 1);
        due("greatest " + word, x.rule(what), greatest);
        mannersFault(word + " " + (greatest + 1) + ";", BOUNDS, word.length() + 1);
        if (least > 0) {
            mannersFault(word + " " + (least - 1) + ";", BOUNDS, word.length() + 1);
        }
    }

    private static void mannersText() {
        terms("MANNERS' text = {(\"take\" N | \"most\" N | \"reach\" N | \"stick\" N) \";\"}:");
        BellTable x = new BellTable();
        due("no clause", Texts.manners(x, ""), 0);
        due("blanks", Texts.manners(x, "\n \n"), 0);
        due("four clauses", Texts.manners(x, "stick 2;reach 3 ;most4;\ntake 5;"), 4);
        rules(x, 5, 4, 3, 2);
        mannersFault(";", SYNTAX, 0);
        mannersFault("take;", SYNTAX, 4);
        mannersFault("take 1", SYNTAX, 6);
        mannersFault("take 1 2;", SYNTAX, 7);
        mannersFault("take 1;;", SYNTAX, 7);
        mannersFault("take 1 most 2;", SYNTAX, 7);
        mannersFault("at 0 1;", SYNTAX, 0);
        mannersFault("5;", SYNTAX, 0);

        terms("take 0 .. 9 beats (1)");
        ruleBounds("take", 0, 0, 9);
        terms("most 1 .. 12 BELLS (4)");
        ruleBounds("most", 1, 1, 12);
        terms("reach 0 .. 47 (12)");
        ruleBounds("reach", 2, 0, 47);
        terms("stick 0 .. 9 beats (1).");
        ruleBounds("stick", 3, 0, 9);
    }

    private static void heardText() {
        terms("WHAT WAS HEARD, a text = {\"at\" N N {N} \";\"}: beats as in a SCORE, BELLS that were heard then;");
        due("the least and the greatest", Texts.heard(new BellTable(), "at 0 0;at 0 1;at 999 47;at 999 46;"), 12);
        heardFault("at;", SYNTAX, 2);
        heardFault("at 0;", SYNTAX, 4);
        heardFault("at 0 1 for 2;", SYNTAX, 7);
        heardFault("at 0 1 stick;", SYNTAX, 7);
        heardFault("at 0 1 shake;", SYNTAX, 7);
        heardFault("at 0 48;", BOUNDS, 5);
        heardFault("at 1 1;at 0 2;", BOUNDS, 10);

        terms("at most 160 of them; they stand by beat, then by BELL.");
        String full = Texts.many(160);
        due("160", Texts.heard(new BellTable(), full), 480);
        heardFault(full + "at 4 0;", ROOM, full.length() + 5);
        due("by bell", Texts.heard(withScore("at 0 1 2 3;"), "at 0 3 1;at 0 2;"), 0);
    }

    private static void faults() {
        terms("KIND and PLACE (a TOKEN's first byte; the text's length at its end)");
        scoreFault("  \nat 0  \n 48;", BOUNDS, 11);
        scoreFault("at 0 1 \n sticker;", SYNTAX, 9);
        scoreFault("at", SYNTAX, 2);
        scoreFault("at 0", SYNTAX, 4);
        scoreFault("at 0 1", SYNTAX, 6);
        scoreFault("at 0 1 for", SYNTAX, 10);
        scoreFault("at 0 1 for 2", SYNTAX, 12);
        scoreFault("at 0 1 stick", SYNTAX, 12);
        scoreFault("at 0 1 \n\n ", SYNTAX, 10);
        mannersFault("take  ", SYNTAX, 6);
        mannersFault("take 1\n", SYNTAX, 7);
        heardFault("at 0 1 2 ", SYNTAX, 9);

        terms("the first come to as TOKENS are read one by one");
        scoreFault("at 0 48 .", BOUNDS, 5);
        scoreFault("at 0 . 48", SYNTAX, 5);
        scoreFault("at 0 1 1 48;", TWICE, 7);
        scoreFault("at 5 1;at 4 1 1;", BOUNDS, 10);
        scoreFault(Texts.many(160) + "at 4 0 48;", ROOM, Texts.many(160).length() + 5);
        mannersFault("take 10;take", BOUNDS, 5);
        mannersFault("take 1;take 10", TWICE, 7);

        terms("of one TOKEN the least KIND:");
        String full = Texts.many(160);
        scoreFault("at 0 1 0001;", SYNTAX, 7);
        scoreFault("at 0 9999;", SYNTAX, 5);
        scoreFault("at 0 20 for stick;", SYNTAX, 12);
        scoreFault("at 5 1;at stick;", SYNTAX, 10);
        scoreFault(full + "at 4 48;", BOUNDS, full.length() + 5);
        scoreFault(full + "at 3 39;", TWICE, full.length() + 5);
        scoreFault(full + "at 4 0000;", SYNTAX, full.length() + 5);
        scoreFault(full + "at 2 1;", BOUNDS, full.length() + 3);
        heardFault(full + "at 4 48;", BOUNDS, full.length() + 5);
        heardFault(full + "at 3 39;", TWICE, full.length() + 5);
    }

    private static void kinds() {
        terms("1 SYNTAX: a TOKEN (or byte that is none, a run that is too long) with which no text goes on.");
        for (int b = 0; b < 256; b++) {
            boolean digit = b >= '0' && b <= '9';
            if (b == ' ' || b == '\n' || digit) {
                goodScore("at 1 2" + (char) b + ";", 1);
            } else {
                scoreFault("at 1 2" + (char) b + ";", SYNTAX, b == ';' ? 7 : 6);
            }
        }
        scoreFault("0 at 1;", SYNTAX, 0);
        scoreFault("at at 1;", SYNTAX, 3);
        scoreFault("at 1 at;", SYNTAX, 5);
        scoreFault("at 1 2 at;", SYNTAX, 7);
        scoreFault("for 1 2;", SYNTAX, 0);
        scoreFault("at 1 2 3333;", SYNTAX, 7);

        terms("2 RANGE: an N out of its bounds.");
        scoreFault("at 2 1;at 1 1;", BOUNDS, 10);
        scoreFault("at 2 999;", BOUNDS, 5);
        scoreFault("at 2 1 for 999;", BOUNDS, 11);
        mannersFault("reach 999;", BOUNDS, 6);

        terms("3 TWICE: a BELL that is told at that beat already; a WORD of MANNERS that was told.");
        scoreFault("at 0 1 2 1;", TWICE, 9);
        scoreFault("at 0 1 for 3 stick 1;", TWICE, 19);
        scoreFault("at 7 1 2;at 7 3;at 7 1;", TWICE, 21);
        scoreFault("at 0 0 47 46 0;", TWICE, 13);
        goodScore("at 0 1;at 1 1;at 2 1;", 3);
        heardFault("at 0 1;at 0 1;", TWICE, 12);
        mannersFault("take 1;most 1;reach 1;stick 1;take", TWICE, 30);
        mannersFault("most 1;most 1;", TWICE, 7);
        mannersFault("reach 1;reach 1;", TWICE, 8);
        mannersFault("stick 0;stick 0;", TWICE, 8);

        terms("4 ROOM: a STROKE (a BELL that was heard) too many, at its BELL.");
        String full = Texts.many(160);
        scoreFault(full + "at 4 10 for 99;", ROOM, full.length() + 5);
        scoreFault(full + " at 999   0", ROOM, full.length() + 10);
        heardFault(full + "at 4 10 11;", ROOM, full.length() + 5);
        scoreFault(full + "at 4;", SYNTAX, full.length() + 4);
    }

    private static void newObject() {
        promise(1, "Four RINGERS, no SCORE, no PARTING; day 0.");
        BellTable x = new BellTable();
        int[] counts = {0, 0, 4, 0, 0, 0, 0, 0, 0};
        for (int what = 0; what < counts.length; what++) {
            due("count(" + what + ")", x.count(what), counts[what]);
        }
        row(x, 0, NONE, NONE, NONE, NONE, NONE);
        due("clashes", x.clashes(), 0);
        due("load", x.load(3), STATE);
        due("parted", x.parted(0), NONE);
        due("the day", x.pass(1), 1);
    }

    private static void feeding() {
        promise(2, "Twenty bytes come behind THE TAPE, the highest of each int first: how many it has;");
        BellTable x = new BellTable();
        due("at 12 3 for 4 shake;", x.feed(0x61742031, 0x32203320, 0x666f7220, 0x34207368, 0x616b653b), 20);
        due("score", x.score(), 1);
        row(x, 0, 12, 3, 4, 2);
        due("at 0 1 and 14 blanks", x.feed(0x61742030, 0x20312020, 0x20202020, 0x20202020, 0x20202020), 20);
        due("those behind", x.feed(0x20203220, 0x20202020, 0x20202020, 0x20202020, 0x2020203b), 40);
        due("score", x.score(), 2);
        due("a sign above 127", x.feed(0xe1742030, 0x20313b20, 0x20202020, 0x20202020, 0x20202020), 20);
        due("score", x.score(), NONE);
        due("place", x.fault(1), 0);
        due("all ones", x.feed(-1, -1, -1, -1, -1), 20);
        x.end(3);
        due("behind a cut", x.feed(Integer.MIN_VALUE, 0, 0, 0, Integer.MAX_VALUE), 23);

        promise(2, "FULL when there would be more than 1200.");
        BellTable y = new BellTable();
        for (int i = 1; i <= 60; i++) {
            due("feed " + i, y.feed(0x20202020, 0x20202020, 0x20202020, 0x20202020, 0x20202020), 20 * i);
        }
        due("one more", y.feed(0, 0, 0, 0, 0), FULL);
        due("as it was", y.count(8), 1200);
        due("cut", y.end(1181), 1181);
        due("one byte too many", y.feed(0, 0, 0, 0, 0), FULL);
        due("as it was", y.count(8), 1181);
        due("all blanks yet", y.score(), 0);
        due("no fault", y.fault(0), 0);
        for (int i = 1; i <= 60; i++) {
            y.feed(0, 0, 0, 0, 0);
        }
        due("cut", y.end(1180), 1180);
        due("just as many", y.feed(0, 0, 0, 0, 0), 1200);
    }

    private static void cutting() {
        promise(3, "THE TAPE has its first n bytes alone: n;");
        BellTable x = new BellTable();
        due("at 0 1; 2;", x.feed(0x61742030, 0x20313b20, 0x323b0000, 0, 0), 20);
        due("all of them", x.end(20), 20);
        due("end(7)", x.end(7), 7);
        due("the first", x.score(), 1);
        x.feed(-1, -1, -1, -1, -1);
        due("none of them", x.end(0), 0);
        due("empty", x.score(), 0);

        promise(3, "NONE when it has not so many, or n is below 0.");
        BellTable y = new BellTable();
        due("of an empty one", y.end(0), 0);
        due("of an empty one", y.end(1), NONE);
        y.feed(0, 0, 0, 0, 0);
        for (int n : outside(0, 20)) {
            due("end(" + n + ")", y.end(n), NONE);
            due("stays", y.count(8), 20);
        }
        y.end(5);
        due("no way back", y.end(6), NONE);
    }

    private static void scoring() {
        promise(4, "THE TAPE is the SCORE: how many STROKES;");
        BellTable x = new BellTable();
        due("an empty one", x.score(), 0);
        due("as many as there can be", Texts.score(x, Texts.many(160)), 160);
        due("fewer", Texts.score(x, "at 5 7;"), 1);
        row(x, 0, 5, 7, 1, 0, 6);
        due("those before are gone", x.stroke(1, 0), NONE);
        due("used ones too", x.count(1), 1);
        due("one without a stroke", Texts.score(x, " "), 0);
        row(x, 0, NONE, NONE, NONE, NONE, NONE);

        promise(4, "NONE with a FAULT (the one before stays).");
        BellTable y = withScore("at 0 1 for 9;at 2 2 shake;");
        y.damp();
        String[] faulty = {"at 7 7;at 8 8;at 9 48;", "at 7 7", ".", Texts.many(160) + "at 9 9;"};
        for (String text : faulty) {
            due("score of " + text, Texts.score(y, text), NONE);
            due("strokes", y.count(0), 2);
            due("used", y.count(1), 2);
            row(y, 0, 0, 1, 2, 0, 2);
            row(y, 1, 2, 2, 1, 2, 3);
        }

        promise(4, "PARTING, HANDS, HELP and HEARD are none then.");
        for (String text : new String[] {"at 0 1;at 5 2;", ""}) {
            BellTable z = withParting("at 0 1;at 5 2;", 4);
            due("hands", z.hands(6), 0);
            due("help", z.help(3), 0);
            due("heard", Texts.heard(z, "at 0 1;at 5 2;"), 0);
            Texts.score(z, text);
            due("parting", z.count(4), 0);
            due("parted", z.parted(1), NONE);
            due("hand", z.hand(0), NONE);
            due("helped", z.helped(0), NONE);
            due("helped", z.helped(1), NONE);
            due("laid", z.laid(0, 0), -9);
            due("more", z.more(), NONE);
        }
    }

    private static void mannering() {
        promise(5, "THE TAPE is MANNERS: how many clauses; NONE with a FAULT (they stay).");
        BellTable x = new BellTable();
        due("none", x.manners(), 0);
        due("all", Texts.manners(x, "take 9;most 12;reach 47;stick 9;"), 4);
        String[] faulty = {"take 2;most 2;reach 2;stick 2;.", "take 2;take", "most 2;reach 48;", "stick 2", "at 0 1;"};
        for (String text : faulty) {
            due("manners of " + text, Texts.manners(x, text), NONE);
            rules(x, 9, 12, 47, 9);
        }

        promise(5, "(What it doesn't tell is as at first.)");
        String[] words = {"take", "most", "reach", "stick"};
        for (int which = 0; which < words.length; which++) {
            BellTable y = new BellTable();
            Texts.manners(y, "take 9;most 12;reach 47;stick 9;");
            due("one", Texts.manners(y, words[which] + " 7;"), 1);
            for (int what = 0; what < words.length; what++) {
                due(words[what], y.rule(what), what == which ? 7 : AT_FIRST[what]);
            }
        }
        Texts.manners(x, "");
        rules(x, AT_FIRST);
    }

    private static void tellingFaults() {
        promise(6, "Of the latest score(), manners() or heard(), what 0: its FAULT's KIND, "
            + "0 without (and ahead of any), 1: its PLACE (NONE).");
        BellTable x = new BellTable();
        due("ahead of any", x.fault(0), 0);
        due("ahead of any", x.fault(1), NONE);
        Texts.score(x, ".");
        due("at the first byte", x.fault(0), SYNTAX);
        due("at the first byte", x.fault(1), 0);
        Texts.manners(x, "take 10;");
        due("of manners", x.fault(0), BOUNDS);
        due("of manners", x.fault(1), 5);
        Texts.heard(x, "at 0 1 1;");
        due("of heard", x.fault(0), TWICE);
        due("of heard", x.fault(1), 7);
        x.feed(0, 0, 0, 0, 0);
        due("it stays until the next text", x.fault(0), TWICE);
        x.end(0);
        x.heard();
        due("heard without", x.fault(0), 0);
        due("heard without", x.fault(1), NONE);
        Texts.score(x, "at");
        x.manners();
        due("manners without", x.fault(0), 0);
        due("manners without", x.fault(1), NONE);
        Texts.heard(x, "at");
        x.score();
        due("score without", x.fault(0), 0);
        due("score without", x.fault(1), NONE);

        promise(6, "NONE for another what.");
        Texts.score(x, "at 0 48;");
        for (int what : outside(0, 1)) {
            due("fault(" + what + ")", x.fault(what), NONE);
        }
    }

    private static void tellingRules() {
        promise(7, "What 0: take, 1: most, 2: reach, 3: stick. NONE for others.");
        BellTable x = new BellTable();
        rules(x, AT_FIRST);
        for (int what : outside(0, 3)) {
            due("rule(" + what + ")", x.rule(what), NONE);
        }
    }

    private static void tellingStrokes() {
        promise(8, "2: LENGTH (as it is now)");
        BellTable x = withScore("at 0 1 for 16;at 1 2;");
        due("as told", x.stroke(0, 2), 16);
        x.damp();
        due("as it is now", x.stroke(0, 2), 1);

        promise(8, "4: the beat at which it ends sounding.");
        due("as it is now", x.stroke(0, 4), 1);
        due("beyond the last beat", withScore("at 999 47 for 16;").stroke(0, 4), 1015);

        promise(8, "NONE when there is none such.");
        for (int k : outside(0, 1)) {
            due("stroke(" + k + ", 0)", x.stroke(k, 0), NONE);
            due("stroke(" + k + ", 4)", x.stroke(k, 4), NONE);
        }
        for (int what : outside(0, 4)) {
            due("stroke(0, " + what + ")", x.stroke(0, what), NONE);
        }
        due("no score", new BellTable().stroke(0, 0), NONE);
    }

    private static void tellingRingers() {
        promise(9, "So many RINGERS (1 .. 12) are told: how many there were; RANGE.");
        BellTable x = new BellTable();
        due("the greatest", x.ringers(12), 4);
        due("the least", x.ringers(1), 12);
        due("as many", x.ringers(1), 1);
        for (int n : outside(1, 12)) {
            due("ringers(" + n + ")", x.ringers(n), RANGE);
            due("as many as there were", x.count(2), 1);
        }

        promise(9, "The PARTING is none then; nobody is ABSENT.");
        BellTable y = withParting("at 0 1;", 3);
        y.absent(0, true);
        y.absent(2, true);
        for (int n : outside(1, 12)) {
            y.ringers(n);
            due("refused: the parting stays", y.count(4), 1);
            due("refused: they stay absent", y.count(3), 2);
        }
        y.ringers(3);
        due("no parting", y.count(4), 0);
        due("none absent", y.count(3), 0);
        due("no parting", y.load(0), STATE);
        due("was not absent", y.absent(2, true), 1);
        y.ringers(2);
        y.ringers(3);
        due("nor is one who comes again", y.absent(2, false), 0);
    }

    private static void beingAbsent() {
        promise(10, "A RINGER is ABSENT or not: 1 if it was otherwise, else 0; RANGE: no such RINGER.");
        BellTable x = new BellTable();
        due("was there", x.absent(3, false), 0);
        due("goes", x.absent(3, true), 1);
        due("is away", x.absent(3, true), 0);
        due("comes", x.absent(3, false), 1);
        for (int r : outside(0, 3)) {
            due("absent(" + r + ", true)", x.absent(r, true), RANGE);
            due("absent(" + r + ", false)", x.absent(r, false), RANGE);
        }
        due("nobody", x.count(3), 0);
        x.ringers(12);
        for (int r = 0; r < 12; r++) {
            due("all of them", x.absent(r, true), 1);
        }
        due("all of them", x.count(3), 12);
        x.ringers(1);
        due("one who is told no more", x.absent(1, true), RANGE);

        promise(10, "(A PARTING stays.)");
        BellTable y = withParting("at 0 1;", 4);
        due("the one who has the bell", y.absent(3, true), 1);
        due("the parting", y.count(4), 1);
        due("still has it", y.parted(1), 3);
    }

    public static void main(String[] args) {
        lastCall();
        constants();
        bellsAndRingers();
        tape();
        tokens();
        scoreText();
        manyStrokes();
        mannersText();
        heardText();
        faults();
        kinds();
        newObject();
        feeding();
        cutting();
        scoring();
        mannering();
        tellingFaults();
        tellingRules();
        tellingStrokes();
        tellingRingers();
        beingAbsent();
        finish(1, 10);
    }
}
