/**
 * A table of handbells and those who ring them. The words in capitals are those of the document.
 *
 * <p>All rows are made with the object and used again: no call makes an object.
 */
public final class BellTable {
    public static final int NONE = -1;
    public static final int RANGE = -2;
    public static final int FULL = -3;
    public static final int STATE = -4;

    private static final int BELLS = 48;
    private static final int RINGERS = 12;
    private static final int FIRST_RINGERS = 4;
    private static final int TAPE_BYTES = 1200;
    private static final int FEED_BYTES = 20;
    private static final int STROKES = 160;
    private static final int DAYS = 1000;
    private static final int LONGEST_PASS = 500;
    private static final int AWAYS = 60;
    private static final int OCTAVE = 12;

    private static final int NOT_LAID = -9;
    private static final int NOT_KEYED = -99;

    private static final int STICK = 1;
    private static final int SHAKE = 2;

    private static final int SYNTAX = 1;
    private static final int BOUNDS = 2;
    private static final int TWICE = 3;
    private static final int ROOM = 4;

    /** The price of what can't be: above all real prices, and some of them still add up within an int. */
    private static final int NEVER = 1 << 24;

    private final Tape tape;
    private final BeatText text;
    private final Strokes strokes;
    private final Manners rules;
    private final Hands deft;
    private final Ranges ranges;
    private final Helping helping;
    private final Sound sound;
    private final Listening listening;
    private final Days days;
    private final boolean[] missing;
    private int told;

    public BellTable() {
        tape = new Tape();
        text = new BeatText(tape);
        strokes = new Strokes();
        rules = new Manners();
        deft = new Hands(strokes, rules);
        ranges = new Ranges(strokes, rules, deft);
        helping = new Helping(strokes, deft, ranges);
        sound = new Sound(strokes);
        listening = new Listening(strokes);
        days = new Days(strokes);
        missing = new boolean[RINGERS];
        told = FIRST_RINGERS;
    }

    // ---- texts

    public int feed(int a, int b, int c, int d, int e) {
        if (tape.size + FEED_BYTES > TAPE_BYTES) {
            return FULL;
        }
        tape.addFour(a);
        tape.addFour(b);
        tape.addFour(c);
        tape.addFour(d);
        tape.addFour(e);
        return tape.size;
    }

    public int end(int n) {
        if (n < 0 || n > tape.size) {
            return NONE;
        }
        tape.size = n;
        return n;
    }

    public int score() {
        boolean good = text.readAll(false);
        tape.size = 0;
        if (!good) {
            return NONE;
        }
        strokes.copyFrom(text.rows);
        sound.measure();
        deft.forget();
        ranges.takeScore();
        helping.forget();
        listening.forget();
        days.forgetKey();
        return strokes.size;
    }

    public int manners() {
        int clauses = rules.readAll(tape);
        tape.size = 0;
        if (clauses == NONE) {
            return NONE;
        }
        deft.forget();
        ranges.weighAnew();
        return clauses;
    }

    public int fault(int what) {
        if (what == 0) {
            return tape.faultKind;
        }
        return what == 1 ? tape.faultPlace : NONE;
    }

    public int rule(int what) {
        if (what < 0 || what >= Manners.RULES) {
            return NONE;
        }
        return rules.value[what];
    }

    public int stroke(int k, int what) {
        if (!strokes.hasNumber(k)) {
            return NONE;
        }
        switch (what) {
            case 0:
                return strokes.beat[k];
            case 1:
                return strokes.bell[k];
            case 2:
                return strokes.length[k];
            case 3:
                return strokes.manner[k];
            case 4:
                return sound.ends[k];
            default:
                return NONE;
        }
    }

    public int ringers(int n) {
        if (n < 1 || n > RINGERS) {
            return RANGE;
        }
        int before = told;
        told = n;
        for (int r = 0; r < RINGERS; r++) {
            missing[r] = false;
        }
        ranges.dropParting();
        return before;
    }

    public int absent(int r, boolean is) {
        if (!isRinger(r)) {
            return RANGE;
        }
        boolean otherwise = missing[r] != is;
        missing[r] = is;
        return otherwise ? 1 : 0;
    }

    // ---- hands, ranges

    public int hands(long bells) {
        if ((bells >>> BELLS) != 0) {
            return RANGE;
        }
        return orNone(deft.choose(bells));
    }

    public int hand(int k) {
        if (!deft.chosen || !strokes.hasNumber(k)) {
            return NONE;
        }
        return deft.handOf[k];
    }

    public int part() {
        standAllBut(NONE);
        int price = ranges.settle(false);
        return price >= NEVER ? NONE : Ranges.takesIn(price);
    }

    public int give(int bell, int r) {
        if (!isRinger(r) || !ranges.uses(bell)) {
            return RANGE;
        }
        if (!ranges.parting) {
            return STATE;
        }
        int before = ranges.ringerOf[bell];
        ranges.ringerOf[bell] = r;
        return before;
    }

    public int parted(int bell) {
        if (!ranges.parting || !ranges.uses(bell)) {
            return NONE;
        }
        return ranges.ringerOf[bell];
    }

    public int load(int r) {
        if (!isRinger(r)) {
            return RANGE;
        }
        if (!ranges.parting) {
            return STATE;
        }
        return orNone(deft.takesOf(ranges.bellsOf(r)));
    }

    public int cover(int r) {
        if (!isRinger(r)) {
            return RANGE;
        }
        if (!ranges.parting) {
            return STATE;
        }
        standAllBut(r);
        int price = ranges.settle(true);
        return price >= NEVER ? NONE : Ranges.changesIn(price);
    }

    public int help(int r) {
        if (!isRinger(r)) {
            return RANGE;
        }
        if (!ranges.parting) {
            return STATE;
        }
        int below = canHelp(r - 1) ? r - 1 : NONE;
        int above = canHelp(r + 1) ? r + 1 : NONE;
        return orNone(helping.seek(r, below, above));
    }

    public int helped(int what) {
        if (what == 0) {
            return helping.stroke;
        }
        return what == 1 ? helping.ringer : NONE;
    }

    // ---- what sounds

    public int clashes() {
        return sound.walkTo(NONE);
    }

    public int clash(int i, int what) {
        if (i < 0 || sound.walkTo(i) != i || sound.first == NONE) {
            return NONE;
        }
        switch (what) {
            case 0:
                return sound.first;
            case 1:
                return sound.second;
            case 2:
                return sound.beatsOfBoth();
            default:
                return NONE;
        }
    }

    public int damp() {
        int cut = sound.cutDown();
        deft.forget();
        ranges.weighAnew();
        return cut;
    }

    public int heard() {
        boolean good = text.readAll(true);
        tape.size = 0;
        return good ? listening.lay(text.rows) : NONE;
    }

    public int laid(int k, int what) {
        if (!listening.told || !strokes.hasNumber(k)) {
            return NOT_LAID;
        }
        switch (what) {
            case 0:
                return listening.bellOf[k] == NONE ? 0 : 1;
            case 1:
                return listening.lateBy[k];
            case 2:
                return listening.bellOf[k];
            default:
                return NOT_LAID;
        }
    }

    public int more() {
        return listening.told ? listening.moreCount : NONE;
    }

    public int blame(int r) {
        if (!isRinger(r)) {
            return RANGE;
        }
        if (!ranges.parting || !listening.told) {
            return STATE;
        }
        return listening.pointsOn(ranges.bellsOf(r));
    }

    // ---- days

    public int pass(int n) {
        if (n < 1 || n > LONGEST_PASS || !isDay(days.clock + n)) {
            return RANGE;
        }
        days.clock += n;
        return days.clock;
    }

    public int away(int bell, int from, int to) {
        if (!isBell(bell) || !isDay(from) || !isDay(to) || to < from) {
            return RANGE;
        }
        return days.size >= AWAYS ? FULL : days.add(bell, from, to);
    }

    public int back(int a, int from) {
        if (a < 0 || a >= days.size || !isDay(from)) {
            return RANGE;
        }
        return days.addBack(a, from) ? 1 : STATE;
    }

    public int there(int bell, int day, int known) {
        if (!isBell(bell) || !isDay(day) || !isDay(known)) {
            return RANGE;
        }
        return days.lies(bell, day, known) ? 1 : 0;
    }

    public int key(int day, int known) {
        if (!isDay(day) || !isDay(known)) {
            return RANGE;
        }
        return days.seekKey(day, known);
    }

    public int keyed(int what) {
        if (!days.hasKey) {
            return NOT_KEYED;
        }
        switch (what) {
            case 0:
                return days.keyMove;
            case 1:
                return days.keyLeftOut;
            case 2:
                return days.keyOctaves;
            default:
                return NOT_KEYED;
        }
    }

    public int count(int what) {
        switch (what) {
            case 0:
                return strokes.size;
            case 1:
                return ranges.usedCount;
            case 2:
                return told;
            case 3:
                return countMissing();
            case 4:
                return ranges.parting ? 1 : 0;
            case 5:
                return countWithBell();
            case 6:
                return days.clock;
            case 7:
                return days.size;
            case 8:
                return tape.size;
            default:
                return NONE;
        }
    }

    // ---- what the calls share

    private static boolean isBell(int bell) {
        return bell >= 0 && bell < BELLS;
    }

    private static boolean isDay(int day) {
        return day >= 0 && day < DAYS;
    }

    private static int orNone(int takes) {
        return takes >= NEVER ? NONE : takes;
    }

    private boolean isRinger(int r) {
        return r >= 0 && r < told;
    }

    private boolean canHelp(int r) {
        return isRinger(r) && !missing[r];
    }

    private void standAllBut(int without) {
        ranges.standingCount = 0;
        for (int r = 0; r < told; r++) {
            if (!missing[r] && r != without) {
                ranges.stand(r);
            }
        }
    }

    private int countMissing() {
        int n = 0;
        for (int r = 0; r < told; r++) {
            n += missing[r] ? 1 : 0;
        }
        return n;
    }

    private int countWithBell() {
        int n = 0;
        for (int r = 0; ranges.parting && r < told; r++) {
            n += ranges.bellsOf(r) != 0 ? 1 : 0;
        }
        return n;
    }

    /** THE TAPE, read TOKEN by TOKEN, and the FAULT of the latest text on it. */
    private static final class Tape {
        static final int END = 0;
        static final int WORD = 1;
        static final int NUMBER = 2;
        static final int CLOSE = 3;
        static final int BAD = 4;

        private static final int LONGEST_WORD = 8;
        private static final int LONGEST_NUMBER = 3;

        int size;
        int kind;
        int number;
        int faultKind;
        int faultPlace = NONE;

        private final byte[] bytes = new byte[TAPE_BYTES];
        private int place;
        private int next;

        void addFour(int four) {
            for (int shift = 24; shift >= 0 && size < TAPE_BYTES; shift -= 8) {
                bytes[size] = (byte) (four >> shift);
                size++;
            }
        }

        void start() {
            next = 0;
            faultKind = 0;
            faultPlace = NONE;
        }

        void refuse(int fault) {
            faultKind = fault;
            faultPlace = place;
        }

        void readToken() {
            while (next < size && isBlank(byteAt(next))) {
                next++;
            }
            place = next;
            int first = byteAt(next);
            if (next >= size) {
                kind = END;
            } else if (isLetter(first)) {
                readWord();
            } else if (isDigit(first)) {
                readNumber();
            } else {
                kind = first == ';' ? CLOSE : BAD;
                next++;
            }
        }

        private void readWord() {
            while (next < size && isLetter(byteAt(next))) {
                next++;
            }
            kind = next - place > LONGEST_WORD ? BAD : WORD;
        }

        private void readNumber() {
            number = 0;
            while (next < size && isDigit(byteAt(next))) {
                // a run that is too long wraps around here, but is BAD and never asked for
                number = number * 10 + byteAt(next) - '0';
                next++;
            }
            kind = next - place > LONGEST_NUMBER ? BAD : NUMBER;
        }

        boolean isWord(String word) {
            boolean same = kind == WORD && word.length() == next - place;
            for (int i = 0; same && i < word.length(); i++) {
                same = word.charAt(i) == byteAt(place + i);
            }
            return same;
        }

        /** 0, which is in no TOKEN and no blank, beyond the text. */
        private int byteAt(int i) {
            return i >= 0 && i < size && i < TAPE_BYTES ? bytes[i] : 0;
        }

        private static boolean isBlank(int b) {
            return b == 32 || b == 10;
        }

        private static boolean isLetter(int b) {
            return b >= 'a' && b <= 'z';
        }

        private static boolean isDigit(int b) {
            return b >= '0' && b <= '9';
        }
    }

    /** Rows of STROKES (or of what was heard) by beat, then by BELL. */
    private static final class Strokes {
        final int[] beat = new int[STROKES];
        final int[] bell = new int[STROKES];
        final int[] length = new int[STROKES];
        final int[] manner = new int[STROKES];
        int size;

        boolean hasNumber(int k) {
            return k >= 0 && k < size;
        }

        boolean isOn(long bells, int k) {
            return (bells >>> bell[k] & 1) != 0;
        }

        /** Beats never go down while a text is read, so only the rows' end can have this beat. */
        boolean hasAt(int aBeat, int aBell) {
            boolean found = false;
            for (int k = size - 1; k >= 0 && beat[k] == aBeat && !found; k--) {
                found = bell[k] == aBell;
            }
            return found;
        }

        /** Puts a STROKE where it stands among those of its beat: its number. There must be room. */
        int insert(int aBeat, int aBell) {
            int k = size;
            while (k > 0 && beat[k - 1] == aBeat && bell[k - 1] > aBell) {
                bell[k] = bell[k - 1];
                beat[k] = beat[k - 1];
                length[k] = length[k - 1];
                manner[k] = manner[k - 1];
                k--;
            }
            beat[k] = aBeat;
            bell[k] = aBell;
            length[k] = 1;
            manner[k] = 0;
            size++;
            return k;
        }

        void copyFrom(Strokes other) {
            size = other.size;
            System.arraycopy(other.beat, 0, beat, 0, size);
            System.arraycopy(other.bell, 0, bell, 0, size);
            System.arraycopy(other.length, 0, length, 0, size);
            System.arraycopy(other.manner, 0, manner, 0, size);
        }
    }

    /** Reads a SCORE's text or WHAT WAS HEARD into rows of its own, so that a FAULT leaves all else as it is. */
    private static final class BeatText {
        private static final int LONGEST = 16;

        // what the text may go on with
        private static final int CLAUSE = 0;
        private static final int BEAT = 1;
        private static final int FIRST_BELL = 2;
        private static final int BEHIND_BELL = 3;
        private static final int LENGTH = 4;
        private static final int BEHIND_LENGTH = 5;
        private static final int BEHIND_MANNER = 6;

        final Tape in;
        final Strokes rows = new Strokes();
        int awaits;
        int beat;
        int latest;

        BeatText(Tape in) {
            this.in = in;
        }

        /** If bells are bare (as in what was heard), neither LENGTHS nor MANNERS are told. */
        boolean readAll(boolean bare) {
            in.start();
            rows.size = 0;
            awaits = CLAUSE;
            beat = 0;
            boolean whole = false;
            for (int i = 0; i <= TAPE_BYTES && !whole && in.faultKind == 0; i++) {
                in.readToken();
                whole = in.kind == Tape.END && awaits == CLAUSE;
                if (!whole) {
                    take(bare);
                }
            }
            return whole;
        }

        private void take(boolean bare) {
            if (awaits == CLAUSE) {
                goOnIf(in.isWord("at"), BEAT);
            } else if (awaits == BEAT) {
                takeBeat();
            } else if (awaits == LENGTH) {
                takeLength();
            } else if (in.kind == Tape.NUMBER) {
                takeBell(bare);
            } else if (in.kind == Tape.CLOSE) {
                goOnIf(awaits != FIRST_BELL, CLAUSE);
            } else {
                takeWord();
            }
        }

        private void goOnIf(boolean fits, int then) {
            if (fits) {
                awaits = then;
            } else {
                in.refuse(SYNTAX);
            }
        }

        private void takeBeat() {
            goOnIf(in.kind == Tape.NUMBER, FIRST_BELL);
            if (in.faultKind == 0 && in.number < beat) {
                in.refuse(BOUNDS);
            }
            beat = in.number;
        }

        private void takeBell(boolean bare) {
            if (!isBell(in.number)) {
                in.refuse(BOUNDS);
            } else if (rows.hasAt(beat, in.number)) {
                in.refuse(TWICE);
            } else if (rows.size >= STROKES) {
                in.refuse(ROOM);
            } else {
                latest = rows.insert(beat, in.number);
                awaits = bare ? BEHIND_MANNER : BEHIND_BELL;
            }
        }

        private void takeLength() {
            goOnIf(in.kind == Tape.NUMBER, BEHIND_LENGTH);
            if (in.faultKind != 0) {
                return;
            }
            if (in.number < 1 || in.number > LONGEST) {
                in.refuse(BOUNDS);
                return;
            }
            rows.length[latest] = in.number;
        }

        private void takeWord() {
            boolean behindStroke = awaits == BEHIND_BELL || awaits == BEHIND_LENGTH;
            if (awaits == BEHIND_BELL && in.isWord("for")) {
                awaits = LENGTH;
            } else if (behindStroke && in.isWord("stick")) {
                rows.manner[latest] = STICK;
                awaits = BEHIND_MANNER;
            } else if (behindStroke && in.isWord("shake")) {
                rows.manner[latest] = SHAKE;
                awaits = BEHIND_MANNER;
            } else {
                in.refuse(SYNTAX);
            }
        }
    }

    /** MANNERS, in the order of rule(). */
    private static final class Manners {
        static final int RULES = 4;
        static final int TAKE = 0;
        static final int MOST = 1;
        static final int REACH = 2;
        static final int STICKS = 3;
        static final int GREATEST_MOST = 12;

        private static final int[] AT_FIRST = {1, 4, 12, 1};
        private static final int[] LEAST = {0, 1, 0, 0};
        private static final int[] GREATEST = {9, 12, 47, 9};

        private static final int CLAUSE = 0;
        private static final int NUMBER = 1;
        private static final int CLOSE = 2;

        final int[] value = new int[RULES];
        /** What the text tells; NONE where it doesn't. */
        private final int[] fresh = new int[RULES];
        private int awaits;
        private int which;
        private int clauses;

        Manners() {
            System.arraycopy(AT_FIRST, 0, value, 0, RULES);
        }

        /** How many clauses there are; NONE with a FAULT. */
        int readAll(Tape in) {
            in.start();
            for (int i = 0; i < RULES; i++) {
                fresh[i] = NONE;
            }
            awaits = CLAUSE;
            clauses = 0;
            boolean whole = false;
            for (int i = 0; i <= TAPE_BYTES && !whole && in.faultKind == 0; i++) {
                in.readToken();
                whole = in.kind == Tape.END && awaits == CLAUSE;
                if (!whole) {
                    take(in);
                }
            }
            if (!whole) {
                return NONE;
            }
            for (int i = 0; i < RULES; i++) {
                value[i] = fresh[i] == NONE ? AT_FIRST[i] : fresh[i];
            }
            return clauses;
        }

        private void take(Tape in) {
            if (awaits == CLAUSE) {
                takeWord(in);
            } else if (awaits == NUMBER && in.kind == Tape.NUMBER) {
                takeNumber(in);
            } else if (awaits == CLOSE && in.kind == Tape.CLOSE) {
                clauses++;
                awaits = CLAUSE;
            } else {
                in.refuse(SYNTAX);
            }
        }

        private void takeWord(Tape in) {
            which = ruleNamed(in);
            if (which == NONE) {
                in.refuse(SYNTAX);
            } else if (fresh[which] != NONE) {
                in.refuse(TWICE);
            } else {
                awaits = NUMBER;
            }
        }

        private void takeNumber(Tape in) {
            if (which < 0 || in.number < LEAST[which] || in.number > GREATEST[which]) {
                in.refuse(BOUNDS);
            } else {
                fresh[which] = in.number;
                awaits = CLOSE;
            }
        }

        private static int ruleNamed(Tape in) {
            if (in.isWord("take")) {
                return TAKE;
            }
            if (in.isWord("most")) {
                return MOST;
            }
            if (in.isWord("reach")) {
                return REACH;
            }
            return in.isWord("stick") ? STICKS : NONE;
        }
    }

    /** A table of bits, packed so that what many choices were takes little room. */
    private static final class Bits {
        private static final int WORDS = 3;

        private final long[] words = new long[(STROKES + 1) * WORDS];

        void put(int row, int column, boolean on) {
            int i = row * WORDS + (column >> 6);
            if (i < 0 || i >= words.length) {
                return;
            }
            long bit = 1L << (column & 63);
            words[i] = on ? words[i] | bit : words[i] & ~bit;
        }

        boolean has(int row, int column) {
            int i = row * WORDS + (column >> 6);
            return i >= 0 && i < words.length && (words[i] >>> (column & 63) & 1) != 0;
        }
    }

    /**
     * HANDS. The STROKES in question stand in a row. When some of them are done, one hand did the last of these, so
     * all that matters besides is what the other hand did: 0 for nothing yet, i + 1 for the row's STROKE i. Which
     * hand is which makes no difference to the TAKES.
     */
    private static final class Hands {
        final Strokes score;
        final Manners rules;
        final int[] handOf = new int[STROKES];
        boolean chosen;

        private final int[] row = new int[STROKES];
        private int size;
        /** By how many are done and what the other hand did: the fewest TAKES of the rest. */
        private final int[] rest = new int[STROKES * (STROKES + 1) / 2];
        /** With so many done, or fewer, there is no way to the end. */
        private int stuck;
        /** By what the other hand did: the fewest TAKES of those that are done. */
        private final int[] past = new int[STROKES];

        Hands(Strokes score, Manners rules) {
            this.score = score;
            this.rules = rules;
        }

        void forget() {
            chosen = false;
        }

        /** TAKES of a set of BELLS; NEVER if it can't be. */
        int takesOf(long bells) {
            gather(bells);
            return weighRest();
        }

        /** TAKES of a set of BELLS, keeping the least row of hands; NEVER, and all stays, if it can't be. */
        int choose(long bells) {
            int takes = takesOf(bells);
            if (takes < NEVER) {
                keepHands();
            }
            return takes;
        }

        /** By each STROKE of a set of BELLS: TAKES of the others, or NEVER. */
        void weighWithout(long bells, int[] takes) {
            takesOf(bells);
            past[0] = 0;
            for (int done = 0; done < size; done++) {
                takes[row[done]] = takesSkipping(done);
                stepForth(done);
            }
        }

        /** By each STROKE of the BELLS besides: TAKES of the set with that one too, or NEVER. */
        void weighWith(long bells, long besides, int[] takes) {
            takesOf(bells);
            past[0] = 0;
            int done = 0;
            for (int k = 0; k < score.size; k++) {
                if (done < size && row[done] == k) {
                    stepForth(done);
                    done++;
                } else if (score.isOn(besides, k)) {
                    takes[k] = takesInserting(k, done);
                }
            }
        }

        private void gather(long bells) {
            size = 0;
            for (int k = 0; k < score.size; k++) {
                if (score.isOn(bells, k)) {
                    row[size] = k;
                    size++;
                }
            }
        }

        private int weighRest() {
            stuck = 0;
            for (int other = 0; other < size; other++) {
                rest[place(size, other)] = 0;
            }
            for (int done = size - 1; done > 0 && stuck == 0; done--) {
                if (!stepBack(done)) {
                    stuck = done;
                }
            }
            return size == 0 ? 0 : restOf(1, 0);
        }

        private static int place(int done, int other) {
            return done * (done - 1) / 2 + other;
        }

        private int restOf(int done, int other) {
            return done <= stuck ? NEVER : rest[place(done, other)];
        }

        /** The STROKE that a hand did, told as what the other hand did is. */
        private int did(int other) {
            return other <= 0 ? NONE : row[other - 1];
        }

        /** How many there are of what the other hand may have done. */
        private static int others(int done) {
            return Math.max(1, done);
        }

        /** From what is left behind the row's next STROKE to what is left ahead of it; false if nothing goes. */
        private boolean stepBack(int done) {
            int now = row[done];
            int last = row[done - 1];
            int ahead = place(done, 0);
            int behind = place(done + 1, 0);
            int staying = move(last, now);
            int swapping = holds(last, now) ? NEVER : rest[behind + done];
            boolean goes = false;
            for (int other = 0; other < done; other++) {
                int before = did(other);
                int stay = holds(before, now) ? NEVER : staying + rest[behind + other];
                int swap = swapping >= NEVER ? NEVER : swapping + move(before, now);
                int least = Math.min(NEVER, Math.min(stay, swap));
                rest[ahead + other] = least;
                goes = goes || least < NEVER;
            }
            return goes;
        }

        private void stepForth(int done) {
            int now = row[done];
            int last = did(done);
            int swapped = NEVER;
            for (int other = 0; other < others(done); other++) {
                int before = did(other);
                swapped = Math.min(swapped, past[other] + step(before, last, now));
                past[other] = Math.min(NEVER, past[other] + step(last, before, now));
            }
            if (done > 0) {
                past[done] = swapped;
            }
        }

        private int takesSkipping(int done) {
            int last = did(done);
            int least = NEVER;
            for (int other = 0; other < others(done); other++) {
                int before = did(other);
                int more = 0;
                if (done + 1 < size) {
                    int now = row[done + 1];
                    int stay = step(last, before, now) + restOf(done + 2, other);
                    int swap = step(before, last, now) + restOf(done + 2, done);
                    more = Math.min(stay, swap);
                }
                least = Math.min(least, past[other] + more);
            }
            return least;
        }

        private int takesInserting(int k, int done) {
            int last = did(done);
            int beside = restBeside(k, done + 1);
            int least = NEVER;
            int swapped = NEVER;
            for (int other = 0; other < others(done); other++) {
                int before = did(other);
                int stayed = past[other] + step(last, before, k);
                least = Math.min(least, stayed + restBehind(k, other, done, beside));
                swapped = Math.min(swapped, past[other] + step(before, last, k));
            }
            return Math.min(least, swapped + restBehind(k, done, done, beside));
        }

        /** TAKES of the rest, if a STROKE from outside the row was done last. */
        private int restBehind(int k, int other, int done, int beside) {
            if (done >= size) {
                return 0;
            }
            int now = row[done];
            int before = did(other);
            int stay = step(k, before, now) + restOf(done + 1, other);
            return Math.min(stay, step(before, k, now) + beside);
        }

        /** TAKES of the rest, if a STROKE from outside the row is what the other hand did. */
        private int restBeside(int k, int done) {
            int least = 0;
            for (int t = size - 1; t >= done; t--) {
                int stay = step(row[t - 1], k, row[t]) + least;
                int swap = step(k, row[t - 1], row[t]) + restOf(t + 1, t);
                least = Math.min(NEVER, Math.min(stay, swap));
            }
            return least;
        }

        /** TAKES of a hand from what it did last to a new STROKE, beside what the other hand did; or NEVER. */
        private int step(int mine, int other, int now) {
            return holds(other, now) ? NEVER : move(mine, now);
        }

        /** TAKES of one hand from a STROKE (or NONE) to a new one; NEVER if there are too few beats between. */
        private int move(int from, int to) {
            if (from == NONE) {
                return 0;
            }
            boolean fromStick = score.manner[from] == STICK;
            boolean toStick = score.manner[to] == STICK;
            int beats = score.beat[to] - score.beat[from];
            if (fromStick && toStick) {
                return beats >= 1 ? 0 : NEVER;
            }
            if (!fromStick && !toStick && score.bell[from] == score.bell[to]) {
                int least = score.manner[from] == SHAKE ? score.length[from] : 1;
                return beats >= least ? 0 : NEVER;
            }
            int least = (fromStick ? 1 : score.length[from]) + rules.value[Manners.TAKE];
            if (fromStick || toStick) {
                least += rules.value[Manners.STICKS];
            }
            return beats >= least ? 1 : NEVER;
        }

        /** If the hand that did a STROKE (or NONE) has the BELL of another one in it since. */
        private boolean holds(int did, int now) {
            return did != NONE && score.manner[did] != STICK && score.bell[did] == score.bell[now];
        }

        private void keepHands() {
            for (int k = 0; k < STROKES; k++) {
                handOf[k] = NONE;
            }
            chosen = true;
            int hand = 0;
            int other = 0;
            for (int done = 0; done < size; done++) {
                if (done > 0 && swapsFor(hand, done, other)) {
                    hand = 1 - hand;
                    other = done;
                }
                handOf[row[done]] = hand;
            }
        }

        /** The hand 0 wherever it is as good. */
        private boolean swapsFor(int hand, int done, int other) {
            int now = row[done];
            int last = row[done - 1];
            int before = did(other);
            int due = restOf(done, other);
            if (hand == 0) {
                return step(last, before, now) + restOf(done + 1, other) != due;
            }
            return step(before, last, now) + restOf(done + 1, done) == due;
        }
    }

    /** The PARTING, and the RANGES it may come from. */
    private static final class Ranges {
        // one number for changes, then TAKES, then RINGERS with a BELL, so that the least is the best
        private static final int TAKE_PRICE = 100;
        private static final int CHANGE_PRICE = 100000;
        private static final int PIECES = Manners.GREATEST_MOST + 1;
        private static final int PLACES = BELLS + 1;

        final Strokes score;
        final Manners rules;
        final Hands deft;
        final int[] ringerOf = new int[BELLS];
        boolean parting;
        int usedCount;
        int standingCount;

        private long usedBells;
        private final int[] used = new int[BELLS];
        private final int[] standing = new int[RINGERS];
        /** By the first BELL of a piece and how many it has. Dear, so kept as long as nothing changes it. */
        private final int[] pieceTakes = new int[BELLS * PIECES];
        private boolean weighed;
        /** By how many RINGERS and how many BELLS are done with: the least price of the rest. */
        private final int[] restPrice = new int[(RINGERS + 1) * PLACES];

        Ranges(Strokes score, Manners rules, Hands deft) {
            this.score = score;
            this.rules = rules;
            this.deft = deft;
        }

        static int takesIn(int price) {
            return price % CHANGE_PRICE / TAKE_PRICE;
        }

        static int changesIn(int price) {
            return price / CHANGE_PRICE;
        }

        void takeScore() {
            usedBells = 0;
            for (int k = 0; k < score.size; k++) {
                usedBells |= 1L << score.bell[k];
            }
            usedCount = 0;
            for (int bell = 0; bell < BELLS; bell++) {
                if (uses(bell)) {
                    used[usedCount] = bell;
                    usedCount++;
                }
            }
            weighed = false;
            parting = false;
        }

        boolean uses(int bell) {
            return isBell(bell) && (usedBells >>> bell & 1) != 0;
        }

        void weighAnew() {
            weighed = false;
        }

        void dropParting() {
            parting = false;
        }

        void stand(int ringer) {
            if (standingCount < RINGERS) {
                standing[standingCount] = ringer;
                standingCount++;
            }
        }

        long bellsOf(int ringer) {
            long bells = 0;
            for (int i = 0; i < usedCount; i++) {
                if (ringerOf[used[i]] == ringer) {
                    bells |= 1L << used[i];
                }
            }
            return bells;
        }

        /** Makes the best RANGES of those who stand the PARTING: their price; NEVER, and all stays, without any. */
        int settle(boolean covering) {
            weighPieces();
            for (int who = standingCount; who >= 0; who--) {
                for (int first = usedCount; first >= 0; first--) {
                    restPrice[who * PLACES + first] = leastFrom(who, first, covering);
                }
            }
            int price = restPrice[0];
            if (price < NEVER) {
                handOut(covering);
            }
            return price;
        }

        private void weighPieces() {
            for (int first = 0; first < usedCount && !weighed; first++) {
                long bells = 0;
                for (int n = 1; n <= longestFrom(first); n++) {
                    int bell = used[first + n - 1];
                    bells |= 1L << bell;
                    boolean reached = bell - used[first] <= rules.value[Manners.REACH];
                    pieceTakes[first * PIECES + n] = reached ? deft.takesOf(bells) : NEVER;
                }
            }
            weighed = true;
        }

        private int longestFrom(int first) {
            return Math.min(rules.value[Manners.MOST], usedCount - first);
        }

        private int leastFrom(int who, int first, boolean covering) {
            if (who >= standingCount) {
                return first >= usedCount ? 0 : NEVER;
            }
            int least = NEVER;
            for (int n = 0; n <= longestFrom(first); n++) {
                least = Math.min(least, priceWith(who, first, n, covering));
            }
            return least;
        }

        /** The price of all that is left, if this one has the next n BELLS. */
        private int priceWith(int who, int first, int n, boolean covering) {
            int rest = restPrice[(who + 1) * PLACES + first + n];
            if (n == 0 || rest >= NEVER) {
                return rest;
            }
            int takes = pieceTakes[first * PIECES + n];
            if (takes >= NEVER) {
                return NEVER;
            }
            int changes = covering ? countChanges(first, n, standing[who]) : 0;
            return rest + changes * CHANGE_PRICE + takes * TAKE_PRICE + 1;
        }

        private int countChanges(int first, int n, int ringer) {
            int changes = 0;
            for (int i = first; i < first + n; i++) {
                changes += ringerOf[used[i]] == ringer ? 0 : 1;
            }
            return changes;
        }

        /** The fewest BELLS that still are as good, from the first RINGER on, make the least row. */
        private void handOut(boolean covering) {
            int first = 0;
            for (int who = 0; who < standingCount; who++) {
                int due = restPrice[who * PLACES + first];
                int n = 0;
                while (n < longestFrom(first) && priceWith(who, first, n, covering) != due) {
                    n++;
                }
                for (int i = first; i < first + n; i++) {
                    ringerOf[used[i]] = standing[who];
                }
                first += n;
            }
            parting = true;
        }
    }

    /** HELP, and what the latest one was. */
    private static final class Helping {
        final Strokes score;
        final Hands deft;
        final Ranges ranges;
        int stroke = NONE;
        int ringer = NONE;

        private final int[] without = new int[STROKES];
        private final int[] byBelow = new int[STROKES];
        private final int[] byAbove = new int[STROKES];
        private int least;

        Helping(Strokes score, Hands deft, Ranges ranges) {
            this.score = score;
            this.deft = deft;
            this.ranges = ranges;
        }

        void forget() {
            stroke = NONE;
            ringer = NONE;
        }

        /** The least sum of TAKES; NEVER, and all stays, if no one STROKE does. A neighbour who can't is NONE. */
        int seek(int r, int below, int above) {
            long own = ranges.bellsOf(r);
            deft.weighWithout(own, without);
            if (below != NONE) {
                deft.weighWith(ranges.bellsOf(below), own, byBelow);
            }
            if (above != NONE) {
                deft.weighWith(ranges.bellsOf(above), own, byAbove);
            }
            least = NEVER;
            for (int k = 0; k < score.size; k++) {
                if (score.isOn(own, k)) {
                    keepIfLess(k, below, byBelow[k]);
                    keepIfLess(k, above, byAbove[k]);
                }
            }
            return least;
        }

        private void keepIfLess(int k, int neighbour, int takes) {
            int sum = without[k] + takes;
            if (neighbour != NONE && sum < least) {
                least = sum;
                stroke = k;
                ringer = neighbour;
            }
        }
    }

    /** SOUNDING, CLASHES and damping. */
    private static final class Sound {
        final Strokes score;
        final int[] ends = new int[STROKES];
        int first = NONE;
        int second = NONE;

        private final int[] nextBeat = new int[BELLS];

        Sound(Strokes score) {
            this.score = score;
        }

        void measure() {
            for (int bell = 0; bell < BELLS; bell++) {
                nextBeat[bell] = NEVER;
            }
            for (int k = score.size - 1; k >= 0; k--) {
                int bell = score.bell[k];
                ends[k] = Math.min(score.beat[k] + score.length[k], nextBeat[bell]);
                nextBeat[bell] = score.beat[k];
            }
        }

        /** Goes through the CLASHES to the one of that number, which is kept: how many there are ahead of it. */
        int walkTo(int wanted) {
            int passed = 0;
            first = NONE;
            second = NONE;
            for (int k = 0; k < score.size && first == NONE; k++) {
                for (int m = k + 1; m < score.size && score.beat[m] < ends[k] && first == NONE; m++) {
                    boolean next = areNext(k, m);
                    if (next && passed == wanted) {
                        first = k;
                        second = m;
                    } else if (next) {
                        passed++;
                    }
                }
            }
            return passed;
        }

        int beatsOfBoth() {
            if (!score.hasNumber(first) || !score.hasNumber(second)) {
                return NONE;
            }
            return Math.min(ends[first], ends[second]) - score.beat[second];
        }

        /** The ends stay as they were ahead of it until all is cut. */
        int cutDown() {
            int cut = 0;
            for (int k = 0; k < score.size; k++) {
                int kept = lengthDamped(k);
                cut += score.length[k] - kept;
                score.length[k] = kept;
            }
            measure();
            return cut;
        }

        private int lengthDamped(int k) {
            int kept = NONE;
            for (int m = k + 1; m < score.size && score.beat[m] < ends[k] && kept == NONE; m++) {
                if (areNext(k, m) && score.beat[m] > score.beat[k]) {
                    kept = score.beat[m] - score.beat[k];
                }
            }
            return kept == NONE ? score.length[k] : kept;
        }

        private boolean areNext(int k, int m) {
            return Math.abs(score.bell[k] - score.bell[m]) == 1;
        }
    }

    /** HEARD: what was heard, laid beside the SCORE. */
    private static final class Listening {
        private static final int FARTHEST = 2;
        private static final int WRONG_BELL = 2;
        private static final int ALONE = 3;

        final Strokes score;
        final int[] lateBy = new int[STROKES];
        final int[] bellOf = new int[STROKES];
        int moreCount;
        boolean told;

        private final int[] moreOn = new int[BELLS];
        private final int[] price = new int[STROKES + 1];
        private final Bits pairs = new Bits();
        private final Bits misses = new Bits();

        Listening(Strokes score) {
            this.score = score;
        }

        void forget() {
            told = false;
        }

        int lay(Strokes sounds) {
            weigh(sounds);
            walk(sounds);
            told = true;
            return price[0];
        }

        /** From the end on, so that the way can be chosen from the begin on. */
        private void weigh(Strokes sounds) {
            for (int k = score.size; k >= 0; k--) {
                int behindBoth = NEVER;
                for (int h = sounds.size; h >= 0; h--) {
                    int behindStroke = k < score.size ? price[h] : NEVER;
                    int behindSound = h < sounds.size ? price[h + 1] : NEVER;
                    boolean both = k < score.size && h < sounds.size;
                    int pair = both ? behindBoth + pairPoints(k, sounds, h) : NEVER;
                    int least = Math.min(pair, ALONE + Math.min(behindStroke, behindSound));
                    boolean last = k == score.size && h == sounds.size;
                    pairs.put(k, h, pair == least);
                    misses.put(k, h, behindStroke + ALONE == least);
                    behindBoth = price[h];
                    price[h] = last ? 0 : least;
                }
            }
        }

        private int pairPoints(int k, Strokes sounds, int h) {
            int apart = Math.abs(sounds.beat[h] - score.beat[k]);
            if (sounds.bell[h] == score.bell[k]) {
                return apart <= FARTHEST ? apart : NEVER;
            }
            return apart == 0 ? WRONG_BELL : NEVER;
        }

        private void walk(Strokes sounds) {
            for (int bell = 0; bell < BELLS; bell++) {
                moreOn[bell] = 0;
            }
            moreCount = 0;
            int k = 0;
            int h = 0;
            for (int i = 0; i < 2 * STROKES && (k < score.size || h < sounds.size); i++) {
                boolean strokesLeft = k < score.size;
                boolean soundsLeft = h < sounds.size;
                if (strokesLeft && soundsLeft && pairs.has(k, h)) {
                    bellOf[k] = sounds.bell[h];
                    lateBy[k] = sounds.beat[h] - score.beat[k];
                    k++;
                    h++;
                } else if (strokesLeft && misses.has(k, h) || !soundsLeft) {
                    bellOf[k] = NONE;
                    lateBy[k] = 0;
                    k++;
                } else {
                    moreOn[sounds.bell[h]]++;
                    moreCount++;
                    h++;
                }
            }
        }

        int pointsOn(long bells) {
            int points = 0;
            for (int k = 0; k < score.size; k++) {
                if (score.isOn(bells, k)) {
                    points += pointsOf(k);
                }
            }
            for (int bell = 0; bell < BELLS; bell++) {
                if ((bells >>> bell & 1) != 0) {
                    points += moreOn[bell] * ALONE;
                }
            }
            return points;
        }

        private int pointsOf(int k) {
            if (bellOf[k] == NONE) {
                return ALONE;
            }
            return bellOf[k] == score.bell[k] ? Math.abs(lateBy[k]) : WRONG_BELL;
        }
    }

    /** The CLOCK, AWAY and BACK as they were told, and KEY. */
    private static final class Days {
        private static final int LEFT_OUT = 3;

        final Strokes score;
        int clock;
        int size;
        boolean hasKey;
        int keyMove;
        int keyLeftOut;
        int keyOctaves;

        private final int[] bellOf = new int[AWAYS];
        private final int[] fromDay = new int[AWAYS];
        private final int[] toDay = new int[AWAYS];
        private final int[] knownDay = new int[AWAYS];
        /** NONE where no BACK was told. */
        private final int[] backDay = new int[AWAYS];
        private final int[] backKnownDay = new int[AWAYS];
        private final boolean[] lying = new boolean[BELLS];

        Days(Strokes score) {
            this.score = score;
        }

        void forgetKey() {
            hasKey = false;
        }

        /** There must be room. */
        int add(int bell, int from, int to) {
            int a = size;
            bellOf[a] = bell;
            fromDay[a] = from;
            toDay[a] = to;
            knownDay[a] = clock;
            backDay[a] = NONE;
            size++;
            return a;
        }

        boolean addBack(int a, int from) {
            if (backDay[a] != NONE) {
                return false;
            }
            backDay[a] = from;
            backKnownDay[a] = clock;
            return true;
        }

        boolean lies(int bell, int day, int known) {
            boolean is = true;
            for (int a = 0; a < size && is; a++) {
                boolean has = bellOf[a] == bell && fromDay[a] <= day && day <= toDay[a];
                is = !has || knownDay[a] > known || isBackBy(a, day, known);
            }
            return is;
        }

        private boolean isBackBy(int a, int day, int known) {
            return backDay[a] != NONE && backKnownDay[a] <= known && backDay[a] <= day;
        }

        int seekKey(int day, int known) {
            for (int bell = 0; bell < BELLS; bell++) {
                lying[bell] = lies(bell, day, known);
            }
            hasKey = true;
            int least = NEVER;
            for (int far = 0; far <= OCTAVE; far++) {
                // above 0 first, so that it is kept where the one below is only as good
                least = tryMove(far, least);
                least = tryMove(-far, least);
            }
            return least;
        }

        private int tryMove(int move, int least) {
            int leftOut = 0;
            int octaves = 0;
            for (int k = 0; k < score.size; k++) {
                int bell = score.bell[k] + move;
                if (!isLying(bell)) {
                    boolean other = isLying(bell + OCTAVE) || isLying(bell - OCTAVE);
                    octaves += other ? 1 : 0;
                    leftOut += other ? 0 : 1;
                }
            }
            int points = octaves + leftOut * LEFT_OUT;
            if (points >= least) {
                return least;
            }
            keyMove = move;
            keyLeftOut = leftOut;
            keyOctaves = octaves;
            return points;
        }

        private boolean isLying(int bell) {
            return isBell(bell) && lying[bell];
        }
    }
}
