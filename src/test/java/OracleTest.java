import java.util.ArrayList;
import java.util.List;
import java.util.Random;
import java.util.TreeSet;

/**
 * Long runs of calls, each answer laid beside that of an oracle which tries every way there is: every row of hands,
 * every parting, every laying. The seeds are fixed, so each run is always the same.
 */
public final class OracleTest {
    private static final int RUNS = 400;
    private static final int STEPS = 50;
    private static final int CANT = 1_000_000;

    private record Stroke(int beat, int bell, int length, int manner) { }

    private record Token(String text, int place) { }

    private static final class Fault extends RuntimeException {
        final int kind;
        final int place;

        Fault(int kind, int place) {
            super(null, null, false, false);
            this.kind = kind;
            this.place = place;
        }
    }

    private record Away(int bell, int from, int to, int known) { }

    /** The document once more, in the longest way. */
    private static final class Oracle {
        String tape = "";
        List<Stroke> score = new ArrayList<>();
        int[] rules = {1, 4, 12, 1};
        Fault fault = null;
        int ringers = 4;
        TreeSet<Integer> absent = new TreeSet<>();
        /** By BELL; null without a PARTING. */
        Integer[] parting = null;
        int[] hands = null;
        int[] helped = null;
        int[][] laid = null;
        List<Stroke> more = null;
        int clock = 0;
        List<Away> aways = new ArrayList<>();
        List<int[]> backs = new ArrayList<>();
        int[] keyed = null;

        // texts

        List<Token> tokens() {
            List<Token> all = new ArrayList<>();
            int i = 0;
            while (i < tape.length()) {
                int j = i;
                while (j < tape.length() && tape.substring(i, j + 1).matches("[a-z]+|[0-9]+")) {
                    j++;
                }
                if (j > i) {
                    all.add(new Token(tape.substring(i, j), i));
                    i = j;
                } else {
                    if (tape.charAt(i) != ' ' && tape.charAt(i) != '\n') {
                        all.add(new Token(tape.substring(i, i + 1), i));
                    }
                    i++;
                }
            }
            all.add(new Token("", tape.length()));
            return all;
        }

        static boolean isNumber(Token t) {
            return t.text.matches("[0-9]{1,3}");
        }

        static int number(Token t, int least, int greatest) {
            if (!isNumber(t)) {
                throw new Fault(1, t.place);
            }
            int n = Integer.parseInt(t.text);
            if (n < least || n > greatest) {
                throw new Fault(2, t.place);
            }
            return n;
        }

        static void word(Token t, String word) {
            if (!t.text.equals(word)) {
                throw new Fault(1, t.place);
            }
        }

        List<Stroke> strokes(boolean bare) {
            List<Token> all = tokens();
            List<Stroke> out = new ArrayList<>();
            int i = 0;
            int beat = 0;
            while (!all.get(i).text.isEmpty()) {
                word(all.get(i++), "at");
                beat = number(all.get(i++), beat, 999);
                do {
                    Token t = all.get(i++);
                    int bell = number(t, 0, 47);
                    for (Stroke s : out) {
                        if (s.beat == beat && s.bell == bell) {
                            throw new Fault(3, t.place);
                        }
                    }
                    if (out.size() == 160) {
                        throw new Fault(4, t.place);
                    }
                    int length = 1;
                    int manner = 0;
                    if (!bare && all.get(i).text.equals("for")) {
                        i++;
                        length = number(all.get(i++), 1, 16);
                    }
                    if (!bare && all.get(i).text.matches("stick|shake")) {
                        manner = all.get(i++).text.equals("stick") ? 1 : 2;
                    }
                    out.add(new Stroke(beat, bell, length, manner));
                } while (isNumber(all.get(i)));
                word(all.get(i++), ";");
            }
            out.sort((a, b) -> a.beat != b.beat ? a.beat - b.beat : a.bell - b.bell);
            return out;
        }

        int score() {
            try {
                score = strokes(false);
                fault = null;
            } catch (Fault f) {
                fault = f;
                return -1;
            } finally {
                tape = "";
            }
            parting = null;
            hands = null;
            helped = null;
            laid = null;
            keyed = null;
            return score.size();
        }

        int manners() {
            List<String> names = List.of("take", "most", "reach", "stick");
            int[] least = {0, 1, 0, 0};
            int[] greatest = {9, 12, 47, 9};
            int[] fresh = {1, 4, 12, 1};
            TreeSet<String> told = new TreeSet<>();
            try {
                List<Token> all = tokens();
                int i = 0;
                while (!all.get(i).text.isEmpty()) {
                    Token t = all.get(i++);
                    int which = names.indexOf(t.text);
                    if (which < 0) {
                        throw new Fault(1, t.place);
                    }
                    if (!told.add(t.text)) {
                        throw new Fault(3, t.place);
                    }
                    fresh[which] = number(all.get(i++), least[which], greatest[which]);
                    word(all.get(i++), ";");
                }
                fault = null;
            } catch (Fault f) {
                fault = f;
                return -1;
            } finally {
                tape = "";
            }
            rules = fresh;
            hands = null;
            return told.size();
        }

        int stroke(int k, int what) {
            if (k < 0 || k >= score.size() || what < 0 || what > 4) {
                return -1;
            }
            Stroke s = score.get(k);
            return new int[] {s.beat, s.bell, s.length, s.manner, soundsTo(k)}[what];
        }

        int ringers(int n) {
            if (n < 1 || n > 12) {
                return -2;
            }
            int before = ringers;
            ringers = n;
            absent.clear();
            parting = null;
            return before;
        }

        int absent(int r, boolean is) {
            if (!isRinger(r)) {
                return -2;
            }
            return (is ? absent.add(r) : absent.remove(r)) ? 1 : 0;
        }

        boolean isRinger(int r) {
            return r >= 0 && r < ringers;
        }

        // hands

        int bestTakes;
        int[] bestRow;

        /** Tries every row of hands, the least first. */
        int tryHands(List<Stroke> row) {
            bestTakes = CANT;
            bestRow = null;
            tryHand(row, new int[row.size()], 0, new Stroke[2], 0);
            return bestTakes;
        }

        void tryHand(List<Stroke> row, int[] chosen, int i, Stroke[] did, int takes) {
            if (takes >= bestTakes) {
                return;
            }
            if (i == row.size()) {
                bestTakes = takes;
                bestRow = chosen.clone();
                return;
            }
            Stroke now = row.get(i);
            for (int hand = 0; hand < 2; hand++) {
                Stroke before = did[hand];
                Stroke other = did[1 - hand];
                boolean heldThere = other != null && other.manner != 1 && other.bell == now.bell;
                int step = step(before, now);
                if (!heldThere && step >= 0) {
                    chosen[i] = hand;
                    did[hand] = now;
                    tryHand(row, chosen, i + 1, did, takes + step);
                    did[hand] = before;
                }
            }
        }

        int step(Stroke a, Stroke b) {
            if (a == null) {
                return 0;
            }
            if (a.bell == b.bell && a.manner != 1 && b.manner != 1) {
                boolean ok = b.beat >= a.beat + 1 && (a.manner != 2 || b.beat >= a.beat + a.length);
                return ok ? 0 : -1;
            }
            if (a.manner == 1 && b.manner == 1) {
                return b.beat >= a.beat + 1 ? 0 : -1;
            }
            int free = a.manner == 1 ? a.beat + 1 : a.beat + a.length;
            free += rules[0];
            if (a.manner == 1 || b.manner == 1) {
                free += rules[3];
            }
            return b.beat >= free ? 1 : -1;
        }

        List<Stroke> rowOf(TreeSet<Integer> bells) {
            List<Stroke> row = new ArrayList<>();
            for (Stroke s : score) {
                if (bells.contains(s.bell)) {
                    row.add(s);
                }
            }
            return row;
        }

        int hands(long bells) {
            if (bells < 0 || bells >= 1L << 48) {
                return -2;
            }
            TreeSet<Integer> set = new TreeSet<>();
            for (int b = 0; b < 48; b++) {
                if ((bells & 1L << b) != 0) {
                    set.add(b);
                }
            }
            if (tryHands(rowOf(set)) >= CANT) {
                return -1;
            }
            hands = new int[score.size()];
            int i = 0;
            for (int k = 0; k < score.size(); k++) {
                hands[k] = set.contains(score.get(k).bell) ? bestRow[i++] : -1;
            }
            return bestTakes;
        }

        int hand(int k) {
            return hands == null || k < 0 || k >= score.size() ? -1 : hands[k];
        }

        // ranges

        List<Integer> used() {
            TreeSet<Integer> bells = new TreeSet<>();
            for (Stroke s : score) {
                bells.add(s.bell);
            }
            return new ArrayList<>(bells);
        }

        int[] bestKey;
        Integer[] bestParting;
        java.util.Map<List<Integer>, Integer> pieces = new java.util.HashMap<>();

        int takesOfPiece(List<Integer> bells) {
            return pieces.computeIfAbsent(new ArrayList<>(bells), b -> tryHands(rowOf(new TreeSet<>(b))));
        }

        /** Every row of how many BELLS the standing ones have; the key is changes, TAKES, RINGERS, then that row. */
        void tryRanges(boolean covering, List<Integer> standing, List<Integer> counts, int done) {
            List<Integer> used = used();
            if (counts.size() == standing.size()) {
                if (done == used.size()) {
                    weighRanges(covering, standing, counts);
                }
                return;
            }
            for (int n = 0; done + n <= used.size() && n <= rules[1]; n++) {
                List<Integer> piece = used.subList(done, done + n);
                boolean fits = n < 2 || piece.get(n - 1) - piece.get(0) <= rules[2];
                if (fits && takesOfPiece(piece) < CANT) {
                    counts.add(n);
                    tryRanges(covering, standing, counts, done + n);
                    counts.remove(counts.size() - 1);
                }
            }
        }

        void weighRanges(boolean covering, List<Integer> standing, List<Integer> counts) {
            List<Integer> used = used();
            Integer[] now = new Integer[48];
            int[] key = new int[3 + counts.size()];
            int at = 0;
            for (int i = 0; i < counts.size(); i++) {
                int n = counts.get(i);
                key[1] += takesOfPiece(used.subList(at, at + n));
                key[2] += n > 0 ? 1 : 0;
                key[3 + i] = n;
                for (int j = 0; j < n; j++) {
                    int bell = used.get(at++);
                    now[bell] = standing.get(i);
                    key[0] += covering && !now[bell].equals(parting[bell]) ? 1 : 0;
                }
            }
            if (bestKey == null || java.util.Arrays.compare(key, bestKey) < 0) {
                bestKey = key;
                bestParting = now;
            }
        }

        boolean settle(boolean covering, int without) {
            List<Integer> standing = new ArrayList<>();
            for (int r = 0; r < ringers; r++) {
                if (!absent.contains(r) && r != without) {
                    standing.add(r);
                }
            }
            bestKey = null;
            pieces.clear();
            tryRanges(covering, standing, new ArrayList<>(), 0);
            if (bestKey != null) {
                parting = bestParting;
            }
            return bestKey != null;
        }

        int part() {
            return settle(false, -1) ? bestKey[1] : -1;
        }

        int give(int bell, int r) {
            if (!isRinger(r) || !used().contains(bell)) {
                return -2;
            }
            if (parting == null) {
                return -4;
            }
            int before = parting[bell];
            parting[bell] = r;
            return before;
        }

        int parted(int bell) {
            return parting == null || !used().contains(bell) ? -1 : parting[bell];
        }

        TreeSet<Integer> bellsOf(int r) {
            TreeSet<Integer> bells = new TreeSet<>();
            for (int b = 0; b < 48; b++) {
                if (parting[b] != null && parting[b] == r) {
                    bells.add(b);
                }
            }
            return bells;
        }

        int load(int r) {
            if (!isRinger(r) || parting == null) {
                return !isRinger(r) ? -2 : -4;
            }
            int takes = tryHands(rowOf(bellsOf(r)));
            return takes >= CANT ? -1 : takes;
        }

        int cover(int r) {
            if (!isRinger(r) || parting == null) {
                return !isRinger(r) ? -2 : -4;
            }
            return settle(true, r) ? bestKey[0] : -1;
        }

        int help(int r) {
            if (!isRinger(r) || parting == null) {
                return !isRinger(r) ? -2 : -4;
            }
            int best = CANT;
            for (int k = 0; k < score.size(); k++) {
                Stroke s = score.get(k);
                for (int n = r - 1; n <= r + 1 && parting[s.bell] == r; n += 2) {
                    if (!isRinger(n) || absent.contains(n)) {
                        continue;
                    }
                    List<Stroke> own = rowOf(bellsOf(r));
                    own.remove(s);
                    List<Stroke> others = rowOf(bellsOf(n));
                    others.add(s);
                    others.sort((a, b) -> score.indexOf(a) - score.indexOf(b));
                    int sum = tryHands(own) + tryHands(others);
                    if (sum < best) {
                        best = sum;
                        helped = new int[] {k, n};
                    }
                }
            }
            return best >= CANT ? -1 : best;
        }

        int helped(int what) {
            return helped == null || what < 0 || what > 1 ? -1 : helped[what];
        }

        // what sounds

        boolean sounds(int k, int beat) {
            Stroke s = score.get(k);
            if (beat < s.beat || beat >= s.beat + s.length) {
                return false;
            }
            for (Stroke t : score) {
                if (t.bell == s.bell && t.beat > s.beat && t.beat <= beat) {
                    return false;
                }
            }
            return true;
        }

        int soundsTo(int k) {
            int beat = score.get(k).beat;
            while (sounds(k, beat)) {
                beat++;
            }
            return beat;
        }

        List<int[]> clashList() {
            List<int[]> all = new ArrayList<>();
            for (int i = 0; i < score.size(); i++) {
                for (int j = i + 1; j < score.size(); j++) {
                    int apart = score.get(i).bell - score.get(j).bell;
                    if (apart * apart == 1 && sounds(i, score.get(j).beat)) {
                        int both = 0;
                        for (int beat = 0; beat < 1020; beat++) {
                            both += sounds(i, beat) && sounds(j, beat) ? 1 : 0;
                        }
                        all.add(new int[] {i, j, both});
                    }
                }
            }
            return all;
        }

        int clash(int i, int what) {
            List<int[]> all = clashList();
            return i < 0 || i >= all.size() || what < 0 || what > 2 ? -1 : all.get(i)[what];
        }

        int damp() {
            int[] to = new int[score.size()];
            for (int[] c : clashList()) {
                int later = score.get(c[1]).beat - score.get(c[0]).beat;
                if (later > 0 && (to[c[0]] == 0 || later < to[c[0]])) {
                    to[c[0]] = later;
                }
            }
            int cut = 0;
            for (int k = 0; k < to.length; k++) {
                Stroke s = score.get(k);
                if (to[k] > 0) {
                    cut += s.length - to[k];
                    score.set(k, new Stroke(s.beat, s.bell, to[k], s.manner));
                }
            }
            hands = null;
            return cut;
        }

        int bestPoints;
        String bestWay;

        void tryWay(List<Stroke> heard, int k, int h, int points, String way) {
            if (points > bestPoints) {
                return;
            }
            if (k == score.size() && h == heard.size()) {
                if (points < bestPoints || way.compareTo(bestWay) < 0) {
                    bestPoints = points;
                    bestWay = way;
                }
                return;
            }
            if (k < score.size() && h < heard.size()) {
                int pair = pairPoints(score.get(k), heard.get(h));
                if (pair >= 0) {
                    tryWay(heard, k + 1, h + 1, points + pair, way + "a");
                }
            }
            if (k < score.size()) {
                tryWay(heard, k + 1, h, points + 3, way + "b");
            }
            if (h < heard.size()) {
                tryWay(heard, k, h + 1, points + 3, way + "c");
            }
        }

        static int pairPoints(Stroke s, Stroke h) {
            int apart = Math.abs(s.beat - h.beat);
            if (s.bell == h.bell && apart <= 2) {
                return apart;
            }
            return s.bell != h.bell && apart == 0 ? 2 : -1;
        }

        int heard() {
            List<Stroke> heard;
            try {
                heard = strokes(true);
                fault = null;
            } catch (Fault f) {
                fault = f;
                return -1;
            } finally {
                tape = "";
            }
            bestPoints = 3 * (score.size() + heard.size());
            bestWay = "d";
            tryWay(heard, 0, 0, 0, "");
            laid = new int[score.size()][];
            more = new ArrayList<>();
            int k = 0;
            int h = 0;
            for (char c : bestWay.toCharArray()) {
                if (c == 'a') {
                    Stroke s = score.get(k);
                    Stroke t = heard.get(h++);
                    laid[k++] = new int[] {1, t.beat - s.beat, t.bell, pairPoints(s, t)};
                } else if (c == 'b') {
                    laid[k++] = new int[] {0, 0, -1, 3};
                } else {
                    more.add(heard.get(h++));
                }
            }
            return bestPoints;
        }

        int laid(int k, int what) {
            return laid == null || k < 0 || k >= laid.length || what < 0 || what > 2 ? -9 : laid[k][what];
        }

        int more() {
            return laid == null ? -1 : more.size();
        }

        int blame(int r) {
            if (!isRinger(r)) {
                return -2;
            }
            if (parting == null || laid == null) {
                return -4;
            }
            int points = 0;
            for (int k = 0; k < laid.length; k++) {
                points += parting[score.get(k).bell] == r ? laid[k][3] : 0;
            }
            for (Stroke m : more) {
                points += parting[m.bell] != null && parting[m.bell] == r ? 3 : 0;
            }
            return points;
        }

        // days

        static boolean isDay(int day) {
            return day >= 0 && day <= 999;
        }

        int pass(int n) {
            if (n < 1 || n > 500 || clock + n > 999) {
                return -2;
            }
            return clock += n;
        }

        int away(int bell, int from, int to) {
            if (bell < 0 || bell > 47 || !isDay(from) || !isDay(to) || from > to) {
                return -2;
            }
            if (aways.size() == 60) {
                return -3;
            }
            aways.add(new Away(bell, from, to, clock));
            backs.add(null);
            return aways.size() - 1;
        }

        int back(int a, int from) {
            if (a < 0 || a >= aways.size() || !isDay(from)) {
                return -2;
            }
            if (backs.get(a) != null) {
                return -4;
            }
            backs.set(a, new int[] {from, clock});
            return 1;
        }

        int there(int bell, int day, int known) {
            if (bell < 0 || bell > 47 || !isDay(day) || !isDay(known)) {
                return -2;
            }
            for (int a = 0; a < aways.size(); a++) {
                Away w = aways.get(a);
                int[] b = backs.get(a);
                boolean has = w.bell == bell && w.known <= known && w.from <= day && day <= w.to;
                boolean back = b != null && b[1] <= known && b[0] <= day;
                if (has && !back) {
                    return 0;
                }
            }
            return 1;
        }

        int key(int day, int known) {
            if (!isDay(day) || !isDay(known)) {
                return -2;
            }
            int best = CANT;
            for (int k = -12; k <= 12; k++) {
                int out = 0;
                int octaves = 0;
                for (Stroke s : score) {
                    int bell = s.bell + k;
                    if (there(bell, day, known) != 1) {
                        if (there(bell + 12, day, known) == 1 || there(bell - 12, day, known) == 1) {
                            octaves++;
                        } else {
                            out++;
                        }
                    }
                }
                int points = 3 * out + octaves;
                int size = Math.abs(k);
                if (points < best || points == best && size <= Math.abs(keyed[0])) {
                    best = points;
                    keyed = new int[] {k, out, octaves};
                }
            }
            return best;
        }

        int keyed(int what) {
            return keyed == null || what < 0 || what > 2 ? -99 : keyed[what];
        }

        int count(int what) {
            TreeSet<Integer> with = new TreeSet<>();
            for (int b = 0; parting != null && b < 48; b++) {
                if (parting[b] != null) {
                    with.add(parting[b]);
                }
            }
            int[] all = {score.size(), used().size(), ringers, absent.size(), parting == null ? 0 : 1, with.size(),
                clock, aways.size(), tape.length()};
            return what < 0 || what >= all.length ? -1 : all[what];
        }
    }

    private static int wrong = 0;
    private static Random random;
    private static final int[] ANSWERED = new int[31];

    private static void due(int run, int kind, String call, int got, int want) {
        if (want >= 0) {
            ANSWERED[kind]++;
        }
        if (got != want) {
            wrong++;
            if (wrong < 40) {
                System.out.println("run " + run + ": " + call + " answered " + got + ", due is " + want);
            }
        }
    }

    private static int upTo(int n) {
        return random.nextInt(n);
    }

    private static String gap() {
        return upTo(12) == 0 ? "\n " : " ";
    }

    private static String scoreText(boolean bare, int bells, int low, int pace) {
        StringBuilder s = new StringBuilder();
        int left = upTo(10);
        int beat = upTo(3);
        while (left > 0) {
            s.append("at").append(upTo(6) == 0 ? "" : " ").append(beat);
            TreeSet<Integer> set = new TreeSet<>();
            for (int n = 1 + upTo(upTo(3) + 1); n > 0 && left > 0; n--) {
                set.add(low + upTo(bells));
                left--;
            }
            List<Integer> row = new ArrayList<>(set);
            java.util.Collections.shuffle(row, random);
            for (int bell : row) {
                s.append(gap()).append(bell);
                if (!bare && upTo(3) == 0) {
                    s.append(" for ").append(1 + upTo(upTo(8) == 0 ? 16 : 4));
                }
                if (!bare && upTo(4) == 0) {
                    s.append(upTo(2) == 0 ? " stick" : " shake");
                }
            }
            s.append(upTo(4) == 0 ? "\n; " : ";");
            beat += 1 + upTo(pace);
        }
        return s.toString();
    }

    private static String heardText(Oracle o) {
        StringBuilder s = new StringBuilder();
        java.util.TreeMap<Integer, TreeSet<Integer>> rows = new java.util.TreeMap<>();
        for (Stroke t : o.score) {
            int what = upTo(8);
            int beat = Math.max(0, t.beat + (what < 4 ? 0 : upTo(7) - 3));
            int bell = what == 7 ? upTo(48) : t.bell;
            if (what != 6) {
                rows.computeIfAbsent(beat, b -> new TreeSet<>()).add(bell);
            }
        }
        rows.forEach((beat, bells) -> {
            s.append("at ").append(beat);
            bells.forEach(b -> s.append(" ").append(b));
            s.append(";");
        });
        return s.toString();
    }

    private static String mannersText() {
        List<String> all = new ArrayList<>();
        for (String[] w : new String[][] {{"take", "4"}, {"most", "8"}, {"reach", "20"}, {"stick", "4"}}) {
            if (upTo(2) == 0) {
                all.add(w[0] + " " + upTo(Integer.parseInt(w[1])) + ";");
            }
        }
        java.util.Collections.shuffle(all, random);
        return String.join("", all);
    }

    private static String spoiled(String text) {
        String signs = " ;0123456789atforstickshakemoreach.\n\u00ff";
        StringBuilder s = new StringBuilder(text);
        for (int i = upTo(3); i >= 0 && s.length() > 0; i--) {
            int at = upTo(s.length());
            int what = upTo(3);
            if (what == 0) {
                s.deleteCharAt(at);
            } else if (what == 1) {
                s.insert(at, signs.charAt(upTo(signs.length())));
            } else {
                s.setCharAt(at, signs.charAt(upTo(signs.length())));
            }
        }
        return s.toString();
    }

    private static void tape(int run, BellTable x, Oracle o, String text) {
        int start = o.tape.length();
        for (int i = 0; i < text.length(); i += 20) {
            int[] five = Texts.fiveFrom(text, i);
            int want = start + i + 20 > 1200 ? -3 : start + i + 20;
            due(run, 0, "feed", x.feed(five[0], five[1], five[2], five[3], five[4]), want);
            if (want == -3) {
                break;
            }
            o.tape = o.tape + text.substring(i, Math.min(text.length(), i + 20));
        }
        due(run, 0, "end", x.end(o.tape.length()), o.tape.length());
    }

    private static void text(int run, BellTable x, Oracle o, int bells, int low) {
        int kind = upTo(3);
        String text = kind == 0 ? scoreText(false, bells, low, 1 + upTo(5)) : kind == 1 ? mannersText() : heardText(o);
        tape(run, x, o, upTo(4) == 0 ? spoiled(text) : text);
        if (kind == 0) {
            due(run, 1, "score of " + o.tape, x.score(), o.score());
            if (upTo(2) == 0) {
                due(run, 5, "part", x.part(), o.part());
            }
        } else if (kind == 1) {
            due(run, 2, "manners of " + o.tape, x.manners(), o.manners());
        } else {
            due(run, 3, "heard of " + o.tape, x.heard(), o.heard());
        }
        due(run, 4, "fault(0)", x.fault(0), o.fault == null ? 0 : o.fault.kind);
        due(run, 4, "fault(1)", x.fault(1), o.fault == null ? -1 : o.fault.place);
    }

    private static void callHands(int run, BellTable x, Oracle o, int bells, int low) {
        int r = upTo(6) == 0 ? upTo(o.ringers + 2) - 1 : upTo(o.ringers);
        List<Integer> used = o.used();
        int bell = upTo(6) == 0 || used.isEmpty() ? low + upTo(bells + 1) : used.get(upTo(used.size()));
        switch (upTo(11)) {
            case 0, 9 -> due(run, 5, "part", x.part(), o.part());
            case 1, 10 -> due(run, 6, "give " + bell + " " + r, x.give(bell, r), o.give(bell, r));
            case 2 -> due(run, 7, "load " + r, x.load(r), o.load(r));
            case 3 -> due(run, 8, "cover " + r, x.cover(r), o.cover(r));
            case 4, 5 -> due(run, 9, "help " + r, x.help(r), o.help(r));
            case 6 -> {
                long set = random.nextLong() >>> 16 | random.nextLong() >>> (15 + upTo(2));
                due(run, 10, "hands " + set, x.hands(set), o.hands(set));
            }
            case 7 -> {
                boolean is = upTo(3) == 0;
                due(run, 11, "absent " + r, x.absent(r, is), o.absent(r, is));
            }
            default -> {
                int n = upTo(20) == 0 ? upTo(15) - 1 : o.ringers;
                if (n != o.ringers || upTo(8) == 0) {
                    due(run, 12, "ringers " + n, x.ringers(n), o.ringers(n));
                }
            }
        }
    }

    private static void callDays(int run, BellTable x, Oracle o, int bells, int low) {
        int day = upTo(30) - 1;
        int known = upTo(o.clock + 3) - 1;
        int bell = upTo(3) == 0 ? upTo(50) - 1 : low + upTo(bells);
        switch (upTo(7)) {
            case 0 -> {
                int n = upTo(5) - 1;
                due(run, 13, "pass " + n, x.pass(n), o.pass(n));
            }
            case 1, 2 -> {
                int to = day + upTo(20) - 2;
                due(run, 14, "away " + bell, x.away(bell, day, to), o.away(bell, day, to));
            }
            case 3 -> {
                int a = upTo(o.aways.size() + 2) - 1;
                due(run, 15, "back " + a, x.back(a, day), o.back(a, day));
            }
            case 4 -> due(run, 16, "there " + bell, x.there(bell, day, known), o.there(bell, day, known));
            default -> due(run, 17, "key " + day, x.key(day, known), o.key(day, known));
        }
    }

    private static void look(int run, BellTable x, Oracle o) {
        for (int what = -1; what < 10; what++) {
            due(run, 18, "count " + what, x.count(what), o.count(what));
        }
        for (int what = -1; what < 5; what++) {
            due(run, 19, "rule " + what, x.rule(what), what < 0 || what > 3 ? -1 : o.rules[what]);
            due(run, 20, "helped " + what, x.helped(what), o.helped(what));
            due(run, 21, "keyed " + what, x.keyed(what), o.keyed(what));
        }
        due(run, 22, "more", x.more(), o.more());
        for (int r = -1; r <= o.ringers; r++) {
            due(run, 23, "blame " + r, x.blame(r), o.blame(r));
        }
        for (int bell = -1; bell < 49; bell++) {
            due(run, 24, "parted " + bell, x.parted(bell), o.parted(bell));
        }
        for (int k = -1; k <= o.score.size(); k++) {
            due(run, 25, "hand " + k, x.hand(k), o.hand(k));
            for (int what = -1; what < 6; what++) {
                due(run, 26, "stroke " + k + " " + what, x.stroke(k, what), o.stroke(k, what));
                due(run, 27, "laid " + k + " " + what, x.laid(k, what), o.laid(k, what));
            }
        }
    }

    private static void lookAtClashes(int run, BellTable x, Oracle o) {
        int n = o.clashList().size();
        due(run, 28, "clashes", x.clashes(), n);
        for (int i = -1; i <= n; i++) {
            for (int what = -1; what < 4; what++) {
                due(run, 29, "clash " + i + " " + what, x.clash(i, what), o.clash(i, what));
            }
        }
    }

    private static void run(int run) {
        random = new Random(run);
        BellTable x = new BellTable();
        Oracle o = new Oracle();
        int bells = 2 + upTo(8);
        int low = upTo(48 - bells);
        for (int i = 0; i < STEPS; i++) {
            int what = upTo(20);
            if (what < 5) {
                text(run, x, o, bells, low);
            } else if (what < 14) {
                callHands(run, x, o, bells, low);
            } else if (what < 18) {
                callDays(run, x, o, bells, low);
            } else if (what < 19) {
                lookAtClashes(run, x, o);
            } else {
                due(run, 30, "damp", x.damp(), o.damp());
            }
            look(run, x, o);
        }
    }

    /** PARTINGS by hand, as no RANGES would be, where many a STROKE can be helped out with. */
    private static void helpRun(int run) {
        random = new Random(run);
        BellTable x = new BellTable();
        Oracle o = new Oracle();
        int ringers = 2 + upTo(3);
        due(run, 12, "ringers", x.ringers(ringers), o.ringers(ringers));
        int bells = 3 + upTo(5);
        for (int i = 0; i < STEPS / 5; i++) {
            tape(run, x, o, "most 12;take 0;stick 0;");
            due(run, 2, "manners", x.manners(), o.manners());
            tape(run, x, o, scoreText(false, bells, 20, 1 + upTo(3)));
            due(run, 1, "score", x.score(), o.score());
            due(run, 5, "part", x.part(), o.part());
            tape(run, x, o, mannersText());
            due(run, 2, "manners", x.manners(), o.manners());
            for (int bell : o.used()) {
                int r = upTo(ringers);
                due(run, 6, "give " + bell + " " + r, x.give(bell, r), o.give(bell, r));
            }
            for (int r = 0; r < ringers; r++) {
                due(run, 9, "help " + r, x.help(r), o.help(r));
                due(run, 20, "helped(0)", x.helped(0), o.helped(0));
                due(run, 20, "helped(1)", x.helped(1), o.helped(1));
                due(run, 7, "load " + r, x.load(r), o.load(r));
                if (upTo(4) == 0) {
                    due(run, 8, "cover " + r, x.cover(r), o.cover(r));
                }
            }
        }
    }

    public static void main(String[] args) {
        int runs = args.length > 0 ? Integer.parseInt(args[0]) : RUNS;
        for (int i = 0; i < runs; i++) {
            run(i);
            helpRun(i);
        }
        System.out.println("answers that tell something, by call: " + java.util.Arrays.toString(ANSWERED));
        System.out.println(wrong == 0 ? "all answers are as due" : wrong + " answers are not as due");
        if (wrong != 0) {
            System.exit(1);
        }
    }
}
