import java.util.ArrayList;
import java.util.HashMap;
import java.util.List;
import java.util.Map;
import java.util.Random;
import java.util.TreeMap;
import java.util.TreeSet;

/**
 * Scores up to the document's bounds beside plain, slow tables, and wild arguments in every state, with which no call
 * may throw. The seeds are fixed.
 */
public final class LargeTest {
    private static final int CANT = 100_000;
    private static final int[] EDGES = {Integer.MIN_VALUE, -49, -13, -12, -4, -2, -1, 0, 1, 2, 3, 4, 11, 12, 13, 16, 47,
        48, 59, 60, 159, 160, 161, 499, 500, 501, 999, 1000, 1180, 1200, 1201, Integer.MAX_VALUE};

    private record Stroke(int beat, int bell, int length, int manner) { }

    private static int wrong = 0;
    private static Random random;

    private static void due(int run, String call, int got, int want) {
        if (got != want) {
            wrong++;
            if (wrong < 40) {
                System.out.println("run " + run + ": " + call + " answered " + got + ", due is " + want);
            }
        }
    }

    private static int upTo(int n) {
        return random.nextInt(n);
    }

    /** As many STROKES as the tape and the bound let in. */
    private static List<Stroke> strokes(int bells, int low, int pace, int crowd) {
        TreeMap<Integer, TreeMap<Integer, Stroke>> rows = new TreeMap<>();
        int beat = 0;
        int n = 0;
        int bytes = 0;
        while (n < 160 && bytes < 1150 && beat < 1000) {
            bytes += 7;
            for (int i = 1 + upTo(crowd); i > 0 && n < 160 && bytes < 1180; i--) {
                int bell = low + upTo(bells);
                int length = upTo(6) == 0 && bytes < 1000 ? 1 + upTo(16) : 1;
                int manner = upTo(9) == 0 && bytes < 900 ? 1 + upTo(2) : 0;
                bytes += 3 + (length > 1 ? 7 : 0) + (manner > 0 ? 6 : 0);
                TreeMap<Integer, Stroke> row = rows.computeIfAbsent(beat, b -> new TreeMap<>());
                n += row.put(bell, new Stroke(beat, bell, length, manner)) == null ? 1 : 0;
            }
            beat += 1 + upTo(pace);
        }
        List<Stroke> all = new ArrayList<>();
        rows.values().forEach(row -> all.addAll(row.values()));
        return all;
    }

    private static String text(List<Stroke> all, boolean bare) {
        StringBuilder s = new StringBuilder();
        int beat = -1;
        for (Stroke t : all) {
            if (t.beat != beat) {
                s.append(beat < 0 ? "at" : ";at").append(t.beat);
                beat = t.beat;
            }
            s.append(' ').append(t.bell);
            if (!bare && t.length > 1) {
                s.append("for").append(t.length);
            }
            if (!bare && t.manner > 0) {
                s.append(t.manner == 1 ? "stick" : "shake");
            }
        }
        return s.append(all.isEmpty() ? "" : ";").toString();
    }

    private static List<Stroke> fitting(List<Stroke> all, boolean bare) {
        List<Stroke> out = new ArrayList<>(all);
        while (text(out, bare).length() > 1200) {
            out.remove(out.size() - 1);
        }
        return out;
    }

    private static int step(int[] rules, Stroke a, Stroke b) {
        if (a == null) {
            return 0;
        }
        int gap = b.beat - a.beat;
        boolean bothBell = a.manner != 1 && b.manner != 1;
        if (bothBell && a.bell == b.bell) {
            return gap >= (a.manner == 2 ? a.length : 1) ? 0 : CANT;
        }
        if (a.manner == 1 && b.manner == 1) {
            return gap >= 1 ? 0 : CANT;
        }
        int free = (a.manner == 1 ? 1 : a.length) + rules[0] + (bothBell ? 0 : rules[3]);
        return gap >= free ? 1 : CANT;
    }

    /** By the last STROKE of each hand: the fewest TAKES of the rest; with -1 for nothing. */
    private static final class HandTable {
        final int[] rules;
        final List<Stroke> row;
        final Map<Integer, Integer> known = new HashMap<>();

        HandTable(int[] rules, List<Stroke> row) {
            this.rules = rules;
            this.row = row;
        }

        Stroke at(int i) {
            return i < 0 ? null : row.get(i);
        }

        int go(int i, int[] did, int hand) {
            Stroke other = at(did[1 - hand]);
            Stroke now = row.get(i);
            if (other != null && other.manner != 1 && other.bell == now.bell) {
                return CANT;
            }
            int[] then = did.clone();
            then[hand] = i;
            return Math.min(CANT, step(rules, at(did[hand]), now) + least(i + 1, then));
        }

        int least(int i, int[] did) {
            if (i == row.size()) {
                return 0;
            }
            int key = (i * 200 + did[0] + 1) * 200 + did[1] + 1;
            Integer old = known.get(key);
            if (old == null) {
                old = Math.min(go(i, did, 0), go(i, did, 1));
                known.put(key, old);
            }
            return old;
        }

        int takes() {
            for (int i = row.size(); i > 0; i--) {
                // fills from the end, so that the calls stay shallow
                for (int j = -1; j < i - 1; j++) {
                    least(i, new int[] {i - 1, j});
                    least(i, new int[] {j, i - 1});
                }
            }
            return least(0, new int[] {-1, -1});
        }

        int[] hands() {
            int[] out = new int[row.size()];
            int[] did = {-1, -1};
            for (int i = 0; i < out.length; i++) {
                out[i] = go(i, did, 0) == least(i, did) ? 0 : 1;
                did[out[i]] = i;
            }
            return out;
        }
    }

    private static List<Stroke> rowOf(List<Stroke> score, TreeSet<Integer> bells) {
        List<Stroke> row = new ArrayList<>();
        for (Stroke s : score) {
            if (bells.contains(s.bell)) {
                row.add(s);
            }
        }
        return row;
    }

    private static void checkHands(int run, BellTable x, int[] rules, List<Stroke> score) {
        TreeSet<Integer> used = new TreeSet<>();
        score.forEach(s -> used.add(s.bell));
        TreeSet<Integer> set = new TreeSet<>();
        long bits = 0;
        int odds = 1 + upTo(4);
        for (int bell : used) {
            if (upTo(odds) == 0) {
                set.add(bell);
                bits |= 1L << bell;
            }
        }
        HandTable table = new HandTable(rules, rowOf(score, set));
        int takes = table.takes();
        due(run, "hands " + bits, x.hands(bits), takes >= CANT ? -1 : takes);
        if (takes >= CANT) {
            return;
        }
        int[] hands = table.hands();
        int i = 0;
        for (int k = 0; k < score.size(); k++) {
            due(run, "hand " + k, x.hand(k), set.contains(score.get(k).bell) ? hands[i++] : -1);
        }
    }

    /** Rows of counts, kept as text keys that compare as the document's order does. */
    private static String bestRanges(int[] rules, List<Stroke> score, List<Integer> standing, Integer[] had) {
        TreeSet<Integer> set = new TreeSet<>();
        score.forEach(s -> set.add(s.bell));
        List<Integer> used = new ArrayList<>(set);
        int[][] takes = new int[used.size() + 1][used.size() + 1];
        for (int i = 0; i < used.size(); i++) {
            for (int j = i + 1; j <= used.size(); j++) {
                boolean fits = j - i <= rules[1] && used.get(j - 1) - used.get(i) <= rules[2];
                takes[i][j] = fits ? new HandTable(rules, rowOf(score, new TreeSet<>(used.subList(i, j)))).takes() : CANT;
            }
        }
        String[] best = new String[used.size() + 1];
        best[used.size()] = "000 000 00 ";
        for (int who = standing.size() - 1; who >= 0; who--) {
            String[] next = new String[used.size() + 1];
            for (int i = 0; i <= used.size(); i++) {
                for (int j = i; j <= used.size(); j++) {
                    if (best[j] == null || takes[i][j] >= CANT) {
                        continue;
                    }
                    int changes = 0;
                    for (int b = i; had != null && b < j; b++) {
                        changes += had[used.get(b)].equals(standing.get(who)) ? 0 : 1;
                    }
                    String now = String.format("%03d %03d %02d %02d%s", changes + number(best[j], 0, 3),
                        takes[i][j] + number(best[j], 4, 7), (j > i ? 1 : 0) + number(best[j], 8, 10), j - i,
                        best[j].substring(11));
                    if (next[i] == null || now.compareTo(next[i]) < 0) {
                        next[i] = now;
                    }
                }
            }
            best = next;
        }
        return best[0];
    }

    private static int number(String s, int from, int to) {
        return Integer.parseInt(s.substring(from, to));
    }

    private static void checkParting(int run, BellTable x, List<Stroke> score, List<Integer> standing, String best) {
        TreeSet<Integer> set = new TreeSet<>();
        score.forEach(s -> set.add(s.bell));
        List<Integer> used = new ArrayList<>(set);
        int at = 0;
        for (int who = 0; who < standing.size(); who++) {
            int n = number(best, 11 + 2 * who, 13 + 2 * who);
            for (int i = 0; i < n; i++) {
                due(run, "parted " + used.get(at), x.parted(used.get(at)), standing.get(who));
                at++;
            }
        }
    }

    private static void checkRanges(int run, BellTable x, int[] rules, List<Stroke> score) {
        int ringers = 6 + upTo(7);
        x.ringers(ringers);
        List<Integer> standing = new ArrayList<>();
        for (int r = 0; r < ringers; r++) {
            boolean is = upTo(8) == 0;
            x.absent(r, is);
            if (!is) {
                standing.add(r);
            }
        }
        String best = bestRanges(rules, score, standing, null);
        due(run, "part", x.part(), best == null ? -1 : number(best, 4, 7));
        if (best == null) {
            return;
        }
        checkParting(run, x, score, standing, best);
        Integer[] had = new Integer[48];
        for (Stroke s : score) {
            if (had[s.bell] == null) {
                int now = upTo(3) == 0 ? upTo(ringers) : x.parted(s.bell);
                x.give(s.bell, now);
                had[s.bell] = now;
            }
        }
        checkHelp(run, x, rules, score, had, standing);
        int gone = upTo(ringers);
        standing.remove((Integer) gone);
        best = bestRanges(rules, score, standing, had);
        due(run, "cover " + gone, x.cover(gone), best == null ? -1 : number(best, 0, 3));
        if (best != null) {
            checkParting(run, x, score, standing, best);
        }
    }

    private static List<Stroke> ownRow(List<Stroke> score, Integer[] had, int r) {
        List<Stroke> row = new ArrayList<>();
        for (Stroke s : score) {
            if (had[s.bell] == r) {
                row.add(s);
            }
        }
        return row;
    }

    private static void checkHelp(int run, BellTable x, int[] rules, List<Stroke> score, Integer[] had,
            List<Integer> standing) {
        int r = upTo(x.count(2));
        int best = CANT;
        int[] helped = {x.helped(0), x.helped(1)};
        for (int k = 0; k < score.size(); k++) {
            Stroke s = score.get(k);
            if (had[s.bell] != r) {
                continue;
            }
            List<Stroke> own = ownRow(score, had, r);
            own.remove(s);
            int rest = new HandTable(rules, own).takes();
            for (int n = r - 1; n <= r + 1; n += 2) {
                if (standing.contains(n)) {
                    List<Stroke> more = ownRow(score, had, n);
                    more.add(s);
                    more.sort((a, b) -> a.beat != b.beat ? a.beat - b.beat : a.bell - b.bell);
                    int sum = rest + new HandTable(rules, more).takes();
                    if (sum < best) {
                        best = sum;
                        helped = new int[] {k, n};
                    }
                }
            }
        }
        due(run, "help " + r, x.help(r), best >= CANT ? -1 : best);
        due(run, "helped(0)", x.helped(0), helped[0]);
        due(run, "helped(1)", x.helped(1), helped[1]);
    }

    private static void checkHeard(int run, BellTable x, List<Stroke> score) {
        TreeMap<Integer, TreeSet<Integer>> rows = new TreeMap<>();
        for (Stroke s : score) {
            int what = upTo(12);
            int beat = Math.min(999, Math.max(0, s.beat + (what < 7 ? 0 : upTo(7) - 3)));
            if (what != 11) {
                rows.computeIfAbsent(beat, b -> new TreeSet<>()).add(what == 10 ? upTo(48) : s.bell);
            }
        }
        List<Stroke> heard = new ArrayList<>();
        rows.forEach((beat, bells) -> bells.forEach(b -> heard.add(new Stroke(beat, b, 1, 0))));
        List<Stroke> told = fitting(heard.subList(0, Math.min(160, heard.size())), true);
        int n = score.size();
        int m = told.size();
        int[][] least = new int[n + 1][m + 1];
        for (int k = n; k >= 0; k--) {
            for (int h = m; h >= 0; h--) {
                int best = k == n && h == m ? 0 : CANT;
                if (k < n && h < m) {
                    best = Math.min(best, pair(score.get(k), told.get(h)) + least[k + 1][h + 1]);
                }
                best = k < n ? Math.min(best, 3 + least[k + 1][h]) : best;
                least[k][h] = h < m ? Math.min(best, 3 + least[k][h + 1]) : best;
            }
        }
        Texts.tape(x, text(told, true));
        due(run, "heard", x.heard(), least[0][0]);
        int more = 0;
        int h = 0;
        for (int k = 0; k < n || h < m;) {
            if (k < n && h < m && pair(score.get(k), told.get(h)) + least[k + 1][h + 1] == least[k][h]) {
                due(run, "laid " + k, x.laid(k, 0), 1);
                due(run, "laid " + k, x.laid(k, 1), told.get(h).beat - score.get(k).beat);
                due(run, "laid " + k, x.laid(k, 2), told.get(h).bell);
                k++;
                h++;
            } else if (k < n && 3 + least[k + 1][h] == least[k][h]) {
                due(run, "laid " + k, x.laid(k, 0), 0);
                due(run, "laid " + k, x.laid(k, 2), -1);
                k++;
            } else {
                more++;
                h++;
            }
        }
        due(run, "more", x.more(), more);
    }

    private static int pair(Stroke s, Stroke h) {
        int apart = Math.abs(s.beat - h.beat);
        if (s.bell == h.bell) {
            return apart <= 2 ? apart : CANT;
        }
        return apart == 0 ? 2 : CANT;
    }

    private static void large(int run) {
        random = new Random(run);
        int bells = 1 + upTo(upTo(3) == 0 ? 48 : 14);
        int low = upTo(49 - bells);
        List<Stroke> score = fitting(strokes(bells, low, 1 + upTo(7), 1 + upTo(4)), false);
        BellTable x = new BellTable();
        Texts.tape(x, text(score, false));
        due(run, "score", x.score(), score.size());
        int[] rules = {upTo(3), 1 + upTo(12), upTo(2) == 0 ? 47 : upTo(48), upTo(3)};
        Texts.tape(x, "take" + rules[0] + ";most" + rules[1] + ";reach" + rules[2] + ";stick" + rules[3] + ";");
        due(run, "manners", x.manners(), 4);
        for (int i = 0; i < 3; i++) {
            checkHands(run, x, rules, score);
        }
        checkRanges(run, x, rules, score);
        checkHeard(run, x, score);
        x.damp();
        for (int k = 0; k < score.size(); k++) {
            Stroke s = score.get(k);
            score.set(k, new Stroke(s.beat, s.bell, x.stroke(k, 2), s.manner));
        }
        checkHands(run, x, rules, score);
        checkRanges(run, x, rules, score);
    }

    private static int wildInt() {
        return upTo(3) == 0 ? random.nextInt() : upTo(2) == 0 ? EDGES[upTo(EDGES.length)] : upTo(13);
    }

    private static int wildCall(BellTable x) {
        int a = wildInt();
        int b = wildInt();
        int c = wildInt();
        switch (upTo(28)) {
            case 0: return x.end(a);
            case 1: return x.fault(a);
            case 2: return x.rule(a);
            case 3: return x.stroke(a, b);
            case 4: return upTo(6) == 0 ? x.ringers(a) : x.count(2);
            case 5: return x.absent(a, upTo(3) == 0);
            case 6: return x.hands(upTo(2) == 0 ? random.nextLong() : random.nextLong() >>> 16);
            case 7: return x.hand(a);
            case 8: return x.part();
            case 9: return x.give(a, b);
            case 10: return x.parted(a);
            case 11: return x.load(a);
            case 12: return x.cover(a);
            case 13: return x.help(a);
            case 14: return x.helped(a);
            case 15: return x.clashes();
            case 16: return x.clash(a, b);
            case 17: return x.damp();
            case 18: return x.laid(a, b);
            case 19: return x.more();
            case 20: return x.blame(a);
            case 21: return x.pass(a);
            case 22: return x.away(a, b, c);
            case 23: return x.back(a, b);
            case 24: return x.there(a, b, c);
            case 25: return x.key(a, b);
            case 26: return x.keyed(a);
            default: return x.count(a);
        }
    }

    private static void wild(int run) {
        random = new Random(run);
        BellTable x = new BellTable();
        for (int i = 0; i < 300; i++) {
            if (upTo(25) == 0) {
                int bells = 1 + upTo(48);
                List<Stroke> score = fitting(strokes(bells, upTo(49 - bells), 1 + upTo(7), 1 + upTo(4)), false);
                Texts.tape(x, text(score, false));
            } else if (upTo(25) == 0) {
                for (int n = upTo(61); n > 0; n--) {
                    x.feed(random.nextInt(), wildInt(), wildInt(), wildInt(), random.nextInt());
                }
            }
            int reading = upTo(40);
            if (reading < 3) {
                int told = reading == 0 ? x.score() : reading == 1 ? x.heard() : x.manners();
                due(run, "tells of a fault", told == -1 ? 1 : 0, x.fault(0) == 0 ? 0 : 1);
                due(run, "empties the tape", x.count(8), 0);
            }
            wildCall(x);
        }
    }

    public static void main(String[] args) {
        int runs = args.length > 0 ? Integer.parseInt(args[0]) : 120;
        for (int i = 0; i < runs; i++) {
            large(i);
        }
        for (int i = 0; i < runs * 10; i++) {
            wild(i);
        }
        System.out.println(wrong == 0 ? "all answers are as due" : wrong + " answers are not as due");
        if (wrong != 0) {
            System.exit(1);
        }
    }
}
