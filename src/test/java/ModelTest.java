import java.math.BigInteger;
import java.util.ArrayList;
import java.util.HashMap;
import java.util.List;
import java.util.Map;
import java.util.Random;

/**
 * Long runs of calls with all sorts of arguments, held against a second, plainer reading of the
 * document (lists, copies of whole states, MAPS by trying everything).
 */
public final class ModelTest {
    private static final int BAD = -1, FULL = -2, FINDING = -3, STATE = -4, NONE = -9;

    /** A state of the town: per PERSON VICTIM, DEEDS, FINES, REACHED. */
    private static final class State {
        int[][] of;

        State(int n) {
            of = new int[n][4];
        }

        State copy() {
            State s = new State(of.length);
            for (int p = 0; p < of.length; p++) {
                s.of[p] = of[p].clone();
            }
            return s;
        }
    }

    private static final class Model {
        int[][] rows = new int[6][];
        byte[][] texts = new byte[4][];
        String kinds = "";
        int[] aim = {}, zeal = {};
        List<String> loves = new ArrayList<>();
        /** The last is now. */
        List<State> history = new ArrayList<>(List.of(new State(0)));
        List<List<State>> kept = new ArrayList<>();
        int asked, finding;
        long upper, lower = 1;
        int[] findings = new int[6];

        Model() {
            for (int k = 0; k < 3; k++) {
                kept.add(null);
            }
        }

        int n() {
            return kinds.length();
        }

        State now() {
            return history.get(history.size() - 1);
        }

        int found(int f) {
            finding = f;
            findings[f]++;
            return FINDING;
        }

        int tell(int value) {
            asked = value;
            return 1;
        }

        int tellChance(long up, long low) {
            BigInteger g = BigInteger.valueOf(up).gcd(BigInteger.valueOf(low));
            upper = up / g.longValue();
            lower = low / g.longValue();
            return 1;
        }

        boolean person(int p) {
            return 0 <= p && p < n();
        }

        int row(int r, int n) {
            if (r < 0 || r > 5 || n > 40) return BAD;
            if (n < 0) return found(5);
            rows[r] = new int[n];
            return n;
        }

        int lay(int r, int i, int v) {
            if (r < 0 || r > 5) return BAD;
            if (rows[r] == null) return found(1);
            if (i < 0 || i >= rows[r].length) return found(2);
            tell(rows[r][i]);
            rows[r][i] = v;
            return 1;
        }

        int at(int r, int i) {
            if (r < 0 || r > 5) return BAD;
            if (rows[r] == null) return found(1);
            if (i < 0 || i >= rows[r].length) return found(2);
            return tell(rows[r][i]);
        }

        int tear(int r) {
            if (r < 0 || r > 5) return BAD;
            if (rows[r] == null) return found(1);
            rows[r] = null;
            return 1;
        }

        int copy(int r, int i, int to, int j, int n) {
            if (r < 0 || r > 5 || to < 0 || to > 5) return BAD;
            if (n < 0) return found(5);
            if (rows[r] == null || rows[to] == null) return found(1);
            if (i < 0 || j < 0 || i > rows[r].length || j > rows[to].length) return found(2);
            if (n > rows[r].length - i || n > rows[to].length - j) return found(2);
            int[] taken = rows[r].clone();
            for (int k = 0; k < n; k++) {
                rows[to][j + k] = taken[i + k];
            }
            return 1;
        }

        int mean(int r) {
            if (r < 0 || r > 5) return BAD;
            if (rows[r] == null) return found(1);
            if (rows[r].length == 0) return found(4);
            BigInteger sum = BigInteger.ZERO;
            for (int v : rows[r]) sum = sum.add(BigInteger.valueOf(v));
            return tell(sum.divide(BigInteger.valueOf(rows[r].length)).intValueExact());
        }

        int text(int t, int n) {
            if (t < 0 || t > 3 || n > 60) return BAD;
            if (n < 0) return found(5);
            texts[t] = " ".repeat(n).getBytes();
            return n;
        }

        int put(int t, int i, int v) {
            if (t < 0 || t > 3) return BAD;
            if (texts[t] == null) return found(1);
            if (i < 0 || i >= texts[t].length) return found(2);
            int was = texts[t][i];
            texts[t][i] = (byte) v;
            return 1000 + was;
        }

        /** Sign by sign; what of a town was told so far is kept in lists. */
        int parse(byte[] text, StringBuilder kindsRead, List<int[]> persons, List<String> lovesRead) {
            String within = "";
            int first = -1;
            List<Integer> figures = new ArrayList<>();
            for (int i = 0; i < text.length; i++) {
                char c = (char) (text[i] & 255);
                int figure = c >= '0' && c <= '9' ? c - '0' : -1;
                if (within.isEmpty()) {
                    if (c == ' ') continue;
                    if (c == 'o') {
                        if (persons.size() < 2 || lovesRead.size() == 16) return i;
                        within = "o";
                        continue;
                    }
                    if ("pzshwl".indexOf(c) < 0 || persons.size() == 6 || !lovesRead.isEmpty()) return i;
                    kindsRead.append(c);
                    persons.add(new int[4]);
                    within = "k";
                    continue;
                }
                int[] last = persons.get(persons.size() - 1);
                switch (within) {
                    case "k":
                        if (figure < 1) return i;
                        last[0] = figure;
                        within = "a";
                        break;
                    case "a":
                        if (figure < 0 || figure > 5) return i;
                        last[1] = figure;
                        within = "f";
                        break;
                    case "f":
                        if (figure < 0 && c != '-') return i;
                        last[2] = c == '-' ? NONE : figure;
                        last[3] = i;
                        within = "";
                        break;
                    case "o":
                        if (figure < 0 || figure >= persons.size()) return i;
                        first = figure;
                        within = "q";
                        break;
                    default:
                        if (figure < 0 || figure >= persons.size() || figure == first) return i;
                        if (lovesRead.contains(first + " " + figure)) return i;
                        lovesRead.add(first + " " + figure);
                        lovesRead.add(figure + " " + first);
                        within = "";
                        break;
                }
            }
            if (!within.isEmpty() || persons.size() < 2) return text.length;
            for (int p = 0; p < persons.size(); p++) {
                int victim = persons.get(p)[2];
                if (victim == NONE) continue;
                if (victim == p || victim >= persons.size() || figures.contains(victim)) return persons.get(p)[3];
                figures.add(victim);
            }
            return NONE;
        }

        int fault(int t) {
            if (t < 0 || t > 3) return BAD;
            if (texts[t] == null) return found(1);
            return parse(texts[t], new StringBuilder(), new ArrayList<>(), new ArrayList<>());
        }

        int town(int t) {
            if (t < 0 || t > 3) return BAD;
            if (texts[t] == null) return found(1);
            StringBuilder letters = new StringBuilder();
            List<int[]> persons = new ArrayList<>();
            List<String> lovesRead = new ArrayList<>();
            if (parse(texts[t], letters, persons, lovesRead) != NONE) return STATE;
            kinds = letters.toString();
            aim = new int[n()];
            zeal = new int[n()];
            loves = lovesRead;
            State start = new State(n());
            for (int p = 0; p < n(); p++) {
                aim[p] = persons.get(p)[0];
                zeal[p] = persons.get(p)[1];
                start.of[p][0] = persons.get(p)[2];
            }
            history = new ArrayList<>(List.of(start));
            for (int k = 0; k < 3; k++) kept.set(k, null);
            return n();
        }

        boolean isKind(int p, int kind) {
            char c = kinds.charAt(p);
            switch (kind) {
                case 1: return c == 'z' || c == 'w';
                case 2: return c == 's';
                case 3: return c == 'h' || c == 'l';
                case 4: return c == 'w';
                case 5: return c == 'l';
                default: return true;
            }
        }

        boolean love(int p, int q) {
            return loves.contains(p + " " + q);
        }

        int power(int p) {
            switch (kinds.charAt(p)) {
                case 'z': return zeal[p] + 1;
                case 'w': return zeal[p] + 3;
                case 'h': return zeal[p] / 2;
                case 'l': return Math.max(0, zeal[p] / 2 - 1);
                default: return zeal[p];
            }
        }

        int against(int p, int q, boolean saint) {
            return love(p, q) ? 0 : saint ? Math.max(0, power(p) - 1) : power(p);
        }

        int against(int p, int q) {
            return against(p, q, isKind(q, 2));
        }

        int victim(int p) {
            return now().of[p][0];
        }

        int foe(int q) {
            for (int p = 0; p < n(); p++) {
                if (victim(p) == q) return p;
            }
            return NONE;
        }

        int trait(int p, int what) {
            switch (what) {
                case 0: return "pzshwl".indexOf(kinds.charAt(p));
                case 1: return aim[p];
                case 2: return zeal[p];
                case 3: return victim(p);
                case 4: return foe(p);
                case 5: return now().of[p][1];
                case 6: return now().of[p][2];
                case 7: return now().of[p][3];
                default:
                    int set = 0;
                    for (int q = 0; q < n(); q++) set += love(p, q) ? 1 << q : 0;
                    return set;
            }
        }

        int person(int p, int what) {
            if (!person(p) || what < 0 || what > 8) return BAD;
            return tell(trait(p, what));
        }

        int mark(int p, int kind) {
            if (!person(p) || kind < 1 || kind > 5) return BAD;
            if (!isKind(p, kind)) return found(3);
            int v = victim(p);
            int many = 0;
            switch (kind) {
                case 1: return power(p);
                case 2:
                    for (int q = 0; q < n(); q++) {
                        if (q != p && against(q, p, false) > against(q, p, true)) many++;
                    }
                    return many;
                case 3: return Integer.bitCount(trait(p, 8));
                case 4:
                    if (v == NONE || against(p, v) == 0) return NONE;
                    for (int lost = 0; lost < 9; lost += against(p, v)) many++;
                    return many;
                default: return due(p) ? 1 : 0;
            }
        }

        boolean due(int p) {
            int v = victim(p);
            return v != NONE && !isKind(p, 2) && !love(p, v) && now().of[v][3] == 0;
        }

        int strength(int p, int q) {
            return !person(p) || !person(q) || p == q ? BAD : against(p, q);
        }

        int doWeek(int[] acts) {
            State next = now().copy();
            int reached = 0;
            for (int p = 0; p < n(); p++) {
                if (acts[p] != 2 && due(p)) next.of[p][2]++;
                if (acts[p] == 1 && now().of[p][3] == 0) next.of[p][1]++;
            }
            for (int q = 0; q < n(); q++) {
                int f = foe(q);
                if (f != NONE && acts[f] == 2 && now().of[q][3] == 0) {
                    next.of[q][1] = Math.max(0, next.of[q][1] - against(f, q));
                }
                if (now().of[q][3] == 0 && next.of[q][1] == aim[q]) {
                    next.of[q][3] = 1;
                    reached++;
                }
            }
            history.add(next);
            return reached;
        }

        int week(int r) {
            if (r < 0 || r > 5) return BAD;
            if (n() == 0) return STATE;
            if (rows[r] == null) return found(1);
            if (rows[r].length != n()) return found(5);
            for (int p = 0; p < n(); p++) {
                int act = rows[r][p];
                if (act < 0 || act > 2 || act == 2 && victim(p) == NONE) return found(3);
            }
            if (history.size() > 40) return FULL;
            return doWeek(rows[r]);
        }

        int exchange(int p, int q) {
            if (!person(p) || !person(q) || p == q) return BAD;
            if (victim(p) == q || victim(q) == p) return STATE;
            if (history.size() > 40) return FULL;
            State next = now().copy();
            next.of[p][0] = victim(q);
            next.of[q][0] = victim(p);
            history.add(next);
            return 1;
        }

        int undo(int n) {
            int turns = history.size() - 1;
            if (n < 0 || n > turns) return BAD;
            history = new ArrayList<>(history.subList(0, n + 1));
            return turns - n;
        }

        int keep(int k) {
            if (k < 0 || k > 2) return BAD;
            if (n() == 0) return STATE;
            kept.set(k, new ArrayList<>(history));
            return history.size() - 1;
        }

        int on(int k) {
            if (k < 0 || k > 2) return BAD;
            if (kept.get(k) == null) return found(1);
            history = new ArrayList<>(kept.get(k));
            return history.size() - 1;
        }

        int rings() {
            List<Integer> all = new ArrayList<>();
            for (int p = 0; p < n(); p++) {
                int set = 0;
                int q = p;
                while (q != NONE && (set >> q & 1) == 0) {
                    set |= 1 << q;
                    q = victim(q);
                }
                if (q == p && !all.contains(set)) all.add(set);
            }
            int best = 0;
            for (int set : all) {
                if (Integer.bitCount(set) > Integer.bitCount(best)) best = set;
            }
            tell(best);
            return all.size();
        }

        int allies(int p) {
            if (!person(p)) return BAD;
            int set = 0;
            int q = p;
            while (true) {
                q = foe(q);
                if (q == NONE) return set;
                q = foe(q);
                if (q == NONE || q == p || (set >> q & 1) == 1) return set;
                set |= 1 << q;
            }
        }

        int loss(int p) {
            return foe(p) == NONE ? 0 : against(foe(p), p);
        }

        int safe() {
            if (n() == 0) return STATE;
            int set = 0;
            for (int p = 0; p < n(); p++) {
                if (foe(p) == NONE || against(foe(p), p) == 0 || now().of[p][3] == 1) set |= 1 << p;
            }
            return set;
        }

        /** The week in which it is REACHED by these weeks; NONE: it is not. */
        int reachedIn(int p, boolean[] thwarted) {
            if (now().of[p][3] == 1) return 0;
            int done = now().of[p][1];
            for (int w = 0; w < thwarted.length; w++) {
                done++;
                if (thwarted[w]) done = Math.max(0, done - loss(p));
                if (done == aim[p]) return w + 1;
            }
            return NONE;
        }

        boolean[] every(int n, int weeks) {
            boolean[] thwarted = new boolean[weeks];
            for (int w = n; n > 0 && w <= weeks; w += n) thwarted[w - 1] = true;
            return thwarted;
        }

        int weeks(int p, int n) {
            if (!person(p) || n < 0 || n > 9) return BAD;
            return reachedIn(p, every(n, 30));
        }

        int thwart(int p, int weeks) {
            if (!person(p) || weeks < 1 || weeks > 30) return BAD;
            int best = NONE;
            for (int n = 1; n <= 9; n++) {
                if (reachedIn(p, every(n, weeks)) == NONE) best = n;
            }
            return best;
        }

        int ways(int p, int weeks) {
            if (!person(p) || weeks < 0 || weeks > 8) return BAD;
            int many = 0;
            int fewest = 99;
            for (int set = 0; set < 1 << weeks; set++) {
                boolean[] thwarted = new boolean[weeks];
                for (int w = 0; w < weeks; w++) thwarted[w] = (set >> w & 1) == 1;
                if (reachedIn(p, thwarted) == NONE) {
                    many++;
                    fewest = Math.min(fewest, Integer.bitCount(set));
                }
            }
            tell(many == 0 ? NONE : fewest);
            return many;
        }

        int wishes() {
            if (n() == 0) return STATE;
            int many = 0;
            int first = NONE;
            for (int p = n() - 1; p >= 0; p--) {
                for (int q = n() - 1; q > p; q--) {
                    int v = victim(p);
                    int w = victim(q);
                    if (v == q || w == p) continue;
                    int vWas = v == NONE ? 0 : against(p, v);
                    int vIs = v == NONE ? 0 : against(q, v);
                    int wWas = w == NONE ? 0 : against(q, w);
                    int wIs = w == NONE ? 0 : against(p, w);
                    if (vIs > vWas || wIs > wWas || vIs == vWas && wIs == wWas) continue;
                    many++;
                    first = 6 * p + q;
                }
            }
            tell(first);
            return many;
        }

        /** Each way to give each PERSON a VICTIM or NONE, in order, that is a MAP. */
        List<int[]> allMaps() {
            List<int[]> all = new ArrayList<>();
            int base = n() + 1;
            int number = 1;
            for (int p = 0; p < n(); p++) number *= base;
            for (int code = 0; code < number; code++) {
                int[] map = new int[n()];
                int rest = code;
                for (int p = n() - 1; p >= 0; p--) {
                    map[p] = rest % base == n() ? NONE : rest % base;
                    rest /= base;
                }
                if (isMap(map)) all.add(map);
            }
            return all;
        }

        boolean isMap(int[] map) {
            for (int p = 0; p < map.length; p++) {
                if (map[p] == NONE) continue;
                if (map[p] == p || map[p] < 0 || map[p] >= n()) return false;
                for (int q = 0; q < p; q++) {
                    if (map[q] == map[p]) return false;
                }
            }
            return true;
        }

        int victims(int[] map, int set) {
            int victims = 0;
            for (int p = 0; p < map.length; p++) {
                if ((set >> p & 1) == 1 && map[p] != NONE) victims |= 1 << map[p];
            }
            return victims;
        }

        int[] mapNow() {
            int[] map = new int[n()];
            for (int p = 0; p < n(); p++) map[p] = victim(p);
            return map;
        }

        int mildest(int r) {
            if (r < 0 || r > 5) return BAD;
            if (n() == 0) return STATE;
            int least = Integer.MAX_VALUE;
            for (int[] map : allMaps()) {
                if (victims(map, 63) != victims(mapNow(), 63)) continue;
                int all = 0;
                for (int p = 0; p < n(); p++) all += map[p] == NONE ? 0 : against(p, map[p]);
                if (all < least) {
                    least = all;
                    rows[r] = map;
                }
            }
            return least;
        }

        int none(int r) {
            if (r < 0 || r > 5) return BAD;
            if (n() == 0) return STATE;
            if (rows[r] == null) return found(1);
            if (rows[r].length != n()) return found(5);
            if (!isMap(rows[r]) || victims(rows[r], 63) != victims(mapNow(), 63)) return found(3);
            for (int p = 0; p < n(); p++) {
                int v = rows[r][p];
                if (v != NONE && against(p, v) > against(foe(v), v)) return 0;
            }
            return 1;
        }

        List<int[]> drawn(boolean loving) {
            List<int[]> all = new ArrayList<>();
            for (int[] map : fullMaps()) {
                boolean fine = true;
                for (int p = 0; p < n(); p++) fine &= loving || !love(p, map[p]);
                if (fine) all.add(map);
            }
            return all;
        }

        List<int[]> fullMaps() {
            if (!FULL_MAPS.containsKey(n())) {
                List<int[]> all = allMaps();
                all.removeIf(map -> victims(map, 63) != (1 << n()) - 1);
                FULL_MAPS.put(n(), all);
            }
            return FULL_MAPS.get(n());
        }

        int maps() {
            return n() == 0 ? STATE : tellChance(drawn(false).size(), 1);
        }

        int odds(int p, int q) {
            if (!person(p) || !person(q) || p == q) return BAD;
            List<int[]> all = drawn(false);
            if (all.isEmpty()) return found(4);
            return tellChance(all.stream().filter(map -> map[p] == q).count(), all.size());
        }

        int both(int p, int q) {
            if (!person(p) || !person(q) || p == q) return BAD;
            List<int[]> all = drawn(false);
            if (all.isEmpty()) return found(4);
            return tellChance(all.stream().filter(map -> map[p] == q && map[q] == p).count(), all.size());
        }

        int refuseWeeks(int r) {
            if (r < 0 || r > 5) return BAD;
            if (n() == 0) return STATE;
            if (rows[r] == null) return found(1);
            if (rows[r].length % 2 == 1) return found(5);
            for (int v : rows[r]) {
                if (v < 0 || v >= 1 << n()) return found(3);
            }
            return 0;
        }

        List<int[]> fitting(int r) {
            List<int[]> all = drawn(true);
            for (int i = 0; i < rows[r].length; i += 2) {
                int thwarted = rows[r][i];
                int lost = rows[r][i + 1];
                all.removeIf(map -> victims(map, thwarted) != lost);
            }
            return all;
        }

        int fits(int r) {
            int refusal = refuseWeeks(r);
            return refusal != 0 ? refusal : tellChance(fitting(r).size(), 1);
        }

        int sure(int p, int r) {
            if (!person(p)) return BAD;
            int refusal = refuseWeeks(r);
            if (refusal != 0) return refusal;
            List<int[]> all = fitting(r);
            if (all.isEmpty()) return found(4);
            int v = all.get(0)[p];
            return all.stream().allMatch(map -> map[p] == v) ? v : NONE;
        }

        int ask(int r) {
            int refusal = refuseWeeks(r);
            if (refusal != 0) return refusal;
            List<int[]> all = fitting(r);
            if (all.isEmpty()) return found(4);
            int best = -1;
            int fewest = Integer.MAX_VALUE;
            for (int set = 0; set < 1 << n(); set++) {
                Map<Integer, Integer> left = new HashMap<>();
                for (int[] map : all) left.merge(victims(map, set), 1, Integer::sum);
                int most = left.values().stream().max(Integer::compare).get();
                if (most < fewest) {
                    fewest = most;
                    best = set;
                }
            }
            tell(fewest);
            return best;
        }

        int lots(int n, int seed) {
            if (n < 1 || n > 20 || seed < 1 || seed > 2147483646) return BAD;
            if (n() == 0) return STATE;
            if (history.size() - 1 + n > 40) return FULL;
            BigInteger number = BigInteger.valueOf(seed);
            int reached = 0;
            for (int w = 0; w < n; w++) {
                int[] acts = new int[n()];
                for (int p = 0; p < n(); p++) {
                    number = number.multiply(BigInteger.valueOf(48271)).mod(BigInteger.valueOf(2147483647));
                    acts[p] = number.intValueExact() / 4 % 3;
                    if (acts[p] == 2 && victim(p) == NONE) acts[p] = 1;
                }
                reached += doWeek(acts);
            }
            return reached;
        }

        int count(int what) {
            int many = 0;
            switch (what) {
                case 0: return n();
                case 1:
                    for (int p = 0; p < n(); p++) many += foe(p) == NONE ? 0 : 1;
                    return many;
                case 2: return loves.size() / 2;
                case 3: return history.size() - 1;
                case 4:
                    for (int p = 0; p < n(); p++) many += trait(p, 7);
                    return many;
                case 5:
                    for (int p = 0; p < n(); p++) many += trait(p, 6);
                    return many;
                case 6:
                    for (int p = 0; p < n(); p++) many += isKind(p, 1) ? 1 : 0;
                    return many;
                case 7:
                    for (int[] row : rows) many += row == null ? 0 : 1;
                    return many;
                case 8:
                    for (byte[] text : texts) many += text == null ? 0 : 1;
                    return many;
                case 9:
                    for (List<State> town : kept) many += town == null ? 0 : 1;
                    return many;
                default: return BAD;
            }
        }

        long digest() {
            List<Integer> all = new ArrayList<>();
            for (int what = 0; what < 10; what++) all.add(count(what));
            for (int p = 0; p < n(); p++) {
                for (int what = 0; what < 9; what++) all.add(trait(p, what));
            }
            for (List<State> town : kept) all.add(town == null ? -1 : town.size() - 1);
            for (int[] row : rows) {
                all.add(row == null ? -1 : row.length);
                for (int i = 0; row != null && i < row.length; i++) all.add(row[i]);
            }
            for (byte[] text : texts) {
                all.add(text == null ? -1 : text.length);
                for (int i = 0; text != null && i < text.length; i++) all.add((int) text[i]);
            }
            long h = 17;
            for (int v : all) h = 31 * h + v;
            return h;
        }
    }

    /** By how many PERSONS there are: all MAPS in which each has a VICTIM. */
    private static final Map<Integer, List<int[]>> FULL_MAPS = new HashMap<>();

    private static final int[] WILD = {Integer.MIN_VALUE, -10, -9, -2, -1, 41, 61, 64, 1000, Integer.MAX_VALUE - 1, Integer.MAX_VALUE};

    private static final int RUNS = 1500, STEPS = 150;

    private final Random random;
    private EnemyByLot x = new EnemyByLot();
    private Model m = new Model();
    private final List<String> told = new ArrayList<>();
    private int calls;

    private ModelTest(long seed) {
        random = new Random(seed);
    }

    /** A number from 0 to n - 1, now and then a wrong one. */
    private int some(int n) {
        int chance = random.nextInt(40);
        if (chance == 0) return WILD[random.nextInt(WILD.length)];
        if (chance == 1) return n;
        return random.nextInt(Math.max(1, n));
    }

    private boolean same(String call, long got, long want) {
        calls++;
        told.add(call + " -> " + got);
        if (got == want && calls % 7 == 0 && x.digest() != m.digest()) {
            System.out.println("digest() differs behind " + call);
            return false;
        }
        if (got == want && x.asked() == m.asked && x.upper() == m.upper && x.lower() == m.lower && x.finding() == m.finding) {
            return true;
        }
        System.out.println(call + " answered " + got + ", the model " + want + "; asked " + x.asked() + ", " + m.asked
            + "; chance " + x.upper() + " by " + x.lower() + ", " + m.upper + " by " + m.lower
            + "; finding " + x.finding() + ", " + m.finding);
        return false;
    }

    private String someTown() {
        StringBuilder town = new StringBuilder();
        int n = 2 + random.nextInt(5);
        List<Integer> victims = new ArrayList<>();
        for (int p = 0; p < n; p++) victims.add(p);
        java.util.Collections.shuffle(victims, random);
        int wrongOnes = random.nextInt(5);
        for (int p = 0; p < n; p++) {
            if (random.nextInt(3) == 0) town.append(' ');
            town.append("pzshwl".charAt(random.nextInt(6)));
            town.append(1 + random.nextInt(random.nextInt(2) == 0 ? 3 : 9)).append(random.nextInt(6));
            boolean free = victims.get(p) == p && wrongOnes != 0 || random.nextInt(5) == 0;
            town.append(free ? "-" : "" + victims.get(p));
        }
        int loveNumber = random.nextInt(5);
        for (int i = 0; i < loveNumber; i++) {
            int p = random.nextInt(n);
            int q = random.nextInt(n);
            if (p == q && wrongOnes != 0) continue;
            town.append(random.nextBoolean() ? " o" : "o").append(p).append(q);
        }
        if (random.nextInt(5) == 0 && town.length() > 0) {
            String signs = "pzshwlo-0123456789  x";
            town.setCharAt(random.nextInt(town.length()), signs.charAt(random.nextInt(signs.length())));
        }
        if (random.nextInt(12) == 0) town.setLength(random.nextInt(town.length()));
        return town.length() > 60 ? town.substring(0, 60) : town.toString();
    }

    private boolean writeTown() {
        String town = someTown();
        int t = random.nextInt(4);
        if (!same("text(" + t + ", " + town.length() + ")", x.text(t, town.length()), m.text(t, town.length()))) return false;
        for (int i = 0; i < town.length(); i++) {
            char c = town.charAt(i);
            if (c != ' ' && !same("put(" + t + ", " + i + ", " + (int) c + ")", x.put(t, i, c), m.put(t, i, c))) return false;
        }
        return same("fault(" + t + ") of '" + town + "'", x.fault(t), m.fault(t))
            && same("town(" + t + ") of '" + town + "'", x.town(t), m.town(t));
    }

    private boolean fillRow(int r, int n, int from, int to) {
        if (!same("row(" + r + ", " + n + ")", x.row(r, n), m.row(r, n))) return false;
        for (int i = 0; i < n; i++) {
            int v = random.nextInt(60) == 0 ? some(7) : from + random.nextInt(to - from);
            if (!same("lay(" + r + ", " + i + ", " + v + ")", x.lay(r, i, v), m.lay(r, i, v))) return false;
        }
        return true;
    }

    private boolean weekOnce() {
        if (!fillRow(0, m.n(), 0, 3)) return false;
        for (int p = 0; p < m.n(); p++) {
            if (m.victim(p) == NONE && random.nextInt(20) != 0) {
                int act = random.nextInt(2);
                x.lay(0, p, act);
                m.lay(0, p, act);
            }
        }
        return same("week(0)", x.week(0), m.week(0));
    }

    /** Pairs that some MAP fits, for the most part. */
    private boolean weeksRow() {
        int pairs = random.nextInt(4);
        if (!fillRow(1, 2 * pairs, 0, 1)) return false;
        if (m.n() == 0) return true;
        List<int[]> full = m.fullMaps();
        int[] map = full.get(random.nextInt(full.size()));
        for (int i = 0; i < pairs; i++) {
            int set = random.nextInt(1 << m.n());
            int lost = random.nextInt(15) == 0 ? random.nextInt(1 << m.n()) : m.victims(map, set);
            x.lay(1, 2 * i, set);
            m.lay(1, 2 * i, set);
            x.lay(1, 2 * i + 1, lost);
            m.lay(1, 2 * i + 1, lost);
        }
        int p = some(6);
        return same("fits(1)", x.fits(1), m.fits(1))
            && same("sure(" + p + ", 1)", x.sure(p, 1), m.sure(p, 1))
            && (random.nextInt(4) != 0 || same("ask(1)", x.ask(1), m.ask(1)));
    }

    private boolean mapRow() {
        if (m.n() > 4 && random.nextInt(30) != 0) return true;
        if (random.nextBoolean() && !same("mildest(2)", x.mildest(2), m.mildest(2))) return false;
        if (random.nextBoolean() && m.n() > 0) {
            int[] map = m.mapNow();
            int p = random.nextInt(m.n());
            int q = random.nextInt(m.n());
            int kept = map[p];
            map[p] = map[q];
            map[q] = kept;
            x.row(2, m.n());
            m.row(2, m.n());
            for (int i = 0; i < m.n(); i++) {
                x.lay(2, i, map[i]);
                m.lay(2, i, map[i]);
            }
        }
        return same("none(2)", x.none(2), m.none(2));
    }

    private boolean step() {
        int a = some(6), b = some(6), c = some(9);
        switch (random.nextInt(44)) {
            case 0: return same("row(" + a + ", " + c + ")", x.row(a, c), m.row(a, c));
            case 1: return same("lay(" + a + ", " + b + ", " + c + ")", x.lay(a, b, c), m.lay(a, b, c));
            case 2: return same("at(" + a + ", " + b + ")", x.at(a, b), m.at(a, b));
            case 3: return random.nextInt(3) != 0 || same("tear(" + a + ")", x.tear(a), m.tear(a));
            case 4: {
                int i = some(4), j = some(4);
                return same("copy(" + a + ", " + i + ", " + b + ", " + j + ", " + c + ")", x.copy(a, i, b, j, c), m.copy(a, i, b, j, c));
            }
            case 5: return same("mean(" + a + ")", x.mean(a), m.mean(a));
            case 6: return random.nextInt(4) != 0 || same("text(" + a + ", " + c + ")", x.text(a, c), m.text(a, c));
            case 7: {
                int v = random.nextInt(600) - 300;
                return same("put(" + a + ", " + c + ", " + v + ")", x.put(a, c, v), m.put(a, c, v));
            }
            case 8: return same("fault(" + a + ")", x.fault(a), m.fault(a));
            case 9: return random.nextInt(6) != 0 || same("town(" + a + ")", x.town(a), m.town(a));
            case 10: return random.nextInt(6) != 0 || writeTown();
            case 11: case 12: return same("person(" + a + ", " + c + ")", x.person(a, c), m.person(a, c));
            case 13: case 14: return same("mark(" + a + ", " + b + ")", x.mark(a, b), m.mark(a, b));
            case 15: case 16: return same("strength(" + a + ", " + b + ")", x.strength(a, b), m.strength(a, b));
            case 17: case 18: case 19: return weekOnce();
            case 20: return same("week(" + a + ")", x.week(a), m.week(a));
            case 21: case 22: return same("exchange(" + a + ", " + b + ")", x.exchange(a, b), m.exchange(a, b));
            case 23: {
                int n = random.nextInt(3) == 0 ? some(m.history.size()) : m.history.size() - 1 - random.nextInt(2);
                return same("undo(" + n + ")", x.undo(n), m.undo(n));
            }
            case 24: return same("keep(" + b % 4 + ")", x.keep(b % 4), m.keep(b % 4));
            case 25: return same("on(" + b % 4 + ")", x.on(b % 4), m.on(b % 4));
            case 26: return same("rings()", x.rings(), m.rings());
            case 27: return same("allies(" + a + ")", x.allies(a), m.allies(a));
            case 28: return same("safe()", x.safe(), m.safe());
            case 29: {
                int n = some(10);
                return same("weeks(" + a + ", " + n + ")", x.weeks(a, n), m.weeks(a, n));
            }
            case 30: {
                int n = some(31);
                return same("thwart(" + a + ", " + n + ")", x.thwart(a, n), m.thwart(a, n));
            }
            case 31: return same("ways(" + a + ", " + c + ")", x.ways(a, c), m.ways(a, c));
            case 32: return same("wishes()", x.wishes(), m.wishes());
            case 33: return mapRow();
            case 34: return same("none(" + a + ")", x.none(a), m.none(a));
            case 35: return same("maps()", x.maps(), m.maps());
            case 36: return same("odds(" + a + ", " + b + ")", x.odds(a, b), m.odds(a, b));
            case 37: return same("both(" + a + ", " + b + ")", x.both(a, b), m.both(a, b));
            case 38: return weeksRow();
            case 39: return same("fits(" + a + ")", x.fits(a), m.fits(a)) && same("sure(" + b + ", " + a + ")", x.sure(b, a), m.sure(b, a));
            case 40: {
                int n = random.nextInt(3) == 0 ? some(21) : 1 + random.nextInt(3);
                int seed = random.nextInt(9) == 0 ? some(4) : 1 + random.nextInt(2147483646);
                return same("lots(" + n + ", " + seed + ")", x.lots(n, seed), m.lots(n, seed));
            }
            case 41: {
                int what = some(10);
                return same("count(" + what + ")", x.count(what), m.count(what));
            }
            case 42: {
                int want = b < 1 || b > 5 ? BAD : m.findings[b];
                return same("findings(" + b + ")", x.findings(b), want);
            }
            default: return same("digest()", x.digest(), m.digest());
        }
    }

    private boolean begin() {
        return random.nextInt(8) == 0 || writeTown();
    }

    private void report(long seed) {
        System.out.println("run " + seed + ":");
        told.forEach(call -> System.out.println("  " + call));
        System.exit(1);
    }

    /** Two objects, call by call in turn: what is told to one says nothing to the other. */
    private static void runTwo(long seed) {
        ModelTest first = new ModelTest(seed);
        ModelTest second = new ModelTest(seed + 1);
        if (!first.begin()) first.report(seed);
        if (!second.begin()) second.report(seed + 1);
        for (int i = 0; i < STEPS; i++) {
            if (!first.step()) first.report(seed);
            if (!second.step()) second.report(seed + 1);
        }
    }

    public static void main(String[] args) {
        for (int seed = 1; seed < RUNS; seed += 2) {
            runTwo(seed);
        }
        System.out.println(RUNS + " runs, two at a time, are as the model's");
    }
}
