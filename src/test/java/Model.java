import java.util.ArrayList;
import java.util.Arrays;
import java.util.HashMap;
import java.util.List;
import java.util.Map;
import java.util.TreeMap;

/**
 * The document once more, slow and plain and in another shape (trees for texts, every row tried for
 * beds, whole copies for undo), to put beside VaultLeases in random runs.
 */
final class Model {
    private static final int OUT = -1;

    private static final class Broken extends RuntimeException {
        private static final long serialVersionUID = 1;
    }

    private static final class Refusal extends RuntimeException {
        private static final long serialVersionUID = 1;
        final int by;

        Refusal(int by) {
            this.by = by;
        }
    }

    interface Sum {
        long of(Map<String, Integer> words);
    }

    interface Test {
        boolean of(Map<String, Integer> words);
    }

    record Clause(String head, Sum first, Sum second, int times, Test test) {
    }

    private static final class Dead {
        int family;
        int vault;
        int term;
        boolean knocked;
        int[] wishes = new int[5];

        Dead copy() {
            Dead d = new Dead();
            d.family = family;
            d.vault = vault;
            d.term = term;
            d.knocked = knocked;
            d.wishes = wishes.clone();
            return d;
        }

        boolean in() {
            return vault != OUT;
        }
    }

    private static final class State {
        List<Integer> beds = new ArrayList<>();
        List<Integer> means = new ArrayList<>();
        List<Dead> dead = new ArrayList<>();
        List<int[]> seen = new ArrayList<>();
        List<List<Clause>> laws = new ArrayList<>();
        int force = -1;
        int[] terms = {0, 2, 0};

        State copy() {
            State s = new State();
            s.beds.addAll(beds);
            s.means.addAll(means);
            dead.forEach(d -> s.dead.add(d.copy()));
            s.seen.addAll(seen);
            s.laws.addAll(laws);
            s.force = force;
            s.terms = terms.clone();
            return s;
        }
    }

    private record Past(int kind, State was) {
    }

    private State s = new State();
    private List<Past> past = new ArrayList<>();
    private State century = null;
    private final State[] images = new State[2];
    private final List<Byte> tape = new ArrayList<>();
    private final Map<Integer, Integer> refusals = new TreeMap<>();
    private int status = 0;
    private int fault = -1;
    private int stopped = -1;
    private int draughts = 0;

    /** A call by its name, as in the document's face. */
    long call(String name, int... a) {
        switch (name) {
            case "at": return at(a[0], a[1]);
            case "has": return has(a[0], a[1]);
            case "of": return of(a[0], a[1]);
            case "asks": return asks(a[0], a[1], a[2]);
            case "feed": return feed(a);
            case "end": return end(a[0]);
            case "draughts": return draughts;
            case "fault": return fault;
            case "stopped": return stopped;
            case "inside": return a[0] < 0 || a[0] > 99 ? -1 : bits(i -> s.dead.get(i).term > a[0]);
            case "empty": return s.dead.stream().mapToInt(d -> d.term).max().orElse(0);
            case "keep": return keep(a[0], a[1], a[2]);
            case "when": return when(a[0], a[1]);
            case "forget": {
                int was = s.seen.size();
                s.seen.clear();
                return was;
            }
            case "stranger": return stranger();
            case "look": return look(a[0]);
            case "rooms": return rooms(a[0]);
            case "packed": return packed(a[0]);
            case "changes": return changes(a[0]);
            case "few": return few(a[0], a[1]);
            case "compare": return compare(a[0]);
            case "drawn": return drawn(a[0], a[1]);
            case "count": return count(a[0]);
            case "status": return status;
            default: break;
        }
        try {
            long told = change(name, a);
            status = 0;
            return told;
        } catch (Refusal no) {
            status = no.by;
            refusals.merge(no.by, 1, Integer::sum);
            return no.by;
        }
    }

    private long change(String name, int[] a) {
        switch (name) {
            case "vault":
                need(a[0] >= 1 && a[0] <= 3, -1);
                need(s.beds.size() < 5, -5);
                s.beds.add(a[0]);
                past.clear();
                return s.beds.size() - 1;
            case "family":
                need(a[0] >= 0 && a[0] <= 999, -1);
                need(s.means.size() < 4, -5);
                s.means.add(a[0]);
                past.clear();
                return s.means.size() - 1;
            case "dead":
                bury(a[0], a[1], a[2]);
                past.clear();
                return s.dead.size() - 1;
            case "wish": {
                need(a[2] >= 0 && a[2] <= 9, -1);
                need(isDead(a[0]) && isVault(a[1]), -2);
                int was = s.dead.get(a[0]).wishes[a[1]];
                s.dead.get(a[0]).wishes[a[1]] = a[2];
                return was;
            }
            case "terms": {
                int[] most = {999, 10, 9};
                need(a[0] >= 0 && a[0] <= 2 && a[1] >= 0 && a[1] <= most[a[0]], -1);
                int was = s.terms[a[0]];
                s.terms[a[0]] = a[1];
                past.clear();
                return was;
            }
            case "row": return row();
            case "law": return law();
            case "orders": return orders();
            case "force": {
                need(a[0] == -1 || isLaw(a[0]), -2);
                int was = s.force;
                s.force = a[0];
                return was;
            }
            case "renew": return done(0, a[0], 0);
            case "lodge": return done(1, a[0], a[1]);
            case "knock": return done(2, a[0], 0);
            case "pass": return done(3, 0, 0);
            case "undo": return undo();
            case "seen":
                need(a[0] >= 0 && a[0] <= 99 && (a[1] == 0 || a[1] == 1), -1);
                need(s.seen.size() < 8, -5);
                s.seen.add(new int[] {a[0], a[1]});
                return s.seen.size();
            case "centuries": return centuries(a[0], a[1]);
            case "image":
                need(a[0] == 0 || a[0] == 1, -1);
                images[a[0]] = s.copy();
                return 0;
            case "back":
                need(a[0] == 0 || a[0] == 1, -1);
                need(images[a[0]] != null, -2);
                s = images[a[0]].copy();
                past.clear();
                return 0;
            default:
                throw new IllegalArgumentException(name);
        }
    }

    private static void need(boolean so, int by) {
        if (!so) {
            throw new Refusal(by);
        }
    }

    private boolean isVault(int v) {
        return v >= 0 && v < s.beds.size();
    }

    private boolean isFamily(int f) {
        return f >= 0 && f < s.means.size();
    }

    private boolean isDead(int d) {
        return d >= 0 && d < s.dead.size();
    }

    private boolean isLaw(int l) {
        return l >= 0 && l < s.laws.size();
    }

    private int bits(java.util.function.IntPredicate which) {
        int all = 0;
        for (int i = 0; i < s.dead.size(); i++) {
            all += which.test(i) ? 1 << i : 0;
        }
        return all;
    }

    private int free(int v) {
        return s.beds.get(v) - (int) s.dead.stream().filter(d -> d.vault == v).count();
    }

    private void bury(int family, int vault, int term) {
        need(term >= 1 && term <= 99, -1);
        need(isFamily(family) && isVault(vault), -2);
        need(free(vault) > 0, -3);
        need(s.dead.size() < 8, -5);
        Dead d = new Dead();
        d.family = family;
        d.vault = vault;
        d.term = term;
        s.dead.add(d);
    }

    private int at(int v, int what) {
        if (!isVault(v) || what < 0 || what > 2) {
            return -1;
        }
        return what == 0 ? s.beds.get(v) : what == 1 ? free(v) : bits(i -> s.dead.get(i).vault == v);
    }

    private int has(int f, int what) {
        if (!isFamily(f) || what < 0 || what > 3) {
            return -1;
        }
        if (what == 3) {
            int all = 0;
            for (int i = 0; i < s.dead.size(); i++) {
                all += s.dead.get(i).family == f && s.dead.get(i).in() ? priced(i) : 0;
            }
            return all;
        }
        return what == 0 ? s.means.get(f) : what == 1 ? earns(f) : bits(i -> s.dead.get(i).family == f);
    }

    private int of(int k, int what) {
        if (!isDead(k) || what < 0 || what > 5) {
            return -100;
        }
        Dead d = s.dead.get(k);
        int[] all = {d.family, d.vault, d.term, d.knocked ? 1 : 0, priced(k), lasts(k)};
        return all[what];
    }

    private int asks(int d, int v, int what) {
        if (!isDead(d) || !isVault(v) || what < 0 || what > 1) {
            return -1;
        }
        return what == 0 ? s.dead.get(d).wishes[v] : barred(d, v) ? 1 : 0;
    }

    private Map<String, Integer> words(int d, int f, int v) {
        Map<String, Integer> w = new HashMap<>();
        w.put("dead", d);
        w.put("family", f);
        w.put("vault", v);
        w.put("term", d == -1 ? -1 : s.dead.get(d).term);
        w.put("means", s.means.get(f));
        w.put("beds", v == -1 ? -1 : s.beds.get(v));
        w.put("free", v == -1 ? -1 : free(v));
        w.put("year", s.terms[0]);
        w.put("mood", s.terms[2]);
        return w;
    }

    private int told(int law, String head, int least, int most, int without, Map<String, Integer> words) {
        long told = Long.MIN_VALUE;
        for (Clause c : law == -1 ? List.<Clause>of() : s.laws.get(law)) {
            try {
                if (c.head.equals(head) && c.test.of(words)) {
                    told = c.first.of(words);
                }
            } catch (Broken b) {
                continue;
            }
        }
        return told == Long.MIN_VALUE ? without : (int) Math.max(least, Math.min(most, told));
    }

    private int priced(int d, int law) {
        Dead one = s.dead.get(d);
        return told(law, "prices", 1, 99, 5, words(d, one.family, one.vault));
    }

    private int priced(int d) {
        return priced(d, s.force);
    }

    private int lasts(int d) {
        Dead one = s.dead.get(d);
        return told(s.force, "lasts", 1, 20, 10, words(d, one.family, one.vault));
    }

    private int earns(int f) {
        return told(s.force, "earns", 0, 99, 10, words(-1, f, -1));
    }

    private boolean barred(int d, int v) {
        Map<String, Integer> words = words(d, s.dead.get(d).family, v);
        boolean any = false;
        for (Clause c : s.force == -1 ? List.<Clause>of() : s.laws.get(s.force)) {
            try {
                any |= c.head.equals("bars") && c.test.of(words);
            } catch (Broken b) {
                continue;
            }
        }
        return any;
    }

    private int act(int kind, int d, int v) {
        if (kind == 3) {
            need(s.terms[0] < 999, -3);
            List<Integer> richer = new ArrayList<>();
            for (int f = 0; f < s.means.size(); f++) {
                richer.add(Math.min(999, s.means.get(f) + earns(f)));
            }
            s.means = richer;
            for (Dead one : s.dead) {
                one.term -= one.in() ? 1 : 0;
                one.vault = one.term == 0 ? OUT : one.vault;
            }
            return ++s.terms[0];
        }
        need(isDead(d) && (kind != 1 || isVault(v)), -2);
        Dead one = s.dead.get(d);
        if (kind == 0) {
            need(one.in() && priced(d) <= s.means.get(one.family), -3);
            int pays = priced(d);
            int years = lasts(d);
            s.means.set(one.family, s.means.get(one.family) - pays);
            one.term = Math.min(99, one.term + years);
            return pays;
        }
        if (kind == 1) {
            need(one.vault != v && free(v) > 0 && !barred(d, v), -3);
            one.term = one.in() ? one.term : 1;
            one.vault = v;
            return free(v);
        }
        need(one.in() && !one.knocked, -3);
        one.knocked = true;
        one.term = Math.min(99, one.term + 1);
        return one.term;
    }

    private int done(int kind, int d, int v) {
        State was = s.copy();
        int told = act(kind, d, v);
        past.add(new Past(kind, was));
        if (past.size() > 16) {
            past.remove(0);
        }
        return told;
    }

    private int undo() {
        need(!past.isEmpty(), -3);
        Past latest = past.remove(past.size() - 1);
        s.means = new ArrayList<>(latest.was.means);
        s.terms[0] = latest.was.terms[0];
        for (int i = 0; i < s.dead.size(); i++) {
            Dead then = latest.was.dead.get(i);
            s.dead.get(i).vault = then.vault;
            s.dead.get(i).term = then.term;
            s.dead.get(i).knocked = then.knocked;
        }
        return latest.kind;
    }

    private int feed(int[] a) {
        if (tape.size() + 20 > 400) {
            return -1;
        }
        for (int n : a) {
            for (byte b : java.nio.ByteBuffer.allocate(4).putInt(n).array()) {
                tape.add(b);
            }
        }
        return tape.size();
    }

    private int end(int n) {
        if (n < 0 || n > tape.size()) {
            return -1;
        }
        tape.subList(n, tape.size()).clear();
        return n;
    }

    private byte[] taken() {
        byte[] all = new byte[tape.size()];
        for (int i = 0; i < all.length; i++) {
            all[i] = tape.get(i);
        }
        tape.clear();
        return all;
    }

    private int row() {
        need(!tape.isEmpty(), -6);
        byte[] all = taken();
        int came = 0;
        int nobody = 0;
        for (int i = 0; i < all.length; i += 3) {
            try {
                need(i + 3 <= all.length, -6);
                bury(all[i] & 255, all[i + 1] & 255, all[i + 2] & 255);
                came++;
            } catch (Refusal no) {
                nobody++;
            }
        }
        draughts = nobody;
        past.clear();
        return came;
    }

    private int law() {
        byte[] text = taken();
        need(s.laws.size() < 6, -5);
        fault = new Grammar(false).fault(text);
        need(fault == -1, -6);
        s.laws.add(new Tree(text).clauses());
        return s.laws.size() - 1;
    }

    private int orders() {
        byte[] text = taken();
        stopped = -1;
        fault = new Grammar(true).fault(text);
        need(fault == -1, -6);
        State was = s.copy();
        List<Past> then = new ArrayList<>(past);
        List<Clause> clauses = new Tree(text).clauses();
        int run = 0;
        int latest = -1;
        for (int c = 0; c < clauses.size(); c++) {
            Clause one = clauses.get(c);
            for (int i = 0; i < one.times; i++) {
                Map<String, Integer> words = orderWords(run, latest);
                if (!isSo(one.test, words)) {
                    continue;
                }
                try {
                    int kind = List.of("renew", "lodge", "knock", "pass").indexOf(one.head);
                    int first = kind == 3 ? 0 : (int) one.first.of(words);
                    int told = done(kind, first, kind == 1 ? (int) one.second.of(words) : 0);
                    latest = kind == 0 ? told : latest;
                    run++;
                } catch (Broken | Refusal no) {
                    stopped = c;
                    s = was;
                    past = then;
                    throw new Refusal(-3);
                }
            }
        }
        return run;
    }

    private static boolean isSo(Test test, Map<String, Integer> words) {
        try {
            return test.of(words);
        } catch (Broken b) {
            return false;
        }
    }

    private Map<String, Integer> orderWords(int run, int latest) {
        Map<String, Integer> w = new HashMap<>();
        w.put("year", s.terms[0]);
        w.put("done", run);
        w.put("latest", latest);
        w.put("inside", (int) s.dead.stream().filter(Dead::in).count());
        for (int i = 0; i < 8; i++) {
            w.put("term" + i, isDead(i) ? s.dead.get(i).term : -1);
            w.put("means" + i, isFamily(i) ? s.means.get(i) : -1);
        }
        return w;
    }

    private int keep(int f, int n, int what) {
        if (!isFamily(f) || n < 1 || n > 99 || what < 0 || what > 2) {
            return -1;
        }
        int[] best = {0, 0, 0};
        for (int set = 0; set < 1 << s.dead.size(); set++) {
            int cost = 0;
            boolean right = true;
            for (int i = 0; i < s.dead.size(); i++) {
                if ((set >> i & 1) == 1) {
                    Dead d = s.dead.get(i);
                    right &= d.family == f && d.in();
                    for (int term = d.term; term < n; term += lasts(i)) {
                        cost += priced(i);
                    }
                }
            }
            int[] now = {Integer.bitCount(set), cost, set};
            if (right && cost <= s.means.get(f) && (now[0] > best[0] || now[0] == best[0] && cost < best[1])) {
                best = now;
            }
        }
        return best[what];
    }

    private int when(int k, int what) {
        if (!isDead(k) || !s.dead.get(k).in() || what < 0 || what > 1) {
            return -1;
        }
        Dead d = s.dead.get(k);
        int[] best = {0, Integer.MAX_VALUE};
        for (int i = 0; i < d.term; i++) {
            Map<String, Integer> words = words(k, d.family, d.vault);
            words.put("year", s.terms[0] + i);
            words.put("term", d.term - i);
            int price = told(s.force, "prices", 1, 99, 5, words);
            if (price < best[1]) {
                best = new int[] {i, price};
            }
        }
        return best[what];
    }

    private int stranger() {
        return bits(i -> s.seen.stream().allMatch(e -> (e[1] == 0) == (s.dead.get(i).term > e[0])));
    }

    private int look(int what) {
        int who = stranger();
        if (who == 0 || what < 0 || what > 1) {
            return -1;
        }
        int[] best = {0, 99};
        for (int n = 0; n < 100; n++) {
            int year = n;
            int in = Integer.bitCount(bits(i -> (who >> i & 1) == 1 && s.dead.get(i).term > year));
            int more = Math.max(in, Integer.bitCount(who) - in);
            best = more < best[1] ? new int[] {n, more} : best;
        }
        return best[what];
    }

    private int rooms(int what) {
        return what < 0 || what >= 2 + s.dead.size() ? -1 : allRooms()[what];
    }

    int[] allRooms() {
        int[] free = new int[s.beds.size()];
        boolean[][] bars = new boolean[s.dead.size()][free.length];
        for (int v = 0; v < free.length; v++) {
            free[v] = free(v);
            for (int d = 0; d < bars.length; d++) {
                bars[d][v] = barred(d, v);
            }
        }
        int[] best = new int[2 + s.dead.size()];
        best[0] = -1;
        tryRooms(0, free, bars, new int[best.length], best);
        return best;
    }

    /** Every row in the order of rows, so the first of the best stays. */
    private void tryRooms(int d, int[] free, boolean[][] bars, int[] now, int[] best) {
        if (d == s.dead.size()) {
            if (now[0] > best[0] || now[0] == best[0] && now[1] > best[1]) {
                System.arraycopy(now, 0, best, 0, best.length);
            }
            return;
        }
        if (s.dead.get(d).in()) {
            now[2 + d] = -1;
            tryRooms(d + 1, free, bars, now, best);
            return;
        }
        for (int v = 0; v < free.length; v++) {
            if (free[v] > 0 && !bars[d][v]) {
                free[v]--;
                now[0]++;
                now[1] += s.dead.get(d).wishes[v];
                now[2 + d] = v;
                tryRooms(d + 1, free, bars, now, best);
                free[v]++;
                now[0]--;
                now[1] -= s.dead.get(d).wishes[v];
            }
        }
        now[2 + d] = 100;
        tryRooms(d + 1, free, bars, now, best);
    }

    private int packed(int what) {
        if (what < 0 || what > 1) {
            return -1;
        }
        int best = -1;
        boolean[][] bars = new boolean[s.dead.size()][s.beds.size()];
        for (int d = 0; d < bars.length; d++) {
            for (int v = 0; v < s.beds.size(); v++) {
                bars[d][v] = barred(d, v);
            }
        }
        for (int set = 0; set < 1 << s.beds.size(); set++) {
            int[] room = new int[s.beds.size()];
            for (int v = 0; v < room.length; v++) {
                room[v] = (set >> v & 1) * s.beds.get(v);
            }
            if ((best == -1 || Integer.bitCount(set) < Integer.bitCount(best)) && canLie(0, room, bars)) {
                best = set;
            }
        }
        return best == -1 ? -1 : what == 0 ? Integer.bitCount(best) : best;
    }

    private boolean canLie(int d, int[] room, boolean[][] bars) {
        if (d == s.dead.size()) {
            return true;
        }
        if (!s.dead.get(d).in()) {
            return canLie(d + 1, room, bars);
        }
        for (int v = 0; v < room.length; v++) {
            if (room[v] > 0 && !bars[d][v]) {
                room[v]--;
                boolean so = canLie(d + 1, room, bars);
                room[v]++;
                if (so) {
                    return true;
                }
            }
        }
        return false;
    }

    private int changes(int i) {
        List<Integer> twos = new ArrayList<>();
        for (int a = 0; a < s.dead.size(); a++) {
            for (int b = a + 1; b < s.dead.size(); b++) {
                Dead x = s.dead.get(a);
                Dead y = s.dead.get(b);
                if (x.in() && y.in() && x.vault != y.vault && x.wishes[y.vault] > x.wishes[x.vault]
                    && y.wishes[x.vault] > y.wishes[y.vault] && !barred(a, y.vault) && !barred(b, x.vault)) {
                    twos.add(10 * a + b);
                }
            }
        }
        return i == -1 ? twos.size() : i >= 0 && i < twos.size() ? twos.get(i) : -1;
    }

    private long few(int k, int n) {
        if (k < 1 || k > 20 || n < 0 || n > 99) {
            return -1;
        }
        long[] parts = new long[102];
        parts[0] = 1000000000000L;
        for (int i = 0; i < n; i++) {
            long[] then = new long[102];
            for (int j = 0; j <= i; j++) {
                then[j] += parts[j] * (10 - s.terms[1]) / 10;
                then[j + 1] += parts[j] * s.terms[1] / 10;
            }
            parts = then;
        }
        return Arrays.stream(parts, 0, k).sum();
    }

    private int compare(int law) {
        if (law != -1 && !isLaw(law)) {
            return -1;
        }
        int all = 0;
        for (int i = 0; i < s.dead.size(); i++) {
            all += s.dead.get(i).in() ? priced(i, law) : 0;
        }
        return all;
    }

    private int centuries(int seed, int n) {
        need(seed >= 0 && seed <= 1000000 && n >= 1 && n <= 60, -1);
        need(!s.dead.isEmpty(), -3);
        State stands = s;
        s = s.copy();
        long drawn = seed;
        int out = 0;
        for (int i = 0; i < n && s.terms[0] != 999; i++) {
            int[] draws = {s.dead.size(), s.beds.size(), 3};
            for (int j = 0; j < 3; j++) {
                drawn = (drawn * 1103 + 12345) % 1000003;
                draws[j] = (int) (drawn % draws[j]);
            }
            try {
                act(draws[2], draws[0], draws[1]);
            } catch (Refusal no) {
                // it can't be
            }
            int before = (int) s.dead.stream().filter(Dead::in).count();
            act(3, 0, 0);
            out += before - (int) s.dead.stream().filter(Dead::in).count();
        }
        century = s;
        s = stands;
        return out;
    }

    private int drawn(int k, int what) {
        if (century == null || what < 0 || what > 2 || k < 0) {
            return -100;
        }
        if (what == 2) {
            return k < century.means.size() ? century.means.get(k) : -100;
        }
        if (k >= century.dead.size()) {
            return -100;
        }
        return what == 0 ? century.dead.get(k).vault : century.dead.get(k).term;
    }

    private int count(int what) {
        int[] all = {s.beds.size(), s.means.size(), s.dead.size(), (int) s.dead.stream().filter(Dead::in).count(),
            s.seen.size(), s.laws.size(), past.size(), tape.size(), refused(-1), refused(-2), refused(-3), refused(-5),
            refused(-6), s.force, s.terms[0], s.terms[1], s.terms[2]};
        return what < 0 || what >= all.length ? -1 : all[what];
    }

    private int refused(int by) {
        return refusals.getOrDefault(by, 0);
    }

    /** Makes trees of a TEXT that Grammar found to be right. */
    private static final class Tree {
        private final List<Grammar.Token> tokens;
        private int at = 0;

        Tree(byte[] text) {
            tokens = Grammar.tokens(text);
        }

        private boolean is(String text) {
            return at < tokens.size() && tokens.get(at).text().equals(text);
        }

        private boolean takes(String text) {
            boolean so = is(text);
            at += so ? 1 : 0;
            return so;
        }

        List<Clause> clauses() {
            List<Clause> all = new ArrayList<>();
            do {
                String head = tokens.get(at++).text();
                Sum first = head.equals("bars") || head.equals("pass") ? null : sum();
                Sum second = takes("in") ? sum() : null;
                int times = takes("times") ? tokens.get(at++).value() : 1;
                Test test = takes("if") ? test() : words -> true;
                all.add(new Clause(head, first, second, times, test));
            } while (takes(";"));
            return all;
        }

        private Test test() {
            Test left = both();
            while (takes("or")) {
                Test a = left;
                Test b = both();
                left = words -> a.of(words) || b.of(words);
            }
            return left;
        }

        private Test both() {
            Test left = plain();
            while (takes("and")) {
                Test a = left;
                Test b = plain();
                left = words -> a.of(words) && b.of(words);
            }
            return left;
        }

        private Test plain() {
            if (takes("not")) {
                Test a = plain();
                return words -> !a.of(words);
            }
            if (takes("(")) {
                Test a = test();
                at++;
                return a;
            }
            Sum a = sum();
            String sign = tokens.get(at++).text();
            Sum b = sum();
            return words -> {
                int order = Long.compare(a.of(words), b.of(words));
                return sign.equals("<") ? order < 0 : sign.equals(">") ? order > 0 : order == 0;
            };
        }

        private Sum sum() {
            Sum left = term();
            while (is("+") || is("-")) {
                left = joined(left, tokens.get(at++).text(), term());
            }
            return left;
        }

        private Sum term() {
            Sum left = part();
            while (is("*") || is("/") || is("%")) {
                left = joined(left, tokens.get(at++).text(), part());
            }
            return left;
        }

        private Sum part() {
            if (takes("[")) {
                Sum a = sum();
                at++;
                return a;
            }
            Grammar.Token token = tokens.get(at++);
            if (token.isNumber()) {
                return words -> token.value();
            }
            boolean more = at < tokens.size() && tokens.get(at).isNumber();
            String word = token.text() + (more ? "" + tokens.get(at++).value() : "");
            return words -> words.get(word);
        }

        private static Sum joined(Sum left, String sign, Sum right) {
            return words -> {
                long a = left.of(words);
                long b = right.of(words);
                if (b == 0 && (sign.equals("/") || sign.equals("%"))) {
                    throw new Broken();
                }
                long told = switch (sign) {
                    case "+" -> a + b;
                    case "-" -> a - b;
                    case "*" -> a * b;
                    case "/" -> a / b;
                    default -> a % b;
                };
                if (Math.abs(told) > 1000000000L) {
                    throw new Broken();
                }
                return told;
            };
        }
    }
}
