import java.util.ArrayList;
import java.util.HashMap;
import java.util.List;
import java.util.Map;
import java.util.TreeMap;

/**
 * The document once more, word by word and as slowly as it likes: each answer is found by going
 * through all WORLDS, ANSWERS, sets and PAIRS. RandomRuns holds WarmerColder against it.
 */
final class Model {
    static final int NONE = -1;

    static final class Fault extends RuntimeException {
        private static final long serialVersionUID = 1L;
        final int number;

        Fault(int place, int code) {
            super(null, null, false, false);
            number = 1 + 8 * place + code;
        }
    }

    interface Sum {
        long of(Map<String, Long> words);
    }

    interface Test {
        boolean of(Map<String, Long> words);
    }

    record Clause(int kind, Sum sum, Test test) {
    }

    record Said(int witness, int kind, int one, int other) {
    }

    record Pair(int kind, int one, int other) {
    }

    record Verdict(int world, int answers) {
    }

    /** All but the TAPE and the LAWS. */
    static final class Room {
        int hours;
        List<int[]> roads = new ArrayList<>();
        List<int[]> men = new ArrayList<>();
        List<Said> said = new ArrayList<>();
        List<Boolean> struck = new ArrayList<>();
        int only = NONE;
        List<Verdict> verdicts = new ArrayList<>();
        int x;

        Room copy() {
            Room r = new Room();
            r.hours = hours;
            r.roads.addAll(roads);
            r.men.addAll(men);
            r.said.addAll(said);
            r.struck.addAll(struck);
            r.only = only;
            r.verdicts.addAll(verdicts);
            r.x = x;
            return r;
        }
    }

    private final List<Byte> tape = new ArrayList<>();
    private final List<List<Clause>> laws = new ArrayList<>();
    private Room room = new Room();
    private final Room[] images = new Room[4];
    private final Map<Integer, Long> farKnown = new HashMap<>();

    // ---- reading ----

    private static final class Reader {
        final byte[] text;
        int here;
        int counted;

        Reader(List<Byte> tape) {
            text = new byte[tape.size()];
            for (int i = 0; i < text.length; i++) {
                text[i] = tape.get(i);
            }
        }

        int peek() {
            while (here < text.length && text[here] == 32) {
                here++;
            }
            return here < text.length ? text[here] & 255 : -1;
        }

        boolean isLetter(int i) {
            return i < text.length && text[i] >= 'a' && text[i] <= 'z';
        }

        boolean isDigit(int i) {
            return i < text.length && text[i] >= '0' && text[i] <= '9';
        }

        /** The WORD that begins behind blanks, "" if none does; it is not passed. */
        String word() {
            peek();
            StringBuilder b = new StringBuilder();
            for (int i = here; isLetter(i); i++) {
                b.append((char) text[i]);
            }
            return b.toString();
        }

        boolean takes(String word) {
            if (!word().equals(word)) {
                return false;
            }
            here += word.length();
            return true;
        }

        boolean takes(char sign) {
            if (peek() != sign) {
                return false;
            }
            here++;
            return true;
        }

        Fault strange() {
            peek();
            return new Fault(here, 0);
        }

        int number(int least, int most) {
            peek();
            if (!isDigit(here)) {
                throw new Fault(here, 0);
            }
            int to = here;
            while (isDigit(to)) {
                to++;
            }
            if (to - here > 5) {
                throw new Fault(here, 1);
            }
            int n = Integer.parseInt(new String(text, here, to - here));
            if (n < least || n > most) {
                throw new Fault(here, 1);
            }
            here = to;
            return n;
        }

        void count(int place) {
            if (counted == 60) {
                throw new Fault(place, 3);
            }
            counted++;
        }

        Sum value() {
            peek();
            int place = here;
            if (isDigit(here)) {
                long n = number(0, 99999);
                count(place);
                return w -> n;
            }
            String word = word();
            if (!List.of("asked", "seen", "apart", "dx", "dy", "years", "dyears", "kin").contains(word)) {
                throw strange();
            }
            count(place);
            here += word.length();
            return w -> w.get(word);
        }

        Sum term() {
            Sum left = value();
            while (true) {
                if (takes('*')) {
                    Sum a = left;
                    Sum b = value();
                    left = w -> a.of(w) * b.of(w);
                } else if (takes('/')) {
                    Sum a = left;
                    Sum b = value();
                    left = w -> b.of(w) == 0 ? 0 : a.of(w) / b.of(w);
                } else {
                    return left;
                }
            }
        }

        Sum sum() {
            Sum left = term();
            while (true) {
                if (takes('+')) {
                    Sum a = left;
                    Sum b = term();
                    left = w -> a.of(w) + b.of(w);
                } else if (takes('-')) {
                    Sum a = left;
                    Sum b = term();
                    left = w -> a.of(w) - b.of(w);
                } else {
                    return left;
                }
            }
        }

        Test fact(int depth) {
            if (word().equals("not") || peek() == '[') {
                if (depth == 10) {
                    throw new Fault(here, 2);
                }
                if (takes("not")) {
                    Test f = fact(depth + 1);
                    return w -> !f.of(w);
                }
                here++;
                Test t = test(depth + 1);
                if (!takes(']')) {
                    throw strange();
                }
                return t;
            }
            Sum a = sum();
            int sign = peek();
            if (sign != '<' && sign != '=' && sign != '>') {
                throw strange();
            }
            count(here);
            here++;
            boolean orEqual = sign != '=' && here < text.length && text[here] == '=';
            if (orEqual) {
                here++;
            }
            Sum b = sum();
            return w -> {
                int by = Long.compare(a.of(w), b.of(w));
                if (by == 0) {
                    return orEqual || sign == '=';
                }
                return sign == (by < 0 ? '<' : '>');
            };
        }

        Test part(int depth) {
            Test left = fact(depth);
            while (takes("and")) {
                Test a = left;
                Test b = fact(depth);
                left = w -> a.of(w) && b.of(w);
            }
            return left;
        }

        Test test(int depth) {
            Test left = part(depth);
            while (takes("or")) {
                Test a = left;
                Test b = part(depth);
                left = w -> a.of(w) || b.of(w);
            }
            return left;
        }

        List<Clause> law() {
            List<Clause> all = new ArrayList<>();
            do {
                String word = word();
                int kind = List.of("hour", "road", "man").indexOf(word);
                if (kind < 0) {
                    throw strange();
                }
                if (all.size() == 12) {
                    throw new Fault(here, 4);
                }
                here += word.length();
                Sum sum = sum();
                all.add(new Clause(kind, sum, takes("if") ? test(0) : null));
            } while (takes(';'));
            if (peek() != -1) {
                throw strange();
            }
            return all;
        }

        Room court() {
            Room r = new Room();
            int clauses = 0;
            do {
                String word = word();
                int place = here;
                if (!List.of("hours", "road", "man").contains(word)) {
                    throw strange();
                }
                if (clauses == 24) {
                    throw new Fault(place, 4);
                }
                clauses++;
                here += word.length();
                if (word.equals("hours")) {
                    if (r.hours > 0) {
                        throw new Fault(place, 4);
                    }
                    r.hours = number(1, 8);
                } else {
                    List<int[]> all = word.equals("road") ? r.roads : r.men;
                    if (all.size() == 8) {
                        throw new Fault(place, 4);
                    }
                    int first = number(0, 99);
                    all.add(new int[] {first, number(0, all == r.roads ? 99 : 9)});
                }
            } while (takes(';'));
            if (peek() != -1 || r.roads.isEmpty() || r.men.isEmpty()) {
                throw strange();
            }
            r.hours = Math.max(r.hours, 1);
            return r;
        }
    }

    int feed(int... numbers) {
        if (tape.size() + 20 > 400) {
            return NONE;
        }
        for (int n : numbers) {
            tape.add((byte) (n >>> 24));
            tape.add((byte) (n >>> 16));
            tape.add((byte) (n >>> 8));
            tape.add((byte) n);
        }
        return tape.size();
    }

    int end(int n) {
        if (n < 0 || n > tape.size()) {
            return NONE;
        }
        tape.subList(n, tape.size()).clear();
        return n;
    }

    int court() {
        Reader reader = new Reader(tape);
        tape.clear();
        try {
            Room told = reader.court();
            told.x = room.x;
            room = told;
            farKnown.clear();
            return worlds();
        } catch (Fault f) {
            return -2 - f.number;
        }
    }

    int law() {
        if (laws.size() == 6) {
            return NONE;
        }
        Reader reader = new Reader(tape);
        tape.clear();
        try {
            laws.add(reader.law());
            farKnown.clear();
            return laws.size() - 1;
        } catch (Fault f) {
            return -2 - f.number;
        }
    }

    // ---- what is there ----

    private boolean told() {
        return room.hours > 0;
    }

    private int many(int kind) {
        return kind == 0 ? room.hours : kind == 1 ? room.roads.size() : room.men.size();
    }

    private int worlds() {
        return many(0) * many(1) * many(2);
    }

    private boolean has(int kind, int thing) {
        return kind >= 0 && kind < 3 && thing >= 0 && thing < many(kind);
    }

    private boolean hasLaw(int law) {
        return told() && law >= 0 && law < laws.size();
    }

    private boolean hasLaw(int law, int k) {
        return hasLaw(law) && k >= 0 && k <= 40;
    }

    private boolean hasAnswer(int a) {
        return a >= 0 && a < room.said.size();
    }

    private boolean hasWorld(int w) {
        return w >= 0 && w < worlds();
    }

    private int[] parts(int world) {
        int i = 0;
        for (int h = 0; h < many(0); h++) {
            for (int r = 0; r < many(1); r++) {
                for (int m = 0; m < many(2); m++) {
                    if (i++ == world) {
                        return new int[] {h, r, m};
                    }
                }
            }
        }
        throw new IllegalStateException();
    }

    private boolean lookedAt(int a) {
        return !room.struck.get(a) && (room.only == NONE || a < room.only);
    }

    private long farOf(int law, int kind, int asked, int seen) {
        int key = ((law * 3 + kind) * 8 + asked) * 8 + seen;
        Long known = farKnown.get(key);
        if (known == null) {
            known = farAnew(law, kind, asked, seen);
            farKnown.put(key, known);
        }
        return known;
    }

    private long farAnew(int law, int kind, int asked, int seen) {
        Map<String, Long> words = new TreeMap<>();
        for (String w : List.of("dx", "dy", "years", "dyears", "kin")) {
            words.put(w, 0L);
        }
        words.put("asked", (long) asked);
        words.put("seen", (long) seen);
        words.put("apart", (long) Math.abs(asked - seen));
        if (kind > 0) {
            List<int[]> all = kind == 1 ? room.roads : room.men;
            int[] a = all.get(asked);
            int[] s = all.get(seen);
            words.put(kind == 1 ? "dx" : "dyears", (long) Math.abs(a[0] - s[0]));
            if (kind == 1) {
                words.put("dy", (long) Math.abs(a[1] - s[1]));
            } else {
                words.put("years", (long) a[0]);
                words.put("kin", a[1] == s[1] ? 1L : 0L);
            }
        }
        for (Clause c : laws.get(law)) {
            if (c.kind() == kind && (c.test() == null || c.test().of(words))) {
                return c.sum().of(words);
            }
        }
        return words.get("apart");
    }

    private boolean notFarther(int law, int kind, int one, int other, int world) {
        int seen = parts(world)[kind];
        return farOf(law, kind, one, seen) <= farOf(law, kind, other, seen);
    }

    private boolean isTrue(int law, int a, int world) {
        Said s = room.said.get(a);
        return notFarther(law, s.kind(), s.one(), s.other(), world);
    }

    private int falseIn(int law, int world) {
        int n = 0;
        for (int a = 0; a < room.said.size(); a++) {
            if (lookedAt(a) && !isTrue(law, a, world)) {
                n++;
            }
        }
        return n;
    }

    private List<Integer> all() {
        List<Integer> all = new ArrayList<>();
        for (int w = 0; w < worlds(); w++) {
            all.add(w);
        }
        return all;
    }

    private List<Integer> keptOnes(int law, int k) {
        List<Integer> kept = all();
        kept.removeIf(w -> falseIn(law, w) > k);
        return kept;
    }

    // ---- the calls ----

    int thing(int kind, int k, int what) {
        if (!told() || kind < 0 || kind > 2) {
            return NONE;
        }
        if (what == 2) {
            return many(kind);
        }
        if (kind == 0 || what < 0 || what > 1 || !has(kind, k)) {
            return NONE;
        }
        return (kind == 1 ? room.roads : room.men).get(k)[what];
    }

    long far(int law, int kind, int asked, int seen) {
        if (!hasLaw(law) || !has(kind, asked) || !has(kind, seen)) {
            return -1000000000000L;
        }
        return farOf(law, kind, asked, seen);
    }

    int answer(int witness, int kind, int one, int other) {
        if (witness < 0 || witness > 5 || !has(kind, one) || !has(kind, other) || one == other) {
            return NONE;
        }
        if (spare(witness) < 1) {
            return NONE;
        }
        room.said.add(new Said(witness, kind, one, other));
        room.struck.add(false);
        return room.said.size() - 1;
    }

    int answers(int a, int what) {
        if (!hasAnswer(a) || what < 0 || what > 4) {
            return NONE;
        }
        Said s = room.said.get(a);
        return new int[] {s.witness(), s.kind(), s.one(), s.other(), room.struck.get(a) ? 1 : 0}[what];
    }

    boolean strike(int a, boolean is) {
        return hasAnswer(a) && room.struck.set(a, is) != is;
    }

    int only(int n) {
        if (n < -1 || n > 40) {
            return -2;
        }
        int was = room.only;
        room.only = n;
        return was;
    }

    int holds(int law, int a, int world) {
        return hasLaw(law) && hasAnswer(a) && hasWorld(world) ? isTrue(law, a, world) ? 1 : 0 : NONE;
    }

    int wrong(int law, int world) {
        return hasLaw(law) && hasWorld(world) ? falseIn(law, world) : NONE;
    }

    int kept(int law, int k) {
        return hasLaw(law, k) ? keptOnes(law, k).size() : NONE;
    }

    int world(int law, int k, int i) {
        if (!hasLaw(law, k)) {
            return NONE;
        }
        List<Integer> kept = keptOnes(law, k);
        return i >= 0 && i < kept.size() ? kept.get(i) : -2;
    }

    private int with(List<Integer> worlds, int kind, int thing) {
        return (int) worlds.stream().filter(w -> parts(w)[kind] == thing).count();
    }

    int may(int law, int k, int kind, int thing) {
        return hasLaw(law, k) && has(kind, thing) ? with(keptOnes(law, k), kind, thing) : NONE;
    }

    int cleared(int law, int k) {
        if (!hasLaw(law, k)) {
            return NONE;
        }
        int bits = 0;
        for (int m = 0; m < many(2); m++) {
            if (with(keptOnes(law, k), 2, m) == 0) {
                bits += 1 << m;
            }
        }
        return bits;
    }

    private int best(int law) {
        int best = 0;
        for (int w : all()) {
            if (falseIn(law, w) < falseIn(law, best)) {
                best = w;
            }
        }
        return best;
    }

    int fewest(int law, int what) {
        if (!hasLaw(law) || what < 0 || what > 2) {
            return NONE;
        }
        int best = best(law);
        int few = falseIn(law, best);
        return what == 0 ? few : what == 1 ? best : keptOnes(law, few).size();
    }

    long falseOnes(int law) {
        if (!hasLaw(law)) {
            return NONE;
        }
        int best = best(law);
        long bits = 0;
        for (int a = 0; a < room.said.size(); a++) {
            if (lookedAt(a) && !isTrue(law, a, best)) {
                bits |= 1L << a;
            }
        }
        return bits;
    }

    private static List<Integer> setsByFewest(int many) {
        List<Integer> sets = new ArrayList<>();
        for (int s = 0; s < 1 << many; s++) {
            sets.add(s);
        }
        sets.sort((a, b) -> Integer.bitCount(a) - Integer.bitCount(b));
        return sets;
    }

    int liars(int law) {
        if (!hasLaw(law)) {
            return NONE;
        }
        for (int set : setsByFewest(6)) {
            for (int w : all()) {
                boolean none = true;
                for (int a = 0; a < room.said.size(); a++) {
                    boolean out = (set >> room.said.get(a).witness() & 1) == 1;
                    none &= !lookedAt(a) || out || isTrue(law, a, w);
                }
                if (none) {
                    return set;
                }
            }
        }
        throw new IllegalStateException();
    }

    int quarrel(int law) {
        if (!hasLaw(law)) {
            return NONE;
        }
        for (int a = 0; a < room.said.size(); a++) {
            for (int b = a + 1; b < room.said.size(); b++) {
                if (!lookedAt(a) || !lookedAt(b)) {
                    continue;
                }
                boolean some = false;
                for (int w : all()) {
                    some |= isTrue(law, a, w) && isTrue(law, b, w);
                }
                if (!some) {
                    return 64 * a + b;
                }
            }
        }
        return -2;
    }

    int proof(int law, int man) {
        if (!hasLaw(law) || !has(2, man)) {
            return NONE;
        }
        List<Integer> first = new ArrayList<>();
        for (int a = 0; a < room.said.size() && first.size() < 12; a++) {
            if (lookedAt(a)) {
                first.add(a);
            }
        }
        // Of each WORLD: which of the twelve are TRUE, and whether it has him.
        List<int[]> known = new ArrayList<>();
        for (int w : all()) {
            int bits = 0;
            for (int i = 0; i < first.size(); i++) {
                bits |= isTrue(law, first.get(i), w) ? 1 << i : 0;
            }
            known.add(new int[] {bits, parts(w)[2] == man ? 1 : 0});
        }
        for (int set : setsByFewest(first.size())) {
            int his = 0;
            int others = 0;
            for (int[] w : known) {
                if ((w[0] & set) == set) {
                    his += w[1];
                    others += 1 - w[1];
                }
            }
            if (his > 0 && others == 0) {
                return set;
            }
        }
        return -2;
    }

    int byLaws(int set, int k, int what) {
        if (set < 1 || set >= 1 << laws.size() || !hasLaw(0, k) || what < 0 || what > 1) {
            return NONE;
        }
        int n = 0;
        for (int w : all()) {
            boolean each = true;
            boolean some = false;
            for (int law = 0; law < laws.size(); law++) {
                if ((set >> law & 1) == 1) {
                    boolean is = falseIn(law, w) <= k;
                    each &= is;
                    some |= is;
                }
            }
            n += (what == 0 ? each : some) ? 1 : 0;
        }
        return n;
    }

    int looks(int law, int k, int a) {
        if (!hasLaw(law, k) || !hasAnswer(a)) {
            return NONE;
        }
        return (int) keptOnes(law, k).stream().filter(w -> !isTrue(law, a, w)).count();
    }

    int sure(int law, int k, int kind) {
        if (!hasLaw(law, k) || kind < 0 || kind > 2) {
            return NONE;
        }
        List<Integer> kept = keptOnes(law, k);
        for (int t = 0; t < many(kind); t++) {
            if (!kept.isEmpty() && with(kept, kind, t) == kept.size()) {
                return t;
            }
        }
        return -2;
    }

    int alone(int law, int witness) {
        if (!hasLaw(law) || witness < 0 || witness > 5) {
            return NONE;
        }
        int n = 0;
        for (int w : all()) {
            boolean none = true;
            for (int a = 0; a < room.said.size(); a++) {
                none &= room.said.get(a).witness() != witness || !lookedAt(a) || isTrue(law, a, w);
            }
            n += none ? 1 : 0;
        }
        return n;
    }

    int mean(int law, int k, int what) {
        if (!hasLaw(law, k) || what < 0 || what > 1) {
            return NONE;
        }
        List<Integer> kept = keptOnes(law, k);
        if (kept.isEmpty()) {
            return -2;
        }
        int sum = 0;
        for (int w : kept) {
            sum += room.roads.get(parts(w)[1])[what];
        }
        return sum / kept.size();
    }

    private List<Pair> pairs() {
        List<Pair> pairs = new ArrayList<>();
        for (int kind = 0; kind < 3; kind++) {
            for (int a = 0; a < many(kind); a++) {
                for (int b = a + 1; b < many(kind); b++) {
                    pairs.add(new Pair(kind, a, b));
                }
            }
        }
        return pairs;
    }

    private List<Integer> left(int law, List<Integer> of, Pair p, boolean forFirst) {
        List<Integer> left = new ArrayList<>(of);
        int one = forFirst ? p.one() : p.other();
        int other = forFirst ? p.other() : p.one();
        left.removeIf(w -> !notFarther(law, p.kind(), one, other, w));
        return left;
    }

    int useful(int law, int k, int what) {
        if (!hasLaw(law, k) || what < 0 || what > 1) {
            return NONE;
        }
        List<Integer> kept = keptOnes(law, k);
        if (what == 1) {
            int n = 0;
            while (Math.pow(2, n) < kept.size()) {
                n++;
            }
            return n;
        }
        int n = 0;
        for (Pair p : pairs()) {
            boolean both = left(law, kept, p, true).size() < kept.size()
                    && left(law, kept, p, false).size() < kept.size();
            n += both ? 1 : 0;
        }
        return n;
    }

    int filled(int law, int k, int a) {
        if (!hasLaw(law, k) || !hasAnswer(a)) {
            return NONE;
        }
        boolean was = room.struck.set(a, true);
        List<Integer> kept = keptOnes(law, k);
        room.struck.set(a, was);
        int kind = room.said.get(a).kind();
        int n = 0;
        for (int one = 0; one < many(kind); one++) {
            for (int other = 0; other < many(kind); other++) {
                boolean some = false;
                for (int w : kept) {
                    some |= one != other && notFarther(law, kind, one, other, w);
                }
                n += some ? 1 : 0;
            }
        }
        return n;
    }

    private Pair nextPair(int law, List<Integer> of, int by) {
        Pair best = null;
        long least = 0;
        for (Pair p : pairs()) {
            long a = left(law, of, p, true).size();
            long b = left(law, of, p, false).size();
            long cost = by == 0 ? Math.max(a, b) : a * a + b * b;
            if (best == null || cost < least) {
                best = p;
                least = cost;
            }
        }
        return best;
    }

    int next(int law, int k, int by, int what) {
        if (!hasLaw(law, k) || by < 0 || by > 1 || what < 0 || what > 4) {
            return NONE;
        }
        List<Integer> kept = keptOnes(law, k);
        Pair p = nextPair(law, kept, by);
        if (p == null) {
            return -2;
        }
        int a = left(law, kept, p, true).size();
        int b = left(law, kept, p, false).size();
        return new int[] {p.kind(), p.one(), p.other(), Math.max(a, b), Math.min(a, b)}[what];
    }

    private boolean singled(int law, List<Integer> of, int pairs) {
        if (of.size() <= 1) {
            return true;
        }
        // Half of them is always left: with a great court, time is kept so.
        if (pairs == 0 || pairs().size() > 12 && of.size() > 1 << pairs) {
            return false;
        }
        for (Pair p : pairs()) {
            if (singled(law, left(law, of, p, true), pairs - 1)
                    && singled(law, left(law, of, p, false), pairs - 1)) {
                return true;
            }
        }
        return false;
    }

    int needed(int law, int k) {
        if (!hasLaw(law, k)) {
            return NONE;
        }
        List<Integer> kept = keptOnes(law, k);
        if (kept.size() > 64) {
            return NONE;
        }
        for (int n = 0; n <= 3; n++) {
            if (singled(law, kept, n)) {
                return n;
            }
        }
        return -2;
    }

    private List<Integer> asIn(int law, List<Integer> of, Pair p, int world) {
        return left(law, of, p, notFarther(law, p.kind(), p.one(), p.other(), world));
    }

    int steered(int law, int k, int world, int man, int what) {
        if (!hasLaw(law, k) || !hasWorld(world) || !has(2, man) || what < 0 || what > 4) {
            return NONE;
        }
        List<Integer> kept = keptOnes(law, k);
        int[] best = null;
        for (Pair p : pairs()) {
            List<Integer> left = asIn(law, kept, p, world);
            int his = with(left, 2, man);
            // All parts are of at most 512, so unlike ones differ by more than a double's rounding.
            if (!left.isEmpty() && (best == null || (double) his / left.size() > (double) best[3] / best[4])) {
                best = new int[] {p.kind(), p.one(), p.other(), his, left.size()};
            }
        }
        return best == null ? -2 : best[what];
    }

    int spare(int witness) {
        if (witness < 0 || witness > 5) {
            return NONE;
        }
        long his = room.said.stream().filter(s -> s.witness() == witness).count();
        return (int) Math.min(9 - his, 40 - room.said.size());
    }

    int seed(int x) {
        if (x < 0) {
            return NONE;
        }
        int was = room.x;
        room.x = x;
        return was;
    }

    int trials(int law, int m, int what) {
        if (!hasLaw(law) || m < 1 || m > 20 || what < 0 || what > 2) {
            return NONE;
        }
        long x = room.x;
        int[] told = new int[3];
        for (int i = 0; i < m; i++) {
            x = (x * 1103515245L + 12345L) % 2147483648L;
            int world = (int) (x / 65536 % worlds());
            List<Integer> left = all();
            for (int asked = 0; asked < 9 && left.size() > 1; asked++) {
                Pair p = nextPair(law, left, 0);
                int a = left(law, left, p, true).size();
                int b = left(law, left, p, false).size();
                if (Math.max(a, b) >= left.size()) {
                    break;
                }
                told[0]++;
                left = asIn(law, left, p, world);
            }
            told[1] += left.equals(List.of(world)) ? 1 : 0;
            told[2] += left.size();
        }
        return told[what];
    }

    int verdict(int world) {
        if (world == NONE) {
            room.verdicts.clear();
            return 0;
        }
        if (!hasWorld(world) || room.verdicts.size() == 10) {
            return -2;
        }
        room.verdicts.add(new Verdict(world, room.said.size()));
        return room.verdicts.size();
    }

    int old(int law, int k, int v, int what) {
        if (!hasLaw(law, k) || v < 0 || v >= room.verdicts.size() || what < 0 || what > 2) {
            return NONE;
        }
        Verdict verdict = room.verdicts.get(v);
        int was = room.only;
        room.only = verdict.answers();
        List<Integer> kept = keptOnes(law, k);
        room.only = was;
        int is = kept.contains(verdict.world()) ? 1 : 0;
        return what == 0 ? is : what == 1 ? kept.size() - is : verdict.answers();
    }

    int count(int what) {
        switch (what) {
            case 0:
            case 1:
            case 2:
                return many(what);
            case 3:
                return laws.size();
            case 4:
                return room.said.size();
            case 5:
                return (int) room.struck.stream().filter(s -> s).count();
            case 6:
                int n = 0;
                for (int a = 0; a < room.said.size(); a++) {
                    n += lookedAt(a) ? 1 : 0;
                }
                return n;
            case 7:
                return room.verdicts.size();
            case 8:
                return room.x;
            case 9:
                return tape.size();
            default:
                return NONE;
        }
    }

    int image(int k) {
        if (k < 0 || k > 3) {
            return NONE;
        }
        images[k] = room.copy();
        return room.said.size();
    }

    int back(int k) {
        if (k < 0 || k > 3 || images[k] == null) {
            return NONE;
        }
        room = images[k].copy();
        farKnown.clear();
        return room.said.size();
    }
}
