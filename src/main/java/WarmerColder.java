/**
 * A court in which a witness may say nothing but which of two hours, two roads or two men is
 * nearer to what he saw. Words in capitals in the comments are those of the document.
 */
public final class WarmerColder {
    public static final int NONE = -1;

    private static final int NO_SUCH = -2;
    private static final long NO_FAR = -1000000000000L;

    private static final int HOURS = 0;
    private static final int ROADS = 1;
    private static final int MEN = 2;
    private static final int KINDS = 3;
    private static final int THING_LIMIT = 8;
    private static final int THING_SLOTS = KINDS * THING_LIMIT;
    private static final int KIND_BITS = 255;
    private static final int WORLD_LIMIT = THING_LIMIT * THING_LIMIT * THING_LIMIT;
    private static final int PAIR_LIMIT = KINDS * THING_LIMIT * (THING_LIMIT - 1) / 2;

    private static final int TAPE_LIMIT = 400;
    private static final int FEED_BYTES = 20;
    private static final int LAW_LIMIT = 6;
    private static final int LAW_CLAUSE_LIMIT = 12;
    private static final int COUNTED_LIMIT = 60;
    private static final int DEPTH_LIMIT = 10;
    private static final int DIGIT_LIMIT = 5;
    private static final int NUMBER_MOST = 99999;

    private static final int WITNESS_LIMIT = 6;
    private static final int ANSWER_LIMIT = 40;
    private static final int WITNESS_ANSWER_LIMIT = 9;
    private static final int VERDICT_LIMIT = 10;
    private static final int IMAGE_LIMIT = 4;
    private static final int PROOF_LIMIT = 12;
    private static final int TRIAL_LIMIT = 20;
    private static final int TRIAL_PAIR_LIMIT = 9;
    private static final int NEEDED_WORLD_LIMIT = 64;
    private static final int NEEDED_PAIR_LIMIT = 3;
    private static final int SINGLED_LIMIT = 1 << NEEDED_PAIR_LIMIT;

    private static final int AT_WORST = 0;
    private static final long DRAW_MODULUS = 2147483648L;
    private static final int DRAW_DIVISOR = 65536;

    private static final int FAULT_CANNOT_STAND = 0;
    private static final int FAULT_NUMBER = 1;
    private static final int FAULT_DEPTH = 2;
    private static final int FAULT_COUNTED = 3;
    private static final int FAULT_CLAUSE = 4;

    // Signs of a text. Those of a LAW's SUMS and TESTS are its postfix code, too.
    private static final int SIGN_END = 0;
    private static final int SIGN_STRANGE = 1;
    private static final int SIGN_NUMBER = 2;
    private static final int SIGN_SEMICOLON = 3;
    private static final int SIGN_OPEN = 4;
    private static final int SIGN_SHUT = 5;
    private static final int SIGN_PLUS = 6;
    private static final int SIGN_MINUS = 7;
    private static final int SIGN_TIMES = 8;
    private static final int SIGN_OVER = 9;
    private static final int SIGN_LESS = 10;
    private static final int SIGN_AT_MOST = 11;
    private static final int SIGN_EQUAL = 12;
    private static final int SIGN_AT_LEAST = 13;
    private static final int SIGN_GREATER = 14;
    private static final int WORD_HOURS = 15;
    private static final int WORD_HOUR = 16;
    private static final int WORD_ROAD = 17;
    private static final int WORD_MAN = 18;
    private static final int WORD_IF = 19;
    private static final int WORD_OR = 20;
    private static final int WORD_AND = 21;
    private static final int WORD_NOT = 22;
    private static final int WORD_ASKED = 23;
    private static final int WORD_SEEN = 24;
    private static final int WORD_APART = 25;
    private static final int WORD_DX = 26;
    private static final int WORD_DY = 27;
    private static final int WORD_YEARS = 28;
    private static final int WORD_DYEARS = 29;
    private static final int WORD_KIN = 30;
    private static final int VALUE_WORDS = WORD_KIN - WORD_ASKED + 1;
    // In the code of a LAW, a NUMBER n is NUMBERS + n.
    private static final int NUMBERS = 100;

    private final Tape tape = new Tape();
    private final Text text = new Text();
    private final CourtReader courtReader = new CourtReader();
    private final LawReader lawReader = new LawReader();
    private final Court draft = new Court();

    private final Law[] laws = new Law[LAW_LIMIT];
    private int lawCount;
    private final Hearing now = new Hearing();
    private final Hearing[] images = new Hearing[IMAGE_LIMIT];
    private final boolean[] imageMade = new boolean[IMAGE_LIMIT];
    private final Pairs pairs = new Pairs();

    // Rows that calls use again, each for itself: nothing in them lasts from call to call.
    private final int[] falseAt = new int[THING_SLOTS];
    private final int[] falseIn = new int[WORLD_LIMIT];
    private final int[] keptBy = new int[WORLD_LIMIT];
    private final Tally keptOnes = new Tally();
    private final Tally fewerOnes = new Tally();
    private final int[] proofThings = new int[PROOF_LIMIT];
    private final Singling singling = new Singling();

    public WarmerColder() {
        for (int i = 0; i < laws.length; i++) {
            laws[i] = new Law();
        }
        for (int i = 0; i < images.length; i++) {
            images[i] = new Hearing();
        }
    }

    // ---- the TAPE, and what is read from it ----

    public int feed(int a, int b, int c, int d, int e) {
        if (tape.size + FEED_BYTES > TAPE_LIMIT) {
            return NONE;
        }
        tape.putNumber(a);
        tape.putNumber(b);
        tape.putNumber(c);
        tape.putNumber(d);
        tape.putNumber(e);
        return tape.size;
    }

    public int end(int n) {
        if (n < 0 || n > tape.size) {
            return NONE;
        }
        tape.size = n;
        return n;
    }

    public int court() {
        text.cut(tape);
        tape.size = 0;
        courtReader.read(text, draft);
        if (text.fault != 0) {
            return -2 - text.fault;
        }
        now.open(draft);
        courtIsAnother();
        return now.court.worlds();
    }

    public int law() {
        if (lawCount >= LAW_LIMIT) {
            return NONE;
        }
        Law unread = laws[lawCount];
        if (unread == null) {
            return NONE;
        }
        text.cut(tape);
        tape.size = 0;
        lawReader.read(text, unread);
        if (text.fault != 0) {
            return -2 - text.fault;
        }
        lawCount++;
        return lawCount - 1;
    }

    public int thing(int kind, int k, int what) {
        // Without a COURT there are no KINDS of things: NONE, where count answers 0.
        if (isOutside(kind, KINDS) || !now.court.isTold()) {
            return NONE;
        }
        if (what == 2) {
            return now.court.manyOf(kind);
        }
        if (isOutside(what, 2) || kind == HOURS || !now.court.has(kind, k)) {
            return NONE;
        }
        return what == 0 ? now.court.firstOf(kind, k) : now.court.secondOf(kind, k);
    }

    public long far(int law, int kind, int asked, int seen) {
        Law by = lawInUse(law);
        if (by == null || !now.court.has(kind, asked) || !now.court.has(kind, seen)) {
            return NO_FAR;
        }
        return by.farOf(kind, asked, seen);
    }

    // ---- ANSWERS ----

    public int answer(int witness, int kind, int one, int other) {
        if (isOutside(witness, WITNESS_LIMIT) || now.mayStillGive(witness) <= 0) {
            return NONE;
        }
        if (!now.court.has(kind, one) || !now.court.has(kind, other) || one == other) {
            return NONE;
        }
        return now.takeDown(witness, kind, one, other);
    }

    public int answers(int answer, int what) {
        if (!now.hasAnswer(answer)) {
            return NONE;
        }
        switch (what) {
            case 0:
                return at(now.witness, answer);
            case 1:
                return at(now.kind, answer);
            case 2:
                return at(now.one, answer);
            case 3:
                return at(now.other, answer);
            case 4:
                return now.isStruck(answer) ? 1 : 0;
            default:
                return NONE;
        }
    }

    public boolean strike(int answer, boolean is) {
        if (!now.hasAnswer(answer) || now.isStruck(answer) == is) {
            return false;
        }
        now.setStruck(answer, is);
        return true;
    }

    public int only(int n) {
        if (n < NONE || n > ANSWER_LIMIT) {
            return NO_SUCH;
        }
        int before = now.limit;
        now.limit = n;
        return before;
    }

    public int spare(int witness) {
        return isOutside(witness, WITNESS_LIMIT) ? NONE : now.mayStillGive(witness);
    }

    // ---- which WORLDS hold ----

    public int holds(int law, int answer, int world) {
        Law by = lawInUse(law);
        if (by == null || !now.hasAnswer(answer) || isOutside(world, now.court.worlds())) {
            return NONE;
        }
        return isTrue(by, answer, world) ? 1 : 0;
    }

    public int wrong(int law, int world) {
        Law by = lawInUse(law);
        if (by == null || isOutside(world, now.court.worlds())) {
            return NONE;
        }
        countFalse(by, now.first(), NONE, NONE);
        return at(falseIn, world);
    }

    public int kept(int law, int k) {
        Law by = lawWithKept(law, k);
        return by == null ? NONE : keptOnes.all;
    }

    public int world(int law, int k, int i) {
        Law by = lawWithKept(law, k);
        if (by == null) {
            return NONE;
        }
        int before = 0;
        for (int w = 0; w < now.court.worlds(); w++) {
            if (at(falseIn, w) <= k) {
                if (before == i) {
                    return w;
                }
                before++;
            }
        }
        return NO_SUCH;
    }

    public int may(int law, int k, int kind, int thing) {
        Law by = lawWithKept(law, k);
        if (by == null || !now.court.has(kind, thing)) {
            return NONE;
        }
        return keptOnes.with(kind, thing);
    }

    public int cleared(int law, int k) {
        Law by = lawWithKept(law, k);
        if (by == null) {
            return NONE;
        }
        return now.court.bitsOf(MEN) & ~keptOnes.thingsOf(MEN);
    }

    public int fewest(int law, int what) {
        Law by = lawInUse(law);
        if (by == null || isOutside(what, 3)) {
            return NONE;
        }
        int best = bestWorld(by);
        int least = at(falseIn, best);
        switch (what) {
            case 0:
                return least;
            case 1:
                return best;
            default:
                return worldsWithAtMost(least);
        }
    }

    public long falseOnes(int law) {
        Law by = lawInUse(law);
        if (by == null) {
            return NONE;
        }
        int best = bestWorld(by);
        long bits = 0;
        for (int i = 0; i < ANSWER_LIMIT; i++) {
            if (now.isLookedAt(i, now.first()) && !isTrue(by, i, best)) {
                bits |= 1L << i;
            }
        }
        return bits;
    }

    public int liars(int law) {
        Law by = lawInUse(law);
        if (by == null) {
            return NONE;
        }
        markLiars(by);
        int best = NONE;
        // In a WORLD, just those who said something FALSE must go: the least such set is due.
        for (int w = 0; w < now.court.worlds(); w++) {
            int set = 0;
            for (int kind = 0; kind < KINDS; kind++) {
                set |= at(falseAt, slot(kind, now.court.thingIn(w, kind)));
            }
            if (best == NONE || isLesserSet(set, best)) {
                best = set;
            }
        }
        return best;
    }

    public int quarrel(int law) {
        Law by = lawInUse(law);
        if (by == null) {
            return NONE;
        }
        for (int one = 0; one < ANSWER_LIMIT; one++) {
            for (int other = one + 1; other < ANSWER_LIMIT; other++) {
                boolean bothLookedAt = now.isLookedAt(one, now.first())
                        && now.isLookedAt(other, now.first());
                if (bothLookedAt && !hasWorld(trueThings(by, one) & trueThings(by, other))) {
                    return 64 * one + other;
                }
            }
        }
        return NO_SUCH;
    }

    public int proof(int law, int man) {
        Law by = lawInUse(law);
        if (by == null || !now.court.has(MEN, man)) {
            return NONE;
        }
        int many = gatherProof(by);
        int best = NO_SUCH;
        for (int set = 0; set < 1 << many; set++) {
            boolean isFewer = best == NO_SUCH || Integer.bitCount(set) < Integer.bitCount(best);
            if (isFewer && provesMan(set, many, man)) {
                best = set;
            }
        }
        return best;
    }

    public int byLaws(int laws, int k, int what) {
        boolean isSet = laws >= 1 && laws < 1 << lawCount;
        if (!isSet || !now.court.isTold() || isOutside(k, ANSWER_LIMIT + 1) || isOutside(what, 2)) {
            return NONE;
        }
        countKeptBy(laws, k);
        int due = what == 0 ? Integer.bitCount(laws) : 1;
        int found = 0;
        for (int w = 0; w < now.court.worlds(); w++) {
            if (at(keptBy, w) >= due) {
                found++;
            }
        }
        return found;
    }

    public int looks(int law, int k, int answer) {
        Law by = lawWithKept(law, k);
        if (by == null || !now.hasAnswer(answer)) {
            return NONE;
        }
        return keptOnes.all - keptOnes.withAny(at(now.kind, answer), nearThings(by, answer));
    }

    public int sure(int law, int k, int kind) {
        Law by = lawWithKept(law, k);
        if (by == null || isOutside(kind, KINDS)) {
            return NONE;
        }
        int things = keptOnes.thingsOf(kind);
        return Integer.bitCount(things) == 1 ? Integer.numberOfTrailingZeros(things) : NO_SUCH;
    }

    public int alone(int law, int witness) {
        Law by = lawInUse(law);
        if (by == null || isOutside(witness, WITNESS_LIMIT)) {
            return NONE;
        }
        countFalse(by, now.first(), witness, NONE);
        return worldsWithAtMost(0);
    }

    public int mean(int law, int k, int what) {
        Law by = lawWithKept(law, k);
        if (by == null || isOutside(what, 2)) {
            return NONE;
        }
        if (keptOnes.all <= 0) {
            return NO_SUCH;
        }
        int sum = 0;
        for (int road = 0; road < now.court.manyOf(ROADS); road++) {
            int told = what == 0 ? now.court.firstOf(ROADS, road) : now.court.secondOf(ROADS, road);
            sum += told * keptOnes.with(ROADS, road);
        }
        return sum / keptOnes.all;
    }

    public int filled(int law, int k, int answer) {
        Law by = lawInUse(law);
        if (by == null || isOutside(k, ANSWER_LIMIT + 1) || !now.hasAnswer(answer)) {
            return NONE;
        }
        countFalse(by, now.first(), NONE, answer);
        fillKept(keptOnes, k, NONE);
        int kind = at(now.kind, answer);
        int things = keptOnes.thingsOf(kind);
        int many = now.court.manyOf(kind);
        int found = 0;
        for (int one = 0; one < many; one++) {
            for (int other = 0; other < many; other++) {
                if (one != other && (by.nearOf(kind, one, other) & things) != 0) {
                    found++;
                }
            }
        }
        return found;
    }

    // ---- the PAIR to be asked next ----

    public int useful(int law, int k, int what) {
        Law by = lawWithKept(law, k);
        if (by == null || isOutside(what, 2)) {
            return NONE;
        }
        return what == 0 ? usefulPairs(by) : lowerBound(keptOnes.all);
    }

    public int next(int law, int k, int by, int what) {
        if (isOutside(by, 2) || isOutside(what, 5)) {
            return NONE;
        }
        Law read = lawWithKept(law, k);
        if (read == null) {
            return NONE;
        }
        int pair = pairs.best(read, keptOnes, by);
        if (pair == NONE) {
            return NO_SUCH;
        }
        int first = pairs.leftForFirst(read, keptOnes, pair);
        int second = pairs.leftForSecond(read, keptOnes, pair);
        return pairs.told(pair, what, Math.max(first, second), Math.min(first, second));
    }

    public int needed(int law, int k) {
        Law by = lawWithKept(law, k);
        if (by == null || keptOnes.all > NEEDED_WORLD_LIMIT) {
            return NONE;
        }
        // One of both LEFT has half of the WORLDS at least: three PAIRS are too few for more.
        if (keptOnes.all > SINGLED_LIMIT) {
            return NO_SUCH;
        }
        singling.clear(pairs.many);
        for (int w = 0; w < now.court.worlds(); w++) {
            if (at(falseIn, w) <= k) {
                singling.add(w, by, now.court, pairs);
            }
        }
        int few = singling.pairsForAll();
        return few > NEEDED_PAIR_LIMIT ? NO_SUCH : few;
    }

    public int steered(int law, int k, int world, int man, int what) {
        Law by = lawWithKept(law, k);
        if (by == null || isOutside(world, now.court.worlds()) || !now.court.has(MEN, man)
                || isOutside(what, 5)) {
            return NONE;
        }
        fillKept(fewerOnes, k, man);
        int best = NONE;
        int bestWith = 0;
        int bestLeft = 0;
        for (int pair = 0; pair < pairs.many; pair++) {
            int left = pairs.leftAsIn(by, keptOnes, pair, now.court, world);
            int with = pairs.leftAsIn(by, fewerOnes, pair, now.court, world);
            // with / left is greater than bestWith / bestLeft, without a division
            if (left > 0 && (best == NONE || with * bestLeft > bestWith * left)) {
                best = pair;
                bestWith = with;
                bestLeft = left;
            }
        }
        return best == NONE ? NO_SUCH : pairs.told(best, what, bestWith, bestLeft);
    }

    // ---- DRAWS ----

    public int seed(int x) {
        if (x < 0) {
            return NONE;
        }
        int before = now.x;
        now.x = x;
        return before;
    }

    public int trials(int law, int m, int what) {
        Law by = lawInUse(law);
        int worlds = now.court.worlds();
        if (by == null || worlds <= 0 || m < 1 || m > TRIAL_LIMIT || isOutside(what, 3)) {
            return NONE;
        }
        int x = now.x;
        int asked = 0;
        int found = 0;
        int left = 0;
        for (int i = 0; i < m; i++) {
            x = drawn(x);
            asked += trial(by, x / DRAW_DIVISOR % worlds);
            left += fewerOnes.all;
            if (fewerOnes.all == 1) {
                found++;
            }
        }
        switch (what) {
            case 0:
                return asked;
            case 1:
                return found;
            default:
                return left;
        }
    }

    // ---- VERDICTS, counts, IMAGES ----

    public int verdict(int world) {
        if (world == NONE) {
            now.verdicts = 0;
            return 0;
        }
        if (isOutside(world, now.court.worlds()) || now.verdicts >= VERDICT_LIMIT) {
            return NO_SUCH;
        }
        now.judge(world);
        return now.verdicts;
    }

    public int old(int law, int k, int verdict, int what) {
        Law by = lawInUse(law);
        if (by == null || isOutside(k, ANSWER_LIMIT + 1) || isOutside(verdict, now.verdicts)
                || isOutside(what, 3)) {
            return NONE;
        }
        int then = at(now.verdictAnswers, verdict);
        countFalse(by, then, NONE, NONE);
        int was = at(falseIn, at(now.verdictWorld, verdict)) <= k ? 1 : 0;
        switch (what) {
            case 0:
                return was;
            case 1:
                return worldsWithAtMost(k) - was;
            default:
                return then;
        }
    }

    public int count(int what) {
        switch (what) {
            case 0:
            case 1:
            case 2:
                return now.court.manyOf(what);
            case 3:
                return lawCount;
            case 4:
                return now.said;
            case 5:
                return now.struckOnes();
            case 6:
                return now.lookedAtOnes();
            case 7:
                return now.verdicts;
            case 8:
                return now.x;
            case 9:
                return tape.size;
            default:
                return NONE;
        }
    }

    public int image(int k) {
        if (isOutside(k, IMAGE_LIMIT) || images[k] == null) {
            return NONE;
        }
        images[k].becomes(now);
        imageMade[k] = true;
        return now.said;
    }

    public int back(int k) {
        if (isOutside(k, IMAGE_LIMIT) || !imageMade[k] || images[k] == null) {
            return NONE;
        }
        now.becomes(images[k]);
        courtIsAnother();
        return now.said;
    }

    // ---- what the calls have in common ----

    private static boolean isOutside(int i, int many) {
        return i < 0 || i >= many;
    }

    private static int at(int[] row, int i) {
        return i >= 0 && i < row.length ? row[i] : 0;
    }

    private static void set(int[] row, int i, int value) {
        if (i >= 0 && i < row.length) {
            row[i] = value;
        }
    }

    private static int slot(int kind, int thing) {
        return kind * THING_LIMIT + thing;
    }

    /** Both are not below 0. Fewer bits are less; of as many, the lesser number. */
    private static boolean isLesserSet(int set, int than) {
        int fewer = Integer.bitCount(set) - Integer.bitCount(than);
        return fewer < 0 || fewer == 0 && set < than;
    }

    private static int drawn(int x) {
        return (int) ((x * 1103515245L + 12345L) % DRAW_MODULUS);
    }

    private static int lowerBound(int worlds) {
        int n = 0;
        while (n < 30 && 1 << n < worlds) {
            n++;
        }
        return n;
    }

    private void courtIsAnother() {
        pairs.fill(now.court);
        for (int i = 0; i < laws.length; i++) {
            if (laws[i] != null) {
                laws[i].measured = false;
            }
        }
    }

    /** The LAW, ready to be asked about the COURT; null without one of both. */
    private Law lawInUse(int law) {
        if (!now.court.isTold() || isOutside(law, lawCount) || isOutside(law, LAW_LIMIT)) {
            return null;
        }
        Law by = laws[law];
        if (by != null && !by.measured) {
            by.measure(now.court);
        }
        return by;
    }

    /** As lawInUse, and keptOnes and falseIn tell of the KEPT WORLDS then; null for a wrong k, too. */
    private Law lawWithKept(int law, int k) {
        Law by = lawInUse(law);
        if (by == null || isOutside(k, ANSWER_LIMIT + 1)) {
            return null;
        }
        countFalse(by, now.first(), NONE, NONE);
        fillKept(keptOnes, k, NONE);
        return by;
    }

    /** The things of the ANSWER's KIND, as bits, by which it is TRUE. */
    private int nearThings(Law by, int answer) {
        return by.nearOf(at(now.kind, answer), at(now.one, answer), at(now.other, answer));
    }

    /** The things of all KINDS, as bits by their slots: an ANSWER is TRUE where all three are in. */
    private int trueThings(Law by, int answer) {
        int shift = slot(at(now.kind, answer), 0);
        return now.court.bitsOfAll() & ~(KIND_BITS << shift) | nearThings(by, answer) << shift;
    }

    private boolean isTrue(Law by, int answer, int world) {
        int thing = now.court.thingIn(world, at(now.kind, answer));
        return (nearThings(by, answer) >> thing & 1) == 1;
    }

    private static boolean hasWorld(int things) {
        return (things & KIND_BITS) != 0 && (things >> slot(ROADS, 0) & KIND_BITS) != 0
                && (things >> slot(MEN, 0) & KIND_BITS) != 0;
    }

    /**
     * Fills falseIn: for each WORLD the FALSE ones of the first ANSWERS that are not STRUCK, of one
     * witness (NONE: of all), without one of them (NONE: with all).
     */
    private void countFalse(Law by, int first, int witness, int without) {
        empty(falseAt);
        for (int i = 0; i < ANSWER_LIMIT; i++) {
            boolean isHis = witness == NONE || at(now.witness, i) == witness;
            if (now.isLookedAt(i, first) && isHis && i != without) {
                addFalse(at(now.kind, i), nearThings(by, i));
            }
        }
        int world = 0;
        for (int h = 0; h < now.court.manyOf(HOURS); h++) {
            for (int r = 0; r < now.court.manyOf(ROADS); r++) {
                int byBoth = at(falseAt, slot(HOURS, h)) + at(falseAt, slot(ROADS, r));
                for (int m = 0; m < now.court.manyOf(MEN); m++) {
                    set(falseIn, world, byBoth + at(falseAt, slot(MEN, m)));
                    world++;
                }
            }
        }
    }

    private void addFalse(int kind, int near) {
        for (int thing = 0; thing < now.court.manyOf(kind); thing++) {
            if ((near >> thing & 1) == 0) {
                set(falseAt, slot(kind, thing), at(falseAt, slot(kind, thing)) + 1);
            }
        }
    }

    private static void empty(int[] row) {
        for (int i = 0; i < row.length; i++) {
            row[i] = 0;
        }
    }

    /** The WORLDS with at most k FALSE (as falseIn tells), of one man (NONE: of all). */
    private void fillKept(Tally tally, int k, int man) {
        tally.clear();
        int world = 0;
        for (int h = 0; h < now.court.manyOf(HOURS); h++) {
            for (int r = 0; r < now.court.manyOf(ROADS); r++) {
                for (int m = 0; m < now.court.manyOf(MEN); m++) {
                    if (at(falseIn, world) <= k && (man == NONE || m == man)) {
                        tally.add(h, r, m);
                    }
                    world++;
                }
            }
        }
    }

    private int worldsWithAtMost(int k) {
        int found = 0;
        for (int w = 0; w < now.court.worlds(); w++) {
            if (at(falseIn, w) <= k) {
                found++;
            }
        }
        return found;
    }

    /** BEST; falseIn tells of all WORLDS then. */
    private int bestWorld(Law by) {
        countFalse(by, now.first(), NONE, NONE);
        int best = 0;
        for (int w = 1; w < now.court.worlds(); w++) {
            if (at(falseIn, w) < at(falseIn, best)) {
                best = w;
            }
        }
        return best;
    }

    /** Fills falseAt: for each thing the WITNESSES, as bits, of an ANSWER that is FALSE with it. */
    private void markLiars(Law by) {
        empty(falseAt);
        for (int i = 0; i < ANSWER_LIMIT; i++) {
            if (now.isLookedAt(i, now.first())) {
                int kind = at(now.kind, i);
                int near = nearThings(by, i);
                for (int thing = 0; thing < now.court.manyOf(kind); thing++) {
                    if ((near >> thing & 1) == 0) {
                        int marks = at(falseAt, slot(kind, thing)) | 1 << at(now.witness, i);
                        set(falseAt, slot(kind, thing), marks);
                    }
                }
            }
        }
    }

    /** Fills proofThings with the first ANSWERS that are LOOKED AT; how many these are. */
    private int gatherProof(Law by) {
        int many = 0;
        for (int i = 0; i < ANSWER_LIMIT && many < PROOF_LIMIT; i++) {
            if (now.isLookedAt(i, now.first())) {
                set(proofThings, many, trueThings(by, i));
                many++;
            }
        }
        return many;
    }

    private boolean provesMan(int set, int many, int man) {
        int things = now.court.bitsOfAll();
        for (int i = 0; i < many; i++) {
            if ((set >> i & 1) == 1) {
                things &= at(proofThings, i);
            }
        }
        return hasWorld(things) && things >> slot(MEN, 0) == 1 << man;
    }

    /** Fills keptBy: for each WORLD, by how many LAWS of the set it is KEPT. */
    private void countKeptBy(int set, int k) {
        empty(keptBy);
        for (int i = 0; i < lawCount; i++) {
            Law by = (set >> i & 1) == 1 ? lawInUse(i) : null;
            if (by != null) {
                countFalse(by, now.first(), NONE, NONE);
                for (int w = 0; w < now.court.worlds(); w++) {
                    set(keptBy, w, at(keptBy, w) + (at(falseIn, w) <= k ? 1 : 0));
                }
            }
        }
    }

    private int usefulPairs(Law by) {
        int found = 0;
        for (int pair = 0; pair < pairs.many; pair++) {
            if (pairs.leftForFirst(by, keptOnes, pair) < keptOnes.all
                    && pairs.leftForSecond(by, keptOnes, pair) < keptOnes.all) {
                found++;
            }
        }
        return found;
    }

    /** How many PAIRS are asked in one of the TRIALS; fewerOnes tells of the WORLDS left then. */
    private int trial(Law by, int world) {
        fewerOnes.fillWith(now.court.bitsOfAll());
        int asked = 0;
        while (asked < TRIAL_PAIR_LIMIT && fewerOnes.all > 1) {
            int pair = pairs.best(by, fewerOnes, AT_WORST);
            if (pair == NONE || pairs.greaterLeft(by, fewerOnes, pair) >= fewerOnes.all) {
                return asked;
            }
            int kind = at(pairs.kind, pair);
            fewerOnes.keepOnly(kind, pairs.nearAsIn(by, pair, now.court, world));
            asked++;
        }
        return asked;
    }

    /** The TAPE: bytes to be read as a COURT or a LAW. */
    private static final class Tape {
        private final byte[] bytes = new byte[TAPE_LIMIT];
        private int size;

        private void putNumber(int number) {
            for (int shift = 24; shift >= 0; shift -= 8) {
                if (!isOutside(size, bytes.length)) {
                    bytes[size] = (byte) (number >> shift);
                    size++;
                }
            }
        }

        /** 0, which stands in no text, where the TAPE has none. */
        private int byteAt(int i) {
            return isOutside(i, size) || isOutside(i, bytes.length) ? 0 : bytes[i] & 255;
        }

        private boolean isBetween(int i, char least, char most) {
            int found = byteAt(i);
            return found >= least && found <= most;
        }

        private boolean spells(int from, int to, String word) {
            if (to - from != word.length()) {
                return false;
            }
            for (int i = 0; i < word.length(); i++) {
                if (byteAt(from + i) != word.charAt(i)) {
                    return false;
                }
            }
            return true;
        }
    }

    /** A text cut into its signs, WORDS and NUMBERS, read along from one to the next. */
    private static final class Text {
        private final int[] signs = new int[TAPE_LIMIT + 1];
        private final int[] places = new int[TAPE_LIMIT + 1];
        private final int[] numbers = new int[TAPE_LIMIT + 1];
        private int size;
        private int here;
        private int fault;

        private void cut(Tape tape) {
            size = 0;
            here = 0;
            fault = 0;
            int from = 0;
            for (int i = 0; i < TAPE_LIMIT && from < tape.size; i++) {
                from = cutOne(tape, from);
            }
            put(SIGN_END, tape.size, 0);
        }

        private void put(int sign, int place, int number) {
            if (!isOutside(size, TAPE_LIMIT + 1)) {
                signs[size] = sign;
                places[size] = place;
                numbers[size] = number;
                size++;
            }
        }

        /** Cuts what begins there; where the next begins. */
        private int cutOne(Tape tape, int from) {
            if (tape.byteAt(from) == ' ') {
                return from + 1;
            }
            if (tape.isBetween(from, 'a', 'z')) {
                int to = endOf(tape, from, 'a', 'z');
                put(wordSign(tape, from, to), from, 0);
                return to;
            }
            if (tape.isBetween(from, '0', '9')) {
                int to = endOf(tape, from, '0', '9');
                put(SIGN_NUMBER, from, numberAt(tape, from, to));
                return to;
            }
            int sign = byteSign(tape.byteAt(from), tape.byteAt(from + 1) == '=');
            put(sign, from, 0);
            return sign == SIGN_AT_MOST || sign == SIGN_AT_LEAST ? from + 2 : from + 1;
        }

        private static int endOf(Tape tape, int from, char least, char most) {
            int to = from + 1;
            while (to < TAPE_LIMIT && tape.isBetween(to, least, most)) {
                to++;
            }
            return to;
        }

        /** NONE for a NUMBER of too many digits: it is nowhere as told. */
        private static int numberAt(Tape tape, int from, int to) {
            if (to - from > DIGIT_LIMIT) {
                return NONE;
            }
            int number = 0;
            for (int i = from; i < to; i++) {
                number = number * 10 + tape.byteAt(i) - '0';
            }
            return number;
        }

        private static int byteSign(int found, boolean isBeforeEqual) {
            switch (found) {
                case ';':
                    return SIGN_SEMICOLON;
                case '[':
                    return SIGN_OPEN;
                case ']':
                    return SIGN_SHUT;
                case '+':
                    return SIGN_PLUS;
                case '-':
                    return SIGN_MINUS;
                case '*':
                    return SIGN_TIMES;
                case '/':
                    return SIGN_OVER;
                case '<':
                    return isBeforeEqual ? SIGN_AT_MOST : SIGN_LESS;
                case '=':
                    return SIGN_EQUAL;
                case '>':
                    return isBeforeEqual ? SIGN_AT_LEAST : SIGN_GREATER;
                default:
                    return SIGN_STRANGE;
            }
        }

        private static int wordSign(Tape tape, int from, int to) {
            if (tape.spells(from, to, "hours")) {
                return WORD_HOURS;
            }
            if (tape.spells(from, to, "hour")) {
                return WORD_HOUR;
            }
            if (tape.spells(from, to, "road")) {
                return WORD_ROAD;
            }
            if (tape.spells(from, to, "man")) {
                return WORD_MAN;
            }
            if (tape.spells(from, to, "if")) {
                return WORD_IF;
            }
            if (tape.spells(from, to, "or")) {
                return WORD_OR;
            }
            if (tape.spells(from, to, "and")) {
                return WORD_AND;
            }
            if (tape.spells(from, to, "not")) {
                return WORD_NOT;
            }
            return valueWordSign(tape, from, to);
        }

        private static int valueWordSign(Tape tape, int from, int to) {
            if (tape.spells(from, to, "asked")) {
                return WORD_ASKED;
            }
            if (tape.spells(from, to, "seen")) {
                return WORD_SEEN;
            }
            if (tape.spells(from, to, "apart")) {
                return WORD_APART;
            }
            if (tape.spells(from, to, "dx")) {
                return WORD_DX;
            }
            if (tape.spells(from, to, "dy")) {
                return WORD_DY;
            }
            if (tape.spells(from, to, "years")) {
                return WORD_YEARS;
            }
            if (tape.spells(from, to, "dyears")) {
                return WORD_DYEARS;
            }
            if (tape.spells(from, to, "kin")) {
                return WORD_KIN;
            }
            return SIGN_STRANGE;
        }

        private int sign() {
            return at(signs, here);
        }

        private int number() {
            return at(numbers, here);
        }

        private void skip() {
            if (here < size - 1) {
                here++;
            }
        }

        private boolean take(int sign) {
            if (at(signs, here) != sign) {
                return false;
            }
            skip();
            return true;
        }

        /** The first fault is told. Reading goes on at the end, where nothing more can be taken. */
        private void fail(int code) {
            if (fault == 0) {
                fault = 1 + 8 * at(places, here) + code;
            }
            here = size - 1;
        }

        private int takeNumber(int least, int most) {
            int found = at(numbers, here);
            if (at(signs, here) != SIGN_NUMBER) {
                fail(FAULT_CANNOT_STAND);
            } else if (found < least || found > most) {
                fail(FAULT_NUMBER);
            } else {
                skip();
            }
            return found;
        }
    }

    /** Reads a text as a COURT. */
    private static final class CourtReader {
        private boolean hoursTold;

        /** The COURT is whole, if the text has no fault then. */
        private void read(Text text, Court court) {
            court.clear();
            hoursTold = false;
            boolean more = true;
            for (int i = 0; i < TAPE_LIMIT && more; i++) {
                readClause(text, court);
                more = text.take(SIGN_SEMICOLON);
            }
            if (text.sign() != SIGN_END || !court.isTold()) {
                text.fail(FAULT_CANNOT_STAND);
            }
        }

        private void readClause(Text text, Court court) {
            int word = text.sign();
            int kind = kindOf(word);
            if (kind == NONE) {
                text.fail(FAULT_CANNOT_STAND);
                return;
            }
            // 24 CLAUSES are never reached: 17 tell of all that there may be.
            boolean isFull = kind == HOURS ? hoursTold : court.manyOf(kind) >= THING_LIMIT;
            if (isFull) {
                text.fail(FAULT_CLAUSE);
                return;
            }
            text.skip();
            if (kind == HOURS) {
                court.setHours(text.takeNumber(1, THING_LIMIT));
                hoursTold = true;
            } else {
                int first = text.takeNumber(0, 99);
                court.add(kind, first, text.takeNumber(0, kind == ROADS ? 99 : 9));
            }
        }

        private static int kindOf(int word) {
            switch (word) {
                case WORD_HOURS:
                    return HOURS;
                case WORD_ROAD:
                    return ROADS;
                case WORD_MAN:
                    return MEN;
                default:
                    return NONE;
            }
        }
    }

    /** Reads a text as a LAW. */
    private static final class LawReader {
        private int counted;

        /** The LAW is whole, if the text has no fault then. */
        private void read(Text text, Law law) {
            counted = 0;
            law.clear();
            boolean more = true;
            for (int i = 0; i < TAPE_LIMIT && more; i++) {
                int kind = kindOf(text.sign());
                if (kind == NONE) {
                    text.fail(FAULT_CANNOT_STAND);
                } else if (law.clauses >= LAW_CLAUSE_LIMIT) {
                    text.fail(FAULT_CLAUSE);
                }
                // Behind a fault there is the end alone, and nothing of what follows can be taken.
                text.skip();
                int start = law.size;
                readSum(text, law);
                int middle = law.size;
                if (text.take(WORD_IF)) {
                    readTest(text, law, 0);
                }
                law.addClause(kind, start, middle);
                more = text.take(SIGN_SEMICOLON);
            }
            if (text.sign() != SIGN_END) {
                text.fail(FAULT_CANNOT_STAND);
            }
        }

        private static int kindOf(int word) {
            switch (word) {
                case WORD_HOUR:
                    return HOURS;
                case WORD_ROAD:
                    return ROADS;
                case WORD_MAN:
                    return MEN;
                default:
                    return NONE;
            }
        }

        private void readTest(Text text, Law law, int depth) {
            boolean orWaits = false;
            readFact(text, law, depth);
            for (int i = 0; i < TAPE_LIMIT; i++) {
                if (text.take(WORD_AND)) {
                    readFact(text, law, depth);
                    law.put(WORD_AND);
                } else if (text.take(WORD_OR)) {
                    if (orWaits) {
                        law.put(WORD_OR);
                    }
                    orWaits = true;
                    readFact(text, law, depth);
                } else {
                    break;
                }
            }
            if (orWaits) {
                law.put(WORD_OR);
            }
        }

        private void readFact(Text text, Law law, int depth) {
            int opener = text.sign();
            boolean opens = opener == WORD_NOT || opener == SIGN_OPEN;
            if (opens && depth >= DEPTH_LIMIT) {
                text.fail(FAULT_DEPTH);
            } else if (text.take(WORD_NOT)) {
                readFact(text, law, depth + 1);
                law.put(WORD_NOT);
            } else if (text.take(SIGN_OPEN)) {
                readTest(text, law, depth + 1);
                if (!text.take(SIGN_SHUT)) {
                    text.fail(FAULT_CANNOT_STAND);
                }
            } else {
                readSum(text, law);
                int sign = text.sign();
                if (sign < SIGN_LESS || sign > SIGN_GREATER) {
                    text.fail(FAULT_CANNOT_STAND);
                } else if (counted >= COUNTED_LIMIT) {
                    text.fail(FAULT_COUNTED);
                }
                counted++;
                text.skip();
                readSum(text, law);
                law.put(sign);
            }
        }

        private void readSum(Text text, Law law) {
            int waiting = SIGN_END;
            readValue(text, law);
            for (int i = 0; i < TAPE_LIMIT; i++) {
                int sign = text.sign();
                if (sign < SIGN_PLUS || sign > SIGN_OVER) {
                    break;
                }
                text.skip();
                if (sign == SIGN_TIMES || sign == SIGN_OVER) {
                    readValue(text, law);
                    law.put(sign);
                } else {
                    law.put(waiting);
                    waiting = sign;
                    readValue(text, law);
                }
            }
            law.put(waiting);
        }

        private void readValue(Text text, Law law) {
            int sign = text.sign();
            boolean isNumber = sign == SIGN_NUMBER;
            if (!isNumber && (sign < WORD_ASKED || sign > WORD_KIN)) {
                text.fail(FAULT_CANNOT_STAND);
            } else if (isNumber && isOutside(text.number(), NUMBER_MOST + 1)) {
                text.fail(FAULT_NUMBER);
            } else if (counted >= COUNTED_LIMIT) {
                text.fail(FAULT_COUNTED);
            } else {
                counted++;
                law.put(isNumber ? NUMBERS + text.number() : sign);
                text.skip();
            }
        }
    }

    /** HOURS, ROADS and MEN. */
    private static final class Court {
        private final int[] many = new int[KINDS];
        private final int[] first = new int[THING_SLOTS];
        private final int[] second = new int[THING_SLOTS];

        /** One HOUR, no ROAD, no MAN. */
        private void clear() {
            many[HOURS] = 1;
            many[ROADS] = 0;
            many[MEN] = 0;
        }

        private void setHours(int hours) {
            many[HOURS] = isOutside(hours, THING_LIMIT + 1) ? 1 : hours;
        }

        private void add(int kind, int one, int two) {
            int thing = manyOf(kind);
            if (thing < THING_LIMIT) {
                set(first, slot(kind, thing), one);
                set(second, slot(kind, thing), two);
                set(many, kind, thing + 1);
            }
        }

        private void becomes(Court like) {
            System.arraycopy(like.many, 0, many, 0, KINDS);
            System.arraycopy(like.first, 0, first, 0, THING_SLOTS);
            System.arraycopy(like.second, 0, second, 0, THING_SLOTS);
        }

        private boolean isTold() {
            return many[ROADS] > 0 && many[MEN] > 0;
        }

        private int worlds() {
            return many[HOURS] * many[ROADS] * many[MEN];
        }

        private int manyOf(int kind) {
            return at(many, kind);
        }

        private boolean has(int kind, int thing) {
            return !isOutside(kind, KINDS) && !isOutside(thing, many[kind]);
        }

        /** Of a ROAD x, of a MAN years. */
        private int firstOf(int kind, int thing) {
            return at(first, slot(kind, thing));
        }

        /** Of a ROAD y, of a MAN kin. */
        private int secondOf(int kind, int thing) {
            return at(second, slot(kind, thing));
        }

        private int bitsOf(int kind) {
            return (1 << manyOf(kind)) - 1;
        }

        /** The things of all KINDS, as bits by their slots. */
        private int bitsOfAll() {
            return bitsOf(HOURS) | bitsOf(ROADS) << slot(ROADS, 0) | bitsOf(MEN) << slot(MEN, 0);
        }

        private int thingIn(int world, int kind) {
            int men = many[MEN];
            int roads = many[ROADS];
            if (men <= 0 || roads <= 0) {
                return 0;
            }
            switch (kind) {
                case HOURS:
                    return world / men / roads;
                case ROADS:
                    return world / men % roads;
                default:
                    return world % men;
            }
        }
    }

    /** What is FAR by a LAW, and what is nearer by it. */
    private static final class Law {
        private final int[] code = new int[TAPE_LIMIT];
        private int size;
        private final int[] clauseKind = new int[LAW_CLAUSE_LIMIT];
        private final int[] sumFrom = new int[LAW_CLAUSE_LIMIT];
        private final int[] testFrom = new int[LAW_CLAUSE_LIMIT];
        private final int[] testTo = new int[LAW_CLAUSE_LIMIT];
        private int clauses;
        private final long[] words = new long[VALUE_WORDS];
        private final long[] stack = new long[COUNTED_LIMIT + 1];
        private int top;
        // For the COURT as it is, while measured; FAR by asked and seen, near by one and other.
        private final long[] fars = new long[THING_SLOTS * THING_LIMIT];
        private final int[] nears = new int[THING_SLOTS * THING_LIMIT];
        private boolean measured;

        private void clear() {
            size = 0;
            clauses = 0;
            measured = false;
        }

        /** Nothing is put for SIGN_END. */
        private void put(int op) {
            if (op != SIGN_END && size >= 0 && size < code.length) {
                code[size] = op;
                size++;
            }
        }

        /** A CLAUSE whose SUM's code begins at from, its TEST's in the middle. */
        private void addClause(int kind, int from, int middle) {
            if (!isOutside(clauses, LAW_CLAUSE_LIMIT)) {
                clauseKind[clauses] = kind;
                sumFrom[clauses] = from;
                testFrom[clauses] = middle;
                testTo[clauses] = size;
                clauses++;
            }
        }

        private static int cell(int kind, int one, int other) {
            return slot(kind, one) * THING_LIMIT + other;
        }

        private long farOf(int kind, int asked, int seen) {
            int cell = cell(kind, asked, seen);
            return isOutside(cell, fars.length) ? 0 : fars[cell];
        }

        /** The things, as bits, from which the one is not FARTHER than the other one. */
        private int nearOf(int kind, int one, int other) {
            return at(nears, cell(kind, one, other));
        }

        private void measure(Court court) {
            for (int kind = 0; kind < KINDS; kind++) {
                measureFar(court, kind);
                measureNear(court, kind);
            }
            measured = true;
        }

        private void measureFar(Court court, int kind) {
            for (int asked = 0; asked < court.manyOf(kind); asked++) {
                for (int seen = 0; seen < court.manyOf(kind); seen++) {
                    setWords(court, kind, asked, seen);
                    int cell = cell(kind, asked, seen);
                    if (!isOutside(cell, fars.length)) {
                        fars[cell] = farByClauses(kind);
                    }
                }
            }
        }

        private void measureNear(Court court, int kind) {
            int many = court.manyOf(kind);
            for (int one = 0; one < many; one++) {
                for (int other = 0; other < many; other++) {
                    int near = 0;
                    for (int seen = 0; seen < many; seen++) {
                        if (farOf(kind, one, seen) <= farOf(kind, other, seen)) {
                            near |= 1 << seen;
                        }
                    }
                    set(nears, cell(kind, one, other), near);
                }
            }
        }

        private void setWords(Court court, int kind, int asked, int seen) {
            int first = Math.abs(court.firstOf(kind, asked) - court.firstOf(kind, seen));
            int second = Math.abs(court.secondOf(kind, asked) - court.secondOf(kind, seen));
            boolean isRoad = kind == ROADS;
            boolean isMan = kind == MEN;
            setWord(WORD_ASKED, asked);
            setWord(WORD_SEEN, seen);
            setWord(WORD_APART, Math.abs(asked - seen));
            setWord(WORD_DX, isRoad ? first : 0);
            setWord(WORD_DY, isRoad ? second : 0);
            setWord(WORD_YEARS, isMan ? court.firstOf(kind, asked) : 0);
            setWord(WORD_DYEARS, isMan ? first : 0);
            setWord(WORD_KIN, isMan && second == 0 ? 1 : 0);
        }

        private void setWord(int word, int value) {
            int i = word - WORD_ASKED;
            if (i >= 0 && i < words.length) {
                words[i] = value;
            }
        }

        private long wordOf(int word) {
            int i = word - WORD_ASKED;
            return i >= 0 && i < words.length ? words[i] : 0;
        }

        private long farByClauses(int kind) {
            for (int i = 0; i < clauses && i < LAW_CLAUSE_LIMIT; i++) {
                boolean hasTest = testFrom[i] < testTo[i];
                if (clauseKind[i] == kind && (!hasTest || run(testFrom[i], testTo[i]) != 0)) {
                    return run(sumFrom[i], testFrom[i]);
                }
            }
            return wordOf(WORD_APART);
        }

        /** What a part of the code leaves on the stack; of a TEST 1 if it holds, else 0. */
        private long run(int from, int to) {
            top = 0;
            for (int i = from; i < to; i++) {
                int op = at(code, i);
                if (op >= NUMBERS) {
                    push(op - NUMBERS);
                } else if (op >= WORD_ASKED) {
                    push(wordOf(op));
                } else if (op == WORD_NOT) {
                    push(1 - pop());
                } else {
                    long right = pop();
                    push(joined(op, pop(), right));
                }
            }
            return pop();
        }

        private void push(long value) {
            if (top >= 0 && top < stack.length) {
                stack[top] = value;
                top++;
            }
        }

        private long pop() {
            if (top < 1 || top > stack.length) {
                return 0;
            }
            top--;
            return stack[top];
        }

        private static long joined(int op, long left, long right) {
            switch (op) {
                case SIGN_PLUS:
                    return left + right;
                case SIGN_MINUS:
                    return left - right;
                case SIGN_TIMES:
                    return left * right;
                case SIGN_OVER:
                    return right == 0 ? 0 : left / right;
                case SIGN_LESS:
                    return left < right ? 1 : 0;
                case SIGN_AT_MOST:
                    return left <= right ? 1 : 0;
                case SIGN_EQUAL:
                    return left == right ? 1 : 0;
                case SIGN_AT_LEAST:
                    return left >= right ? 1 : 0;
                case SIGN_GREATER:
                    return left > right ? 1 : 0;
                case WORD_AND:
                    return left & right;
                default:
                    return left | right;
            }
        }
    }

    /** All that an IMAGE has: the COURT, ANSWERS, VERDICTS and x. */
    private static final class Hearing {
        private final Court court = new Court();
        private final int[] witness = new int[ANSWER_LIMIT];
        private final int[] kind = new int[ANSWER_LIMIT];
        private final int[] one = new int[ANSWER_LIMIT];
        private final int[] other = new int[ANSWER_LIMIT];
        private final boolean[] struck = new boolean[ANSWER_LIMIT];
        private int said;
        private int limit = NONE;
        private final int[] verdictWorld = new int[VERDICT_LIMIT];
        private final int[] verdictAnswers = new int[VERDICT_LIMIT];
        private int verdicts;
        private int x;

        private void open(Court told) {
            court.becomes(told);
            said = 0;
            limit = NONE;
            verdicts = 0;
        }

        private void becomes(Hearing like) {
            court.becomes(like.court);
            System.arraycopy(like.witness, 0, witness, 0, ANSWER_LIMIT);
            System.arraycopy(like.kind, 0, kind, 0, ANSWER_LIMIT);
            System.arraycopy(like.one, 0, one, 0, ANSWER_LIMIT);
            System.arraycopy(like.other, 0, other, 0, ANSWER_LIMIT);
            for (int i = 0; i < ANSWER_LIMIT; i++) {
                struck[i] = like.struck[i];
            }
            said = like.said;
            limit = like.limit;
            System.arraycopy(like.verdictWorld, 0, verdictWorld, 0, VERDICT_LIMIT);
            System.arraycopy(like.verdictAnswers, 0, verdictAnswers, 0, VERDICT_LIMIT);
            verdicts = like.verdicts;
            x = like.x;
        }

        private int mayStillGive(int who) {
            int his = 0;
            for (int i = 0; i < said; i++) {
                if (at(witness, i) == who) {
                    his++;
                }
            }
            return Math.min(WITNESS_ANSWER_LIMIT - his, ANSWER_LIMIT - said);
        }

        private int takeDown(int who, int ofKind, int nearer, int farther) {
            if (isOutside(said, ANSWER_LIMIT)) {
                return NONE;
            }
            witness[said] = who;
            kind[said] = ofKind;
            one[said] = nearer;
            other[said] = farther;
            struck[said] = false;
            said++;
            return said - 1;
        }

        private boolean hasAnswer(int answer) {
            return !isOutside(answer, said);
        }

        private boolean isStruck(int answer) {
            return !isOutside(answer, ANSWER_LIMIT) && struck[answer];
        }

        private void setStruck(int answer, boolean is) {
            if (!isOutside(answer, ANSWER_LIMIT)) {
                struck[answer] = is;
            }
        }

        /** Of how many ANSWERS, from the first on, those that are not STRUCK are LOOKED AT. */
        private int first() {
            return limit == NONE ? said : Math.min(limit, said);
        }

        private boolean isLookedAt(int answer, int first) {
            return answer < first && hasAnswer(answer) && !isStruck(answer);
        }

        private int struckOnes() {
            int found = 0;
            for (int i = 0; i < said; i++) {
                if (isStruck(i)) {
                    found++;
                }
            }
            return found;
        }

        private int lookedAtOnes() {
            int found = 0;
            for (int i = 0; i < said; i++) {
                if (isLookedAt(i, first())) {
                    found++;
                }
            }
            return found;
        }

        private void judge(int world) {
            if (!isOutside(verdicts, VERDICT_LIMIT)) {
                verdictWorld[verdicts] = world;
                verdictAnswers[verdicts] = said;
                verdicts++;
            }
        }
    }

    /** Some WORLDS, counted by each of the things that they have. */
    private static final class Tally {
        private final int[] counts = new int[THING_SLOTS];
        private int all;

        private void clear() {
            empty(counts);
            all = 0;
        }

        private void add(int hour, int road, int man) {
            addOne(slot(HOURS, hour));
            addOne(slot(ROADS, road));
            addOne(slot(MEN, man));
            all++;
        }

        private void addOne(int i) {
            set(counts, i, at(counts, i) + 1);
        }

        private int with(int kind, int thing) {
            return at(counts, slot(kind, thing));
        }

        private int withAny(int kind, int things) {
            int sum = 0;
            for (int thing = 0; thing < THING_LIMIT; thing++) {
                if ((things >> thing & 1) == 1) {
                    sum += with(kind, thing);
                }
            }
            return sum;
        }

        /** The things of a KIND that some of the WORLDS have, as bits. */
        private int thingsOf(int kind) {
            int things = 0;
            for (int thing = 0; thing < THING_LIMIT; thing++) {
                if (with(kind, thing) > 0) {
                    things |= 1 << thing;
                }
            }
            return things;
        }

        /** All WORLDS of these things (bits by their slots). */
        private void fillWith(int things) {
            int hours = Integer.bitCount(things & KIND_BITS);
            int roads = Integer.bitCount(things >> slot(ROADS, 0) & KIND_BITS);
            int men = Integer.bitCount(things >> slot(MEN, 0) & KIND_BITS);
            all = hours * roads * men;
            for (int i = 0; i < THING_SLOTS; i++) {
                boolean isIn = (things >> i & 1) == 1;
                int others = i < slot(ROADS, 0) ? roads * men : hours * men;
                if (i >= slot(MEN, 0)) {
                    others = hours * roads;
                }
                counts[i] = isIn ? others : 0;
            }
        }

        /** Behind fillWith: only the WORLDS with one of these things of a KIND stay. */
        private void keepOnly(int kind, int things) {
            int stay = 0;
            for (int each = 0; each < KINDS; each++) {
                int those = each == kind ? thingsOf(each) & things : thingsOf(each);
                stay |= those << slot(each, 0);
            }
            fillWith(stay);
        }
    }

    /** The PAIRS of the COURT, in order. */
    private static final class Pairs {
        private final int[] kind = new int[PAIR_LIMIT];
        private final int[] one = new int[PAIR_LIMIT];
        private final int[] other = new int[PAIR_LIMIT];
        private int many;

        private void fill(Court court) {
            many = 0;
            for (int of = 0; of < KINDS; of++) {
                for (int a = 0; a < court.manyOf(of); a++) {
                    for (int b = a + 1; b < court.manyOf(of); b++) {
                        add(of, a, b);
                    }
                }
            }
        }

        private void add(int of, int a, int b) {
            if (!isOutside(many, PAIR_LIMIT)) {
                kind[many] = of;
                one[many] = a;
                other[many] = b;
                many++;
            }
        }

        private int nearForFirst(Law by, int pair) {
            return by.nearOf(at(kind, pair), at(one, pair), at(other, pair));
        }

        private int nearForSecond(Law by, int pair) {
            return by.nearOf(at(kind, pair), at(other, pair), at(one, pair));
        }

        private int leftForFirst(Law by, Tally of, int pair) {
            return of.withAny(at(kind, pair), nearForFirst(by, pair));
        }

        private int leftForSecond(Law by, Tally of, int pair) {
            return of.withAny(at(kind, pair), nearForSecond(by, pair));
        }

        private int greaterLeft(Law by, Tally of, int pair) {
            return Math.max(leftForFirst(by, of, pair), leftForSecond(by, of, pair));
        }

        /** The things, as bits, that agree with what is nearer in a WORLD: the first, if both are. */
        private int nearAsIn(Law by, int pair, Court court, int world) {
            int near = nearForFirst(by, pair);
            int thing = court.thingIn(world, at(kind, pair));
            return (near >> thing & 1) == 1 ? near : nearForSecond(by, pair);
        }

        private int leftAsIn(Law by, Tally of, int pair, Court court, int world) {
            return of.withAny(at(kind, pair), nearAsIn(by, pair, court, world));
        }

        /** NEXT, at worst or on the mean; NONE without PAIRS. */
        private int best(Law by, Tally of, int how) {
            int best = NONE;
            int least = 0;
            for (int pair = 0; pair < many; pair++) {
                int first = leftForFirst(by, of, pair);
                int second = leftForSecond(by, of, pair);
                int cost = how == AT_WORST ? Math.max(first, second) : first * first + second * second;
                if (best == NONE || cost < least) {
                    best = pair;
                    least = cost;
                }
            }
            return best;
        }

        /** What 0 to 2 of a PAIR; 3 and 4 are as given. */
        private int told(int pair, int what, int third, int fourth) {
            switch (what) {
                case 0:
                    return at(kind, pair);
                case 1:
                    return at(one, pair);
                case 2:
                    return at(other, pair);
                case 3:
                    return third;
                default:
                    return fourth;
            }
        }
    }

    /** How many PAIRS must be asked till one of a few WORLDS is left. Sets of these are bits. */
    private static final class Singling {
        private final int[] leftForFirst = new int[PAIR_LIMIT];
        private final int[] leftForSecond = new int[PAIR_LIMIT];
        private final int[] pairsFor = new int[1 << SINGLED_LIMIT];
        private int pairCount;
        private int worldCount;

        private void clear(int ofPairs) {
            empty(leftForFirst);
            empty(leftForSecond);
            pairCount = Math.min(ofPairs, PAIR_LIMIT);
            worldCount = 0;
        }

        private void add(int world, Law by, Court court, Pairs pairs) {
            if (worldCount >= SINGLED_LIMIT) {
                return;
            }
            for (int pair = 0; pair < pairCount && pair < PAIR_LIMIT; pair++) {
                int thing = court.thingIn(world, at(pairs.kind, pair));
                leftForFirst[pair] |= (pairs.nearForFirst(by, pair) >> thing & 1) << worldCount;
                leftForSecond[pair] |= (pairs.nearForSecond(by, pair) >> thing & 1) << worldCount;
            }
            worldCount++;
        }

        /** More than any that are asked, if they are never enough. */
        private int pairsForAll() {
            int full = (1 << worldCount) - 1;
            for (int set = 0; set <= full && set < pairsFor.length; set++) {
                pairsFor[set] = fewestFor(set);
            }
            return at(pairsFor, full);
        }

        /** Lesser sets are known: what is left of a set is a part of it. */
        private int fewestFor(int set) {
            if (Integer.bitCount(set) <= 1) {
                return 0;
            }
            int few = NEEDED_PAIR_LIMIT + 1;
            for (int pair = 0; pair < pairCount && pair < PAIR_LIMIT; pair++) {
                int first = set & leftForFirst[pair];
                int second = set & leftForSecond[pair];
                if (first != set && second != set) {
                    few = Math.min(few, 1 + Math.max(at(pairsFor, first), at(pairsFor, second)));
                }
            }
            return few;
        }
    }
}
