/**
 * Each sentence of part III of the "Terms" on PAIRS and DRAWS, and of promises 28, 30 to 32, 34 and
 * 35, that names a boundary case, by answers that were worked out by hand. What a test is called
 * tells the sentence.
 */
public final class PairEdges {
    private static final int NONE = WarmerColder.NONE;
    private static final int MAX = Integer.MAX_VALUE;

    private PairEdges() {
    }

    public static void main(String[] args) {
        leftForBoth();
        nextFirstOfSeveral();
        nextOfKept();
        nextWithoutPair();
        useful();
        lowerBound();
        neededUpToThree();
        neededOfKept();
        neededWorlds();
        steeredGreatestPart();
        steeredBothAsFar();
        steeredNone();
        seed();
        trialsDraws();
        trialsTimes();
        trialsOneLeft();
        trialsNine();
        trialsNotAsked();
        trialsOfAllWorlds();
        Due.end("PairEdges");
    }

    /** All that is told of NEXT: KIND, the first, the second, the greater LEFT, the lesser one. */
    private static void next(String call, WarmerColder x, int k, int by, int... want) {
        for (int what = 0; what < want.length; what++) {
            Due.is("30 " + call + ", what " + what, x.next(0, k, by, what), want[what]);
        }
    }

    /** All that is told of STEERED: KIND, the first, the second, left with the MAN, left in all. */
    private static void steered(String call, WarmerColder x, int world, int man, int... want) {
        for (int what = 0; what < 5; what++) {
            Due.is("32 " + call + ", what " + what, x.steered(0, 0, world, man, what), want[want.length == 1 ? 0 : what]);
        }
    }

    /** All that is told of TRIALS: PAIRS asked, how often just the true one, WORLDS left. */
    private static void trials(String call, WarmerColder x, int m, int... want) {
        for (int what = 0; what < 3; what++) {
            Due.is("35 " + call + ", what " + what, x.trials(0, m, what), want[what]);
        }
    }

    /** "LEFT ... not FARTHER ... (WORLDS with both as FAR are in both)" */
    private static void leftForBoth() {
        // HOURS 0 and 1 alone are near; both as FAR from all others.
        WarmerColder x = Courts.of(Courts.many(5, 1, 1), "hour 0 if asked=seen and seen<2;hour 1");
        next("two and three of both", x, 0, 0, 0, 0, 1, 4, 4);
        next("two and three of both, on the mean", x, 0, 1, 0, 0, 1, 4, 4);
        Due.is("28 one PAIR, the others leave all", x.useful(0, 0, 0), 1);
        x = Courts.of(Courts.many(5, 1, 1), "hour 1");
        next("all are in both", x, 0, 0, 0, 0, 1, 5, 5);
        x = Courts.of(Courts.many(5, 1, 1), Courts.GREATER);
        next("all are in one", x, 0, 0, 0, 0, 1, 5, 0);
        next("all are in one, on the mean", x, 0, 1, 0, 0, 1, 5, 0);
    }

    /** "of several the first (by KIND, then the first, then the second)" */
    private static void nextFirstOfSeveral() {
        for (int by = 0; by < 2; by++) {
            next("all alike", Courts.of(Courts.many(3, 3, 3), Courts.SAME), 0, by, 0, 0, 1, 18, 18);
            next("no HOURS", Courts.of(Courts.many(1, 3, 3), Courts.SAME), 0, by, 1, 0, 1, 6, 6);
            next("MEN alone", Courts.of(Courts.many(1, 1, 3), Courts.SAME), 0, by, 2, 0, 1, 2, 2);
            // A later KIND that halves goes ahead of HOURS that leave two thirds.
            next("ROADS halve", Courts.of(Courts.many(3, 2, 3), Courts.SAME), 0, by, 1, 0, 1, 9, 9);
            next("MEN halve", Courts.of(Courts.many(3, 3, 2), Courts.SAME), 0, by, 2, 0, 1, 9, 9);
            next("both halve", Courts.of(Courts.many(3, 2, 2), Courts.SAME), 0, by, 1, 0, 1, 6, 6);
            // (0, 3) and (1, 2) halve four on a line: the lesser first goes ahead.
            next("then the first", Courts.of(Courts.many(4, 1, 1), "hour apart"), 0, by, 0, 0, 3, 2, 2);
            // HOURS 0 and 1 aren't to be told apart: (0, 2), (0, 3), (1, 2), (1, 3) leave three or two.
            String law = "hour 0 if asked<2 and seen<2;hour 0 if asked=seen;hour 1";
            next("then the second", Courts.of(Courts.many(4, 1, 1), law), 0, by, 0, 0, 2, 3, 2);
            // Only the last PAIR of all parts WORLDS.
            law = "hour 1;road 1;man 0 if asked=seen and seen>5;man 1";
            next("the last one", Courts.of(Courts.many(8, 8, 8), law), 0, by, 2, 6, 7, 448, 448);
        }
        // Two and two, or two and one: at worst they are as good, on the mean the second is better.
        WarmerColder x = Courts.of(Courts.many(3, 1, 1), "hour 0 if asked=seen;hour 2 if asked+seen=1;hour 1");
        next("at worst 2 and 2", x, 0, 0, 0, 0, 1, 2, 2);
        next("on the mean 2 and 1", x, 0, 1, 0, 0, 2, 2, 1);
    }

    /** "Asked of KEPT WORLDS" */
    private static void nextOfKept() {
        WarmerColder x = Courts.of(Courts.many(8, 1, 1), "hour apart");
        next("of eight", x, 0, 0, 0, 0, 7, 4, 4);
        x.answer(0, 0, 0, 7);
        next("of HOURS 0 to 3", x, 0, 0, 0, 0, 3, 2, 2);
        x.answer(0, 0, 3, 0);
        next("of HOURS 2 and 3", x, 0, 0, 0, 0, 5, 1, 1);
        next("of all with one FALSE", x, 2, 0, 0, 0, 7, 4, 4);
        x.answer(0, 0, 3, 2);
        next("of HOUR 3", x, 0, 0, 0, 0, 1, 1, 0);
        next("of HOUR 3, on the mean", x, 0, 1, 0, 0, 1, 1, 0);
        x.answer(0, 0, 0, 1);
        next("of no WORLD", x, 0, 0, 0, 0, 1, 0, 0);
        next("of no WORLD, on the mean", x, 0, 1, 0, 0, 1, 0, 0);
    }

    /** "-2: there is no PAIR" */
    private static void nextWithoutPair() {
        for (int by = 0; by < 2; by++) {
            next("one of each", Courts.of(Courts.many(1, 1, 1), Courts.PLAIN), 0, by, -2, -2, -2, -2, -2);
            next("one of each, k 40", Courts.of(Courts.many(1, 1, 1), Courts.PLAIN), 40, by, -2, -2, -2, -2, -2);
        }
        Due.is("28 no PAIR", Courts.of(Courts.many(1, 1, 1), Courts.PLAIN).useful(0, 0, 0), 0);
        Due.is("31 no PAIR, but one WORLD", Courts.of(Courts.many(1, 1, 1), Courts.PLAIN).needed(0, 0), 0);
    }

    /** "PAIRS of which both LEFT are less than KEPT WORLDS" */
    private static void useful() {
        Due.is("28 all 84", Courts.of(Courts.many(8, 8, 8), Courts.SAME).useful(0, 0, 0), 84);
        Due.is("28 one LEFT is all", Courts.of(Courts.many(8, 8, 8), Courts.GREATER).useful(0, 0, 0), 0);
        Due.is("28 both LEFT are all", Courts.of(Courts.many(8, 8, 8), "hour 1;road 1;man 1").useful(0, 0, 0), 0);
        WarmerColder x = Courts.of(Courts.many(4, 1, 1), Courts.SAME);
        Due.is("28 six of four HOURS", x.useful(0, 0, 0), 6);
        x.answer(0, 0, 0, 3);
        Due.is("28 three of three that are left", x.useful(0, 0, 0), 3);
        x.answer(0, 0, 0, 2);
        Due.is("28 one of two that are left", x.useful(0, 0, 0), 1);
        x.answer(0, 0, 0, 1);
        Due.is("28 none of one that is left", x.useful(0, 0, 0), 0);
        x.answer(0, 0, 1, 0);
        Due.is("28 none of none", x.useful(0, 0, 0), 0);
        Due.is("28 all six again", x.useful(0, 1, 0), 6);
    }

    /** "the least n so that 2 to the n is not below KEPT WORLDS (0 for none)" */
    private static void lowerBound() {
        int[][] courts = {{1, 1, 1, 0}, {2, 1, 1, 1}, {3, 1, 1, 2}, {2, 2, 1, 2}, {5, 1, 1, 3}, {7, 1, 1, 3},
            {2, 2, 2, 3}, {3, 3, 1, 4}, {5, 3, 1, 4}, {4, 2, 2, 4}, {3, 3, 2, 5}, {4, 8, 1, 5}, {5, 7, 1, 6},
            {8, 8, 1, 6}, {3, 5, 5, 7}, {4, 4, 8, 7}, {5, 5, 6, 8}, {4, 8, 8, 8}, {5, 8, 8, 9}, {8, 8, 8, 9}};
        for (int[] c : courts) {
            int worlds = c[0] * c[1] * c[2];
            WarmerColder x = Courts.of(Courts.many(c[0], c[1], c[2]), Courts.PLAIN);
            Due.is("28 of " + worlds, x.useful(0, 0, 1), c[3]);
        }
        // With one FALSE of two: all of 70 but the five of HOUR 1 and ROAD 6.
        WarmerColder x = Courts.of(Courts.lines(2, 7, 5), Courts.PLAIN);
        x.answer(0, 0, 0, 1);
        x.answer(0, 1, 5, 6);
        Due.is("28 65 are KEPT", x.kept(0, 1), 65);
        Due.is("28 of 65", x.useful(0, 1, 1), 7);
        x = Courts.of(Courts.many(2, 1, 1), Courts.GREATER);
        x.answer(0, 0, 0, 1);
        Due.is("28 of none", x.useful(0, 0, 1), 0);
        Due.is("28 of two", x.useful(0, 1, 1), 1);
    }

    /** "the fewest PAIRS (0 to 3)"; "-2: not with three" */
    private static void neededUpToThree() {
        int[] line = {0, 0, 1, 2, 2, 3, 3, 3, 3};
        // By SAME a PAIR rules out one of two alone: n - 1 are needed for n.
        int[] same = {0, 0, 1, 2, 3, -2, -2, -2, -2};
        for (int n = 1; n <= 8; n++) {
            Due.is("31 on a line of " + n, Courts.of(Courts.many(n, 1, 1), "hour apart").needed(0, 0), line[n]);
            Due.is("31 by SAME of " + n, Courts.of(Courts.many(1, n, 1), Courts.SAME).needed(0, 0), same[n]);
            Due.is("31 all as FAR, " + n, Courts.of(Courts.many(1, 1, n), "man 1").needed(0, 0), n == 1 ? 0 : -2);
        }
        Due.is("31 two of two", Courts.of(Courts.lines(2, 2, 1), Courts.PLAIN).needed(0, 0), 2);
        Due.is("31 two of three", Courts.of(Courts.lines(2, 2, 2), Courts.PLAIN).needed(0, 0), 3);
        Due.is("31 nine", Courts.of(Courts.lines(3, 3, 1), Courts.PLAIN).needed(0, 0), -2);
        // Two of each of two KINDS, of which one is not to be told apart.
        Due.is("31 alike MEN", Courts.of(Courts.many(2, 1, 2), "hour apart;man 1").needed(0, 0), -2);
        // However they are answered: HOUR 1 says either, so that both may be left each time.
        Due.is("31 only if it is answered so", Courts.of(Courts.many(2, 1, 1), "hour 0 if asked=seen and seen=0;hour 1").needed(0, 0), -2);
        Due.is("31 only if it is answered so, of three", Courts.of(Courts.many(3, 1, 1), "hour 0 if asked=seen and seen<2;hour 1").needed(0, 0), -2);
    }

    private static void neededOfKept() {
        WarmerColder x = Courts.of(Courts.many(8, 1, 1), Courts.SAME);
        int[] want = {-2, -2, -2, -2, 3, 2, 1, 0, 0};
        for (int out = 0; out <= 8; out++) {
            Due.is("31 " + (8 - out) + " are left", x.needed(0, 0), want[out]);
            x.answer(0, 0, (out + 1) % 8, out);
        }
    }

    /** "NONE without these, or with more than 64 KEPT WORLDS" */
    private static void neededWorlds() {
        Due.is("31 64", Courts.of(Courts.many(8, 8, 1), Courts.PLAIN).needed(0, 0), -2);
        Due.is("31 63", Courts.of(Courts.many(7, 3, 3), Courts.PLAIN).needed(0, 0), -2);
        Due.is("31 72", Courts.of(Courts.many(6, 4, 3), Courts.PLAIN).needed(0, 0), NONE);
        Due.is("31 512", Courts.of(Courts.many(8, 8, 8), Courts.PLAIN).needed(0, 40), NONE);
        WarmerColder x = Courts.of(Courts.lines(2, 7, 5), Courts.PLAIN);
        x.answer(0, 0, 0, 1);
        x.answer(0, 1, 5, 6);
        Due.is("31 65 are KEPT", x.kept(0, 1), 65);
        Due.is("31 65", x.needed(0, 1), NONE);
        x = Courts.of(Courts.many(8, 8, 8), Courts.SAME);
        for (int i = 1; i < 8; i++) {
            x.answer(0, 0, 0, i);
        }
        Due.is("31 64 of 512 are KEPT", x.kept(0, 0), 64);
        Due.is("31 64 of 512", x.needed(0, 0), -2);
        Due.is("31 more of 512", x.needed(0, 1), NONE);
    }

    /** "the one that leaves (of KEPT WORLDS) the greatest part with that MAN; of several the first" */
    private static void steeredGreatestPart() {
        // MEN on a line of four; it was MAN 0: (0, 1) leaves MAN 0 alone, (0, 2) 0 and 1.
        WarmerColder x = Courts.of(Courts.lines(2, 1, 4), Courts.PLAIN);
        steered("all of what is left", x, 0, 0, 2, 0, 1, 2, 2);
        // MAN 1: (0, 2) and (0, 3) leave 0 and 1; (1, 3) leaves 0 to 2; of MEN 0 to 3 HOURS leave a fourth.
        steered("a half of what is left", x, 0, 1, 2, 0, 2, 2, 4);
        // MAN 3, where it was MAN 0: no PAIR of MEN leaves him; HOURS leave one in four.
        steered("a fourth of what is left", x, 0, 3, 0, 0, 1, 1, 4);
        // Not the greatest number: HOURS 0 and 1 are as FAR, so their PAIR leaves all eight, two with MAN 0.
        x = Courts.of(Courts.many(2, 1, 4), "hour 1;man 0 if asked=seen;man 1");
        steered("a part, not a number", x, 0, 0, 2, 0, 1, 2, 6);
        // All parts are alike: the first PAIR.
        x = Courts.of(Courts.many(2, 2, 2), "hour 1;road 1;man 1");
        steered("of several the first", x, 7, 1, 0, 0, 1, 4, 8);
        x = Courts.of(Courts.many(3, 3, 3), Courts.SAME);
        // Where it was MAN 0, (0, 1) leaves 0 and 2, (0, 2) leaves 0 and 1.
        steered("of several the first, then the second", x, 0, 0, 2, 0, 1, 9, 18);
        // Nobody of that MAN is KEPT: all parts are none, the first PAIR that leaves a WORLD.
        x = Courts.of(Courts.many(2, 1, 2), Courts.SAME);
        x.answer(0, 2, 0, 1);
        steered("none with that MAN", x, 0, 1, 0, 0, 1, 0, 1);
        steered("all with the other one", x, 0, 0, 0, 0, 1, 1, 1);
    }

    /** "each answered by what is nearer in that WORLD (both as FAR: the first)" */
    private static void steeredBothAsFar() {
        // From MAN 0 both 1 and 2 are as FAR; the first says 1, 2 is ruled out.
        WarmerColder x = Courts.of(Courts.many(1, 1, 3), "man 1 if seen=0;man 0 if asked=seen;man 1");
        steered("the first of 1 and 2", x, 0, 1, 2, 0, 2, 1, 2);
        steered("for MAN 2", x, 0, 2, 2, 0, 1, 1, 2);
        steered("in WORLD 1", x, 1, 1, 2, 0, 2, 1, 2);
        x = Courts.of(Courts.many(2, 1, 2), "hour 1 if seen=0;hour asked;man 1");
        // HOUR 0 both: all are left. HOUR 1: 0 is nearer, both are left by it, too.
        steered("all left", x, 0, 0, 0, 0, 1, 2, 4);
        steered("all left, in HOUR 1", x, 2, 0, 0, 0, 1, 2, 4);
        // HOUR 1 nearer in WORLD 1; the second of what is asked leaves it and HOUR 0, which says both.
        x = Courts.of(Courts.many(2, 1, 1), "hour 1 if seen=0;hour 1-asked");
        steered("the first leaves one", x, 0, 0, 0, 0, 1, 1, 1);
        steered("the second leaves two", x, 1, 0, 0, 0, 1, 2, 2);
    }

    /** "none if none leaves any WORLD" */
    private static void steeredNone() {
        steered("no PAIR", Courts.of(Courts.many(1, 1, 1), Courts.PLAIN), 0, 0, -2);
        steered("no KEPT WORLD", Courts.quarrelling(), 0, 0, -2);
        // HOUR 0 is KEPT, but it was HOUR 1: the only PAIR leaves HOUR 1, which isn't KEPT.
        WarmerColder x = Courts.of(Courts.many(2, 1, 1), "hour apart");
        x.answer(0, 0, 0, 1);
        steered("none is left by the only PAIR", x, 1, 0, -2);
        steered("one is left by it", x, 0, 0, 0, 0, 1, 1, 1);
        // With two MEN there is a PAIR that leaves some.
        x = Courts.of(Courts.lines(2, 1, 2), Courts.PLAIN);
        x.answer(0, 0, 0, 1);
        steered("the PAIR of HOURS leaves none", x, 3, 1, 2, 0, 1, 1, 1);
        steered("the PAIR of MEN leaves MAN 1 alone", x, 3, 0, 2, 0, 1, 0, 1);
    }

    // ---- DRAWS ----

    /** "x (0 to 2147483647; 0 at first)"; "NONE, and nothing happens, below 0" */
    private static void seed() {
        WarmerColder x = new WarmerColder();
        Due.is("34 0 at first", x.count(8), 0);
        Due.is("34 was 0", x.seed(MAX), 0);
        Due.is("38 the most", x.count(8), MAX);
        Due.is("34 -1", x.seed(-1), NONE);
        Due.is("34 least", x.seed(Integer.MIN_VALUE), NONE);
        Due.is("38 nothing happened", x.count(8), MAX);
        Due.is("34 was the most", x.seed(0), MAX);
        Due.is("34 was 0 again", x.seed(1), 0);
        Due.is("38 1", x.count(8), 1);
        Due.court(x, Courts.HOUSE);
        Due.is("38 x stays by a COURT", x.count(8), 1);
    }

    /** Five HOURS on a line: two PAIRS are asked, if it was one of 0 to 2, three, if it was 3 or 4. */
    private static WarmerColder five() {
        return Courts.of(Courts.many(5, 1, 1), "hour apart");
    }

    /** "x becomes x * 1103515245 + 12345, of 2147483648 the rest; a DRAW is x / 65536 ... x goes on" */
    private static void trialsDraws() {
        // 12345, 1406932606, 654583775, 1449466924, 229283573: DRAWS 0, 21468, 9988, 22117, 3498.
        WarmerColder x = five();
        int[] asked = {0, 2, 5, 8, 10, 13};
        for (int m = 1; m <= 5; m++) {
            trials("from 0, m " + m, x, m, asked[m], m, m);
            Due.is("38 x is as it was", x.count(8), 0);
        }
        // From the most: 1043980748, 288979989, 646343466: DRAWS 15929, 4409, 9862.
        x.seed(MAX);
        trials("from the most", x, 1, 3, 1, 1);
        trials("from the most, two", x, 2, 6, 2, 2);
        trials("from the most, three", x, 3, 8, 3, 3);
        Due.is("38 x is the most still", x.count(8), MAX);
    }

    /** "TRIALS m times (1 to 20)" */
    private static void trialsTimes() {
        WarmerColder x = Courts.of(Courts.many(4, 1, 1), "hour apart");
        trials("m 1", x, 1, 2, 1, 1);
        trials("m 20", x, 20, 40, 20, 20);
        trials("m 0", x, 0, NONE, NONE, NONE);
        trials("m 21", x, 21, NONE, NONE, NONE);
        trials("m -1", x, -1, NONE, NONE, NONE);
        trials("m most", x, MAX, NONE, NONE, NONE);
    }

    /** "till one is left at most" */
    private static void trialsOneLeft() {
        trials("one WORLD", Courts.of(Courts.many(1, 1, 1), Courts.PLAIN), 20, 0, 20, 20);
        trials("two WORLDS", Courts.of(Courts.many(2, 1, 1), "hour apart"), 20, 20, 20, 20);
        // Eight on a line are always found by three PAIRS, of whatever KIND, the eighth too.
        trials("eight HOURS", Courts.of(Courts.lines(8, 1, 1), Courts.PLAIN), 20, 60, 20, 20);
        trials("eight ROADS", Courts.of(Courts.lines(1, 8, 1), Courts.PLAIN), 20, 60, 20, 20);
        trials("eight MEN", Courts.of(Courts.lines(1, 1, 8), Courts.PLAIN), 20, 60, 20, 20);
        trials("eight HOURS, two MEN", Courts.of(Courts.lines(8, 1, 2), Courts.PLAIN), 20, 80, 20, 20);
        trials("eight ROADS, two HOURS", Courts.of(Courts.lines(2, 8, 1), Courts.PLAIN), 20, 80, 20, 20);
        trials("512 WORLDS", Courts.of(Courts.lines(8, 8, 8), Courts.PLAIN), 2, 18, 2, 2);
    }

    /** "or nine were asked" */
    private static void trialsNine() {
        // By SAME each rules one of a KIND out: 7 of 8 HOURS, 2 of 3 ROADS, 1 of 2 MEN.
        trials("8", Courts.of(Courts.many(8, 2, 1), Courts.SAME), 1, 8, 1, 1);
        trials("just nine", Courts.of(Courts.many(8, 3, 1), Courts.SAME), 1, 9, 1, 1);
        trials("ten would be due", Courts.of(Courts.many(8, 3, 2), Courts.SAME), 1, 9, 0, 2);
        trials("ten would be due, of two KINDS", Courts.of(Courts.many(8, 4, 1), Courts.SAME), 3, 27, 0, 6);
        trials("eleven would be due", Courts.of(Courts.many(8, 5, 1), Courts.SAME), 1, 9, 0, 3);
    }

    /** "or the greater LEFT of NEXT is no less than what is left (it is not asked then)" */
    private static void trialsNotAsked() {
        trials("all as FAR", Courts.of(Courts.many(8, 8, 8), "hour 1;road 1;man 1"), 20, 0, 0, 20 * 512);
        trials("one LEFT is all", Courts.of(Courts.many(8, 1, 1), Courts.GREATER), 20, 0, 0, 160);
        // HOURS part, MEN don't: two WORLDS are left each time.
        trials("then no more", Courts.of(Courts.many(2, 1, 2), "hour apart;man 1"), 5, 5, 0, 10);
        trials("then no more, of four", Courts.of(Courts.many(4, 1, 3), "hour apart;man 1"), 5, 10, 0, 15);
    }

    /** "of all WORLDS (no ANSWERS)" */
    private static void trialsOfAllWorlds() {
        WarmerColder x = five();
        trials("no ANSWERS yet", x, 2, 5, 2, 2);
        x.answer(0, 0, 0, 1);
        trials("one ANSWER", x, 2, 5, 2, 2);
        x.answer(0, 0, 1, 0);
        Due.is("14 no KEPT WORLD", x.kept(0, 0), 0);
        trials("no KEPT WORLD", x, 2, 5, 2, 2);
        x.only(0);
        trials("none LOOKED AT", x, 2, 5, 2, 2);
    }
}
