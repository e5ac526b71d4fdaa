import java.util.ArrayList;
import java.util.List;

/**
 * "NONE without these": of each call, each argument at its least and its greatest, which are
 * answered, and beyond both, which are refused and leave all as it is; and each call where there is
 * no COURT, no LAW, no ANSWER, no WORLD that is KEPT.
 */
public final class BoundsTests {
    private static final int NONE = WarmerColder.NONE;
    private static final long NO_FAR = -1000000000000L;
    private static final int MIN = Integer.MIN_VALUE;
    private static final int MAX = Integer.MAX_VALUE;

    private interface Call {
        long of(WarmerColder x, int[] a);
    }

    /** For each argument the least and the greatest that are answered. */
    private record Bounds(String name, long refusal, Call call, int[][] ranges) {
        private String told(int[] args) {
            StringBuilder b = new StringBuilder(name).append('(');
            for (int i = 0; i < args.length; i++) {
                b.append(i > 0 ? ", " : "").append(args[i]);
            }
            return b.append(')').toString();
        }
    }

    private BoundsTests() {
    }

    public static void main(String[] args) {
        for (Bounds b : ofHouse(3, 3)) {
            sweep("heard, ", b, BoundsTests::heard);
        }
        for (Bounds b : ofHouse(4, 3)) {
            sweep("quarrelling, ", b, BoundsTests::quarrelling);
        }
        for (Bounds b : ofHouse(3, 3)) {
            withoutCourt(b);
            withoutLaw(b);
        }
        withoutAnswers();
        wrongAheadOfNothing();
        extremes();
        Due.end("BoundsTests");
    }

    private interface Maker {
        WarmerColder make();
    }

    /** The HOUSE with two LAWS, four ANSWERS, one VERDICT and all IMAGES. */
    private static WarmerColder heard() {
        WarmerColder x = Courts.heard();
        Due.law(x, "hour 7");
        finish(x);
        return x;
    }

    /** And a fifth ANSWER: no WORLD is KEPT with none FALSE. */
    private static WarmerColder quarrelling() {
        WarmerColder x = Courts.quarrelling();
        Due.law(x, "hour 7");
        finish(x);
        return x;
    }

    private static void finish(WarmerColder x) {
        x.verdict(7);
        for (int k = 0; k < 4; k++) {
            x.image(k);
        }
    }

    private static int[] from(int least, int greatest) {
        return new int[] {least, greatest};
    }

    private static List<Bounds> ofHouse(int lastAnswer, int many) {
        int[] law = from(0, 1);
        int[] k = from(0, 40);
        int[] thing = from(0, many - 1);
        int[] kind = from(0, 2);
        int[] world = from(0, 26);
        int[] answer = from(0, lastAnswer);
        int[] witness = from(0, 5);
        List<Bounds> all = new ArrayList<>();
        all.add(of("thing", (x, a) -> x.thing(a[0], a[1], a[2]), from(1, 2), thing, from(0, 2)));
        all.add(of("thing, how many,", (x, a) -> x.thing(a[0], MIN, 2), kind));
        all.add(new Bounds("far", NO_FAR, (x, a) -> x.far(a[0], a[1], a[2], a[3]),
                new int[][] {law, kind, thing, thing}));
        all.add(of("answers", (x, a) -> x.answers(a[0], a[1]), answer, from(0, 4)));
        all.add(of("holds", (x, a) -> x.holds(a[0], a[1], a[2]), law, answer, world));
        all.add(of("wrong", (x, a) -> x.wrong(a[0], a[1]), law, world));
        all.add(of("kept", (x, a) -> x.kept(a[0], a[1]), law, k));
        all.add(of("world", (x, a) -> x.world(a[0], a[1], 0), law, k));
        all.add(of("may", (x, a) -> x.may(a[0], a[1], a[2], a[3]), law, k, kind, thing));
        all.add(of("cleared", (x, a) -> x.cleared(a[0], a[1]), law, k));
        all.add(of("fewest", (x, a) -> x.fewest(a[0], a[1]), law, from(0, 2)));
        all.add(of("falseOnes", (x, a) -> x.falseOnes(a[0]), law));
        all.add(of("liars", (x, a) -> x.liars(a[0]), law));
        all.add(of("quarrel", (x, a) -> x.quarrel(a[0]), law));
        all.add(of("proof", (x, a) -> x.proof(a[0], a[1]), law, thing));
        all.add(of("byLaws", (x, a) -> x.byLaws(a[0], a[1], a[2]), from(1, 3), k, from(0, 1)));
        all.add(of("looks", (x, a) -> x.looks(a[0], a[1], a[2]), law, k, answer));
        all.add(of("sure", (x, a) -> x.sure(a[0], a[1], a[2]), law, k, kind));
        all.add(of("alone", (x, a) -> x.alone(a[0], a[1]), law, witness));
        all.add(of("mean", (x, a) -> x.mean(a[0], a[1], a[2]), law, k, from(0, 1)));
        all.add(of("useful", (x, a) -> x.useful(a[0], a[1], a[2]), law, k, from(0, 1)));
        all.add(of("filled", (x, a) -> x.filled(a[0], a[1], a[2]), law, k, answer));
        all.add(of("next", (x, a) -> x.next(a[0], a[1], a[2], a[3]), law, k, from(0, 1), from(0, 4)));
        all.add(of("needed", (x, a) -> x.needed(a[0], a[1]), law, k));
        all.add(of("steered", (x, a) -> x.steered(a[0], a[1], a[2], a[3], a[4]), law, k, world, thing, from(0, 4)));
        all.add(of("spare", (x, a) -> x.spare(a[0]), witness));
        all.add(of("trials", (x, a) -> x.trials(a[0], a[1], a[2]), law, from(1, 20), from(0, 2)));
        all.add(of("old", (x, a) -> x.old(a[0], a[1], a[2], a[3]), law, k, from(0, 0), from(0, 2)));
        all.add(of("count", (x, a) -> x.count(a[0]), from(0, 9)));
        all.add(of("image", (x, a) -> x.image(a[0]), from(0, 3)));
        all.add(of("back", (x, a) -> x.back(a[0]), from(0, 3)));
        return all;
    }

    private static Bounds of(String name, Call call, int[]... ranges) {
        return new Bounds(name, NONE, call, ranges);
    }

    private static void sweep(String when, Bounds b, Maker maker) {
        WarmerColder x = maker.make();
        String before = Due.state(x);
        int many = b.ranges().length;
        for (int ends = 0; ends < 1 << many; ends++) {
            int[] args = new int[many];
            for (int i = 0; i < many; i++) {
                args[i] = b.ranges()[i][ends >> i & 1];
            }
            Due.is(when + b.told(args) + " is refused", b.call().of(x, args) == b.refusal(), false);
        }
        for (int i = 0; i < many; i++) {
            for (int bad : new int[] {MIN, b.ranges()[i][0] - 1, b.ranges()[i][1] + 1, b.ranges()[i][1] + 256, MAX}) {
                int[] args = new int[many];
                for (int j = 0; j < many; j++) {
                    args[j] = j == i ? bad : b.ranges()[j][0];
                }
                Due.is(when + b.told(args), b.call().of(x, args), b.refusal());
            }
        }
        Due.same(when + b.name() + ", all as it was", Due.state(x), before);
    }

    private static boolean isFree(String name) {
        return name.equals("spare") || name.equals("count") || name.equals("image") || name.equals("back");
    }

    /** "No COURT": of a new object, and of one that went back to an IMAGE where nothing was told. */
    private static void withoutCourt(Bounds b) {
        WarmerColder young = new WarmerColder();
        young.image(3);
        Due.law(young, Courts.PLAIN);
        Due.law(young, "hour 7");
        WarmerColder gone = new WarmerColder();
        gone.image(0);
        Due.court(gone, Courts.HOUSE);
        Due.law(gone, Courts.PLAIN);
        Due.law(gone, "hour 7");
        gone.answer(0, 0, 0, 1);
        gone.verdict(0);
        Due.is("40 back to where nothing was told", gone.back(0), 0);
        int[] least = new int[b.ranges().length];
        for (int i = 0; i < least.length; i++) {
            least[i] = b.ranges()[i][0];
        }
        if (!isFree(b.name())) {
            Due.is("no COURT, " + b.told(least), b.call().of(young, least), b.refusal());
            Due.is("no COURT any more, " + b.told(least), b.call().of(gone, least), b.refusal());
            Due.is("nothing at all, " + b.told(least), b.call().of(new WarmerColder(), least), b.refusal());
        }
    }

    /** "No LAWS" */
    private static void withoutLaw(Bounds b) {
        WarmerColder x = new WarmerColder();
        Due.court(x, Courts.HOUSE);
        x.answer(0, 0, 0, 1);
        x.verdict(0);
        int[] least = new int[b.ranges().length];
        for (int i = 0; i < least.length; i++) {
            least[i] = b.ranges()[i][0];
        }
        boolean needsLaw = !isFree(b.name()) && !b.name().startsWith("thing") && !b.name().equals("answers");
        if (needsLaw) {
            Due.is("no LAW, " + b.told(least), b.call().of(x, least), b.refusal());
        }
    }

    /** "NONE without these": no ANSWER, no VERDICT, yet. */
    private static void withoutAnswers() {
        WarmerColder x = Courts.house();
        Due.is("9 no ANSWER", x.answers(0, 0), NONE);
        Due.is("10 no ANSWER", x.strike(0, true), false);
        Due.is("10 no ANSWER, back", x.strike(0, false), false);
        Due.is("12 no ANSWER", x.holds(0, 0, 0), NONE);
        Due.is("24 no ANSWER", x.looks(0, 0, 0), NONE);
        Due.is("29 no ANSWER", x.filled(0, 0, 0), NONE);
        Due.is("37 no VERDICT", x.old(0, 0, 0, 0), NONE);
        Due.is("13 none FALSE", x.wrong(0, 26), 0);
        Due.is("14 all KEPT", x.kept(0, 0), 27);
        Due.is("15 the last one", x.world(0, 0, 26), 26);
        Due.is("15 none behind it", x.world(0, 0, 27), -2);
        Due.is("17 nobody CLEARED", x.cleared(0, 0), 0);
        Due.is("18 FEWEST", x.fewest(0, 0), 0);
        Due.is("18 BEST", x.fewest(0, 1), 0);
        Due.is("18 all have so few", x.fewest(0, 2), 27);
        Due.is("19 none", x.falseOnes(0), 0);
        Due.is("20 nobody", x.liars(0), 0);
        Due.is("21 none", x.quarrel(0), -2);
        Due.is("22 none", x.proof(0, 0), -2);
        Due.is("23 all", x.byLaws(1, 0, 0), 27);
        Due.is("25 none", x.sure(0, 0, 2), -2);
        Due.is("26 all", x.alone(0, 0), 27);
        Due.is("33 nine", x.spare(0), 9);
        x.answer(0, 0, 0, 1);
        Due.is("9 one ANSWER, no second", x.answers(1, 0), NONE);
        Due.is("10 one ANSWER, no second", x.strike(1, true), false);
        Due.is("12 one ANSWER, no second", x.holds(0, 1, 0), NONE);
        Due.court(x, Courts.HOUSE);
        Due.is("9 none of the old COURT", x.answers(0, 0), NONE);
        Due.is("10 none of the old COURT", x.strike(0, true), false);
        Due.is("12 none of the old COURT", x.holds(0, 0, 0), NONE);
        Due.is("24 none of the old COURT", x.looks(0, 0, 0), NONE);
        Due.is("29 none of the old COURT", x.filled(0, 0, 0), NONE);
    }

    /** Where what was asked well has no answer (-2), what is asked wrongly is NONE all the same. */
    private static void wrongAheadOfNothing() {
        WarmerColder one = Courts.of("road 1 1;man 1 1", Courts.PLAIN);
        Due.is("30 no PAIR", one.next(0, 0, 0, 0), -2);
        Due.is("30 no PAIR, no such what", one.next(0, 0, 0, 5), NONE);
        Due.is("30 no PAIR, no such by", one.next(0, 0, 2, 0), NONE);
        Due.is("30 no PAIR, no such k", one.next(0, 41, 0, 0), NONE);
        Due.is("30 no PAIR, no such LAW", one.next(1, 0, 0, 0), NONE);
        Due.is("32 no PAIR", one.steered(0, 0, 0, 0, 4), -2);
        Due.is("32 no PAIR, no such what", one.steered(0, 0, 0, 0, 5), NONE);
        Due.is("32 no PAIR, no such WORLD", one.steered(0, 0, 1, 0, 0), NONE);
        Due.is("32 no PAIR, no such MAN", one.steered(0, 0, 0, 1, 0), NONE);
        Due.is("21 no ANSWERS, no such LAW", one.quarrel(1), NONE);
        WarmerColder none = Courts.quarrelling();
        Due.is("15 no WORLD", none.world(0, 0, 0), -2);
        Due.is("15 no WORLD, no such k", none.world(0, -1, 0), NONE);
        Due.is("25 no WORLD", none.sure(0, 0, 0), -2);
        Due.is("25 no WORLD, no such KIND", none.sure(0, 0, 3), NONE);
        Due.is("27 no WORLD", none.mean(0, 0, 1), -2);
        Due.is("27 no WORLD, no such what", none.mean(0, 0, 2), NONE);
        Due.is("22 no PROOF", none.proof(0, 2), -2);
        Due.is("22 no PROOF, no such MAN", none.proof(0, 3), NONE);
        Due.is("16 no WORLD, no such thing", none.may(0, 0, 0, 3), NONE);
    }

    /** All that isn't a number of something, at once. */
    private static void extremes() {
        WarmerColder x = heard();
        String before = Due.state(x);
        for (int n : new int[] {MIN, MIN + 1, -3, 1 << 16, MAX - 1, MAX}) {
            Due.is("extreme end " + n, x.end(n), NONE);
            Due.is("extreme thing " + n, x.thing(n, n, n), NONE);
            Due.is("extreme far " + n, x.far(n, n, n, n), NO_FAR);
            Due.is("extreme answer " + n, x.answer(n, n, n, n), NONE);
            Due.is("extreme answer, unlike, " + n, x.answer(0, 1, n, 0), NONE);
            Due.is("extreme answers " + n, x.answers(n, n), NONE);
            Due.is("extreme strike " + n, x.strike(n, true), false);
            Due.is("extreme strike back " + n, x.strike(n, false), false);
            Due.is("extreme only " + n, x.only(n), -2);
            Due.is("extreme holds " + n, x.holds(n, n, n), NONE);
            Due.is("extreme may " + n, x.may(0, 0, n, n), NONE);
            Due.is("extreme world " + n, x.world(0, 0, n), -2);
            Due.is("extreme byLaws " + n, x.byLaws(n, 0, 0), NONE);
            Due.is("extreme steered " + n, x.steered(0, 0, n, n, n), NONE);
            Due.is("extreme trials " + n, x.trials(0, n, 0), NONE);
            Due.is("extreme verdict " + n, x.verdict(n), -2);
            Due.is("extreme old " + n, x.old(0, 0, n, n), NONE);
            Due.is("extreme count " + n, x.count(n), NONE);
            Due.is("extreme image " + n, x.image(n), NONE);
            Due.is("extreme back " + n, x.back(n), NONE);
        }
        Due.is("34 least", x.seed(MIN), NONE);
        Due.is("34 below 0", x.seed(-1), NONE);
        Due.same("extremes, all as it was", Due.state(x), before);
    }
}
