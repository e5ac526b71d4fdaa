import java.util.Random;

/**
 * Runs of random calls on a new object each, every answer held against the Model's. The seeds are
 * the runs' numbers, so that a run that goes wrong can be had again: RandomRuns FIRST HOW_MANY.
 */
public final class RandomRuns {
    private static final int CALLS = 512;
    private static final String[] VALUES = {
        "asked", "seen", "apart", "dx", "dy", "years", "dyears", "kin"};
    private static final String[] SIGNS = {"<", "<=", "=", ">=", ">"};
    private static final String ODD = " ;[]+-*/<=>0123456789adefhimnorsuxyk\u0000\u00e9A_";

    private final Random random;
    private final WarmerColder made = new WarmerColder();
    private final Model model = new Model();
    private final StringBuilder told = new StringBuilder();
    private final int oddOneIn;
    private int calls;
    private boolean same = true;

    private RandomRuns(int seed) {
        random = new Random(seed);
        oddOneIn = rarely(10) ? 3 : 40;
    }

    public static void main(String[] args) {
        int first = args.length > 0 ? Integer.parseInt(args[0]) : 0;
        int many = args.length > 1 ? Integer.parseInt(args[1]) : 250;
        int wrong = 0;
        for (int run = first; run < first + many; run++) {
            RandomRuns runs = new RandomRuns(run);
            if (!runs.go()) {
                wrong++;
                System.out.println("run " + run + ":\n" + runs.told);
            }
        }
        System.out.println("RandomRuns: " + (many - wrong) + " passed, " + wrong + " failed");
        System.exit(wrong == 0 ? 0 : 1);
    }

    private int below(int n) {
        return random.nextInt(n);
    }

    private boolean rarely(int oneIn) {
        return random.nextInt(oneIn) == 0;
    }

    /** A number that mostly is below n, and now and then anything. */
    private int about(int n) {
        if (rarely(oddOneIn)) {
            int[] odd = {-1, -2, n, n + 1, Integer.MAX_VALUE, Integer.MIN_VALUE, random.nextInt(), 64};
            return odd[below(odd.length)];
        }
        return below(Math.max(n, 1));
    }

    private void due(long got, long want, String call, Object... with) {
        calls++;
        StringBuilder line = new StringBuilder(call).append('(');
        for (int i = 0; i < with.length; i++) {
            line.append(i > 0 ? ", " : "").append(with[i]);
        }
        line.append(") answered ").append(got);
        if (got != want && same) {
            same = false;
            line.append(", due is ").append(want);
            told.append(line).append('\n');
        } else if (same) {
            told.append(line).append('\n');
        }
    }

    private boolean go() {
        if (!rarely(8)) {
            tell(courtText(), true);
        }
        int laws = below(4);
        for (int i = 0; i < laws; i++) {
            tell(lawText(), false);
        }
        while (same && calls < CALLS) {
            step();
        }
        return same;
    }

    private void tell(String text, boolean isCourt) {
        byte[] bytes = new byte[(text.length() + 19) / 20 * 20];
        for (int i = 0; i < text.length(); i++) {
            bytes[i] = (byte) text.charAt(i);
        }
        if (!rarely(25)) {
            due(made.end(0), model.end(0), "end", 0);
        }
        for (int i = 0; i < bytes.length; i += 20) {
            int[] n = new int[5];
            for (int j = 0; j < 20; j++) {
                n[j / 4] = n[j / 4] << 8 | bytes[i + j] & 255;
            }
            due(made.feed(n[0], n[1], n[2], n[3], n[4]), model.feed(n), "feed", n[0], n[1], n[2], n[3], n[4]);
        }
        if (!rarely(40)) {
            due(made.end(text.length()), model.end(text.length()), "end", text.length());
        }
        told.append("  \"").append(text).append("\"\n");
        if (isCourt) {
            due(made.court(), model.court(), "court");
        } else {
            due(made.law(), model.law(), "law");
        }
    }

    private String blank() {
        return rarely(6) ? " ".repeat(below(3)) : "";
    }

    private String spoilt(String text) {
        StringBuilder b = new StringBuilder(text.length() > 400 ? text.substring(0, 400) : text);
        if (rarely(4)) {
            for (int n = 1 + below(2); n > 0; n--) {
                int at = below(b.length() + 1);
                char c = ODD.charAt(below(ODD.length()));
                if (at < b.length() && rarely(2)) {
                    b.setCharAt(at, c);
                } else if (at < b.length() && rarely(2)) {
                    b.deleteCharAt(at);
                } else if (b.length() < 400) {
                    b.insert(at, c);
                }
            }
        }
        if (rarely(20)) {
            b.setLength(below(b.length() + 1));
        }
        return b.toString();
    }

    private String courtText() {
        int most = rarely(3) ? 8 : 3;
        int roads = rarely(30) ? below(10) : 1 + below(most);
        int men = rarely(30) ? below(10) : 1 + below(most);
        int hours = rarely(30) ? 2 : rarely(4) ? 0 : 1;
        int wide = rarely(2) ? 100 : 4;
        StringBuilder b = new StringBuilder();
        while (hours + roads + men > 0) {
            int which = below(hours + roads + men);
            b.append(blank());
            if (which < hours) {
                hours--;
                b.append("hours ").append(rarely(60) ? below(20) : 1 + below(most));
            } else if (which < hours + roads) {
                roads--;
                b.append(rarely(9) ? "road" : "road ").append(number(wide)).append(' ').append(number(wide));
            } else {
                men--;
                b.append("man ").append(number(wide)).append(blank()).append(' ').append(number(10));
            }
            b.append(blank()).append(hours + roads + men > 0 ? ";" : "");
        }
        return spoilt(b.toString());
    }

    private String number(int below) {
        if (rarely(200)) {
            return "" + below(2000000);
        }
        return (rarely(20) ? "00" : "") + below(below);
    }

    private String value() {
        if (rarely(3)) {
            return rarely(50) ? number(1000000) : rarely(3) ? number(99999) : number(6);
        }
        return VALUES[below(VALUES.length)];
    }

    private String sum(int most) {
        StringBuilder b = new StringBuilder(value());
        for (int n = below(most); n > 0; n--) {
            b.append(blank()).append("+-*/+-*".charAt(below(7))).append(blank()).append(value());
        }
        return b.toString();
    }

    private String test(int depth, int most) {
        StringBuilder b = new StringBuilder(fact(depth, most));
        for (int n = below(most); n > 0; n--) {
            b.append(rarely(2) ? " or " : " and ").append(fact(depth, most));
        }
        return b.toString();
    }

    private String fact(int depth, int most) {
        if (depth > 0 && !rarely(3)) {
            return rarely(2) ? "not " + fact(depth - 1, most) : "[" + blank() + test(depth - 1, most) + "]";
        }
        return sum(most) + blank() + SIGNS[below(SIGNS.length)] + blank() + sum(most);
    }

    private String lawText() {
        StringBuilder b = new StringBuilder();
        int clauses = rarely(15) ? 10 + below(5) : 1 + below(5);
        int depth = rarely(6) ? 13 : below(4);
        int most = clauses > 5 ? 1 : depth > 5 ? 2 : rarely(8) ? 9 : 1 + below(3);
        for (int i = 0; i < clauses; i++) {
            b.append(i > 0 ? ";" : "").append(blank());
            b.append(new String[] {"hour ", "road ", "man "}[below(3)]).append(sum(most + 1));
            if (rarely(2)) {
                b.append(" if ").append(test(depth, most));
            }
        }
        return spoilt(b.toString());
    }

    private void step() {
        int law = about(Math.max(1, model.count(3)));
        int k = rarely(3) ? about(41) : about(4);
        int worlds = model.count(0) * model.count(1) * model.count(2);
        int world = about(worlds);
        int kind = about(3);
        int thing = about(model.count(Math.floorMod(kind, 3)));
        int answer = about(model.count(4));
        int man = about(model.count(2));
        int what = about(3);
        switch (below(40)) {
            case 0, 1, 2, 3, 4, 5 -> newAnswer();
            case 6 -> tellMore();
            case 7, 8 -> {
                boolean is = !rarely(3);
                due(made.strike(answer, is) ? 1 : 0, model.strike(answer, is) ? 1 : 0, "strike", answer, is);
            }
            case 9 -> {
                int n = rarely(2) ? NONE : about(41);
                due(made.only(n), model.only(n), "only", n);
            }
            case 10 -> {
                int other = about(model.count(Math.floorMod(kind, 3)));
                due(made.far(law, kind, thing, other), model.far(law, kind, thing, other), "far", law, kind, thing, other);
            }
            case 11 -> due(made.holds(law, answer, world), model.holds(law, answer, world), "holds", law, answer, world);
            case 12 -> due(made.wrong(law, world), model.wrong(law, world), "wrong", law, world);
            case 13 -> due(made.kept(law, k), model.kept(law, k), "kept", law, k);
            case 14 -> due(made.world(law, k, world), model.world(law, k, world), "world", law, k, world);
            case 15 -> due(made.may(law, k, kind, thing), model.may(law, k, kind, thing), "may", law, k, kind, thing);
            case 16 -> due(made.cleared(law, k), model.cleared(law, k), "cleared", law, k);
            case 17 -> due(made.fewest(law, what), model.fewest(law, what), "fewest", law, what);
            case 18 -> due(made.falseOnes(law), model.falseOnes(law), "falseOnes", law);
            case 19 -> due(made.liars(law), model.liars(law), "liars", law);
            case 20 -> due(made.quarrel(law), model.quarrel(law), "quarrel", law);
            case 21 -> due(made.proof(law, man), model.proof(law, man), "proof", law, man);
            case 22 -> {
                int set = about(1 << model.count(3));
                int which = about(2);
                due(made.byLaws(set, k, which), model.byLaws(set, k, which), "byLaws", set, k, which);
            }
            case 23 -> due(made.looks(law, k, answer), model.looks(law, k, answer), "looks", law, k, answer);
            case 24 -> due(made.sure(law, k, kind), model.sure(law, k, kind), "sure", law, k, kind);
            case 25 -> {
                int witness = about(6);
                due(made.alone(law, witness), model.alone(law, witness), "alone", law, witness);
                due(made.spare(witness), model.spare(witness), "spare", witness);
            }
            case 26 -> due(made.mean(law, k, what), model.mean(law, k, what), "mean", law, k, what);
            case 27 -> due(made.useful(law, k, what), model.useful(law, k, what), "useful", law, k, what);
            case 28 -> due(made.filled(law, k, answer), model.filled(law, k, answer), "filled", law, k, answer);
            case 29, 30 -> {
                int by = about(2);
                int of = about(5);
                due(made.next(law, k, by, of), model.next(law, k, by, of), "next", law, k, by, of);
            }
            case 31 -> due(made.needed(law, k), model.needed(law, k), "needed", law, k);
            case 32 -> {
                int of = about(5);
                due(made.steered(law, k, world, man, of), model.steered(law, k, world, man, of),
                        "steered", law, k, world, man, of);
            }
            case 33 -> {
                int x = about(Integer.MAX_VALUE);
                due(made.seed(x), model.seed(x), "seed", x);
            }
            case 34 -> {
                int m = worlds > 100 && !rarely(10) ? 1 : about(21);
                due(made.trials(law, m, what), model.trials(law, m, what), "trials", law, m, what);
            }
            case 35 -> {
                int w = rarely(30) ? NONE : world;
                due(made.verdict(w), model.verdict(w), "verdict", w);
            }
            case 36 -> {
                int verdict = about(model.count(7));
                due(made.old(law, k, verdict, what), model.old(law, k, verdict, what), "old", law, k, verdict, what);
            }
            case 37 -> {
                int of = about(10);
                due(made.count(of), model.count(of), "count", of);
                int which = about(5);
                due(made.answers(answer, which), model.answers(answer, which), "answers", answer, which);
            }
            case 38 -> due(made.thing(kind, thing, what), model.thing(kind, thing, what), "thing", kind, thing, what);
            default -> {
                int image = about(4);
                if (rarely(3)) {
                    due(made.back(image), model.back(image), "back", image);
                } else {
                    due(made.image(image), model.image(image), "image", image);
                }
            }
        }
    }

    private static final int NONE = WarmerColder.NONE;

    private void newAnswer() {
        int witness = about(6);
        int kind = about(3);
        int many = model.count(Math.floorMod(kind, 3));
        int one = about(many);
        int other = about(many);
        due(made.answer(witness, kind, one, other), model.answer(witness, kind, one, other),
                "answer", witness, kind, one, other);
    }

    private void tellMore() {
        if (rarely(3)) {
            tell(lawText(), false);
        } else if (rarely(6)) {
            tell(courtText(), true);
        } else if (rarely(3)) {
            int n = about(401);
            due(made.end(n), model.end(n), "end", n);
            due(made.feed(n, 0, 1, 2, 3), model.feed(n, 0, 1, 2, 3), "feed", n, 0, 1, 2, 3);
        }
    }
}
