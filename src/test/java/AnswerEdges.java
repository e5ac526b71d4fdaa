/**
 * Each sentence of part II of the "Terms", and of promises 8 to 29, that names a boundary case, by
 * answers that were worked out by hand. What a test is called tells the sentence.
 */
public final class AnswerEdges {
    private static final int NONE = WarmerColder.NONE;

    private AnswerEdges() {
    }

    public static void main(String[] args) {
        nineOfEachWitness();
        fortyAnswers();
        unlike();
        notFarther();
        struck();
        firstN();
        keptWithForty();
        keptWorlds();
        cleared();
        fewest();
        liars();
        quarrel();
        proofFewest();
        proofTwelve();
        proofWorld();
        byLaws();
        looks();
        sure();
        alone();
        mean();
        filled();
        Due.end("AnswerEdges");
    }

    private static WarmerColder said(String court, String law, int[]... answers) {
        WarmerColder x = Courts.of(court, law);
        for (int[] a : answers) {
            Due.is("8 answer of WITNESS " + a[0], x.answer(a[0], a[1], a[2], a[3]) >= 0, true);
        }
        return x;
    }

    private static int[] by(int witness, int kind, int one, int other) {
        return new int[] {witness, kind, one, other};
    }

    // ---- what is said ----

    /** "at most nine of each WITNESS"; "A STRUCK one counts as one of the nine" */
    private static void nineOfEachWitness() {
        WarmerColder x = Courts.house();
        for (int i = 0; i < 9; i++) {
            Due.is("33 may still give", x.spare(3), 9 - i);
            Due.is("8 number " + i, x.answer(3, i % 3, 0, 1), i);
        }
        Due.is("33 none", x.spare(3), 0);
        Due.is("8 a tenth", x.answer(3, 0, 0, 1), NONE);
        Due.is("8 a tenth, of another KIND", x.answer(3, 2, 2, 1), NONE);
        for (int i = 0; i < 9; i++) {
            x.strike(i, true);
        }
        Due.is("33 none, all STRUCK", x.spare(3), 0);
        Due.is("8 a tenth, all STRUCK", x.answer(3, 0, 0, 1), NONE);
        x.only(0);
        Due.is("33 none, none LOOKED AT", x.spare(3), 0);
        Due.is("8 a tenth, none LOOKED AT", x.answer(3, 0, 0, 1), NONE);
        Due.is("8 still nine", x.count(4), 9);
        Due.is("33 others have nine", x.spare(2) * 10 + x.spare(4), 99);
        Due.is("8 another one's", x.answer(4, 0, 0, 1), 9);
        Due.is("33 another one's eight", x.spare(4), 8);
        // A refused one doesn't count.
        Due.is("8 refused, alike", x.answer(4, 0, 1, 1), NONE);
        Due.is("8 refused, no such thing", x.answer(4, 0, 1, 3), NONE);
        Due.is("33 still eight", x.spare(4), 8);
        Due.court(x, Courts.HOUSE);
        Due.is("33 nine for the next COURT", x.spare(3), 9);
        Due.is("8 first of the next COURT", x.answer(3, 0, 0, 1), 0);
    }

    /** "ANSWERS 0 to 39"; "WITNESSES 0 to 5" */
    private static void fortyAnswers() {
        WarmerColder x = Courts.house();
        for (int i = 0; i < 40; i++) {
            // Six each of WITNESSES 2 to 5, eight each of 0 and 1.
            Due.is("8 number " + i, x.answer(i < 36 ? i % 6 : i % 2, 0, 0, 1), i);
        }
        Due.is("8 a forty-first", x.answer(5, 0, 0, 1), NONE);
        Due.is("38 still 40", x.count(4), 40);
        Due.is("9 ANSWER 39", x.answers(39, 0), 1);
        Due.is("9 ANSWER 40", x.answers(40, 0), NONE);
        Due.is("10 ANSWER 39", x.strike(39, true), true);
        Due.is("10 ANSWER 40", x.strike(40, true), false);
        Due.is("8 a forty-first, one STRUCK", x.answer(5, 0, 0, 1), NONE);
        for (int witness = 0; witness < 6; witness++) {
            Due.is("33 none of WITNESS " + witness, x.spare(witness), 0);
        }
        Due.is("8 WITNESS 5", Courts.house().answer(5, 0, 0, 1), 0);
        Due.is("8 WITNESS 6", Courts.house().answer(6, 0, 0, 1), NONE);
        Due.is("8 WITNESS -1", Courts.house().answer(-1, 0, 0, 1), NONE);
        x = Courts.house();
        for (int i = 0; i < 38; i++) {
            x.answer(i % 5, 0, 0, 1);
        }
        Due.is("33 up to 40", x.spare(5), 2);
        Due.is("33 his nine come first", x.spare(4), 2);
        Due.is("33 his nine come first, one", x.spare(0), 1);
    }

    /** "that one thing is nearer to what he saw than another one (unlike)" */
    private static void unlike() {
        for (int kind = 0; kind < 3; kind++) {
            WarmerColder x = Courts.of(Courts.many(2, 2, 2), Courts.PLAIN);
            Due.is("8 alike 0", x.answer(0, kind, 0, 0), NONE);
            Due.is("8 alike 1", x.answer(0, kind, 1, 1), NONE);
            Due.is("8 alike, but not there", x.answer(0, kind, 2, 2), NONE);
            Due.is("8 none was taken down", x.count(4), 0);
            Due.is("8 unlike", x.answer(0, kind, 0, 1), 0);
            Due.is("8 unlike, turned", x.answer(0, kind, 1, 0), 1);
            Due.is("8 the same again", x.answer(0, kind, 1, 0), 2);
        }
        // Of a KIND with one thing alone nothing can be said.
        WarmerColder x = Courts.of("road 1 1;man 1 1", Courts.PLAIN);
        for (int kind = 0; kind < 3; kind++) {
            Due.is("8 the one of KIND " + kind, x.answer(0, kind, 0, 0), NONE);
            Due.is("8 no other of KIND " + kind, x.answer(0, kind, 0, 1), NONE);
        }
    }

    /** "TRUE ..., if the one is not FARTHER than the other one ...; else FALSE" */
    private static void notFarther() {
        WarmerColder x = Courts.of(Courts.many(3, 1, 1), "hour 5", "hour apart", "hour 5-asked");
        x.answer(0, 0, 0, 2);
        x.answer(0, 0, 2, 0);
        for (int w = 0; w < 3; w++) {
            Due.is("12 both as FAR, WORLD " + w, x.holds(0, 0, w), 1);
            Due.is("12 both as FAR, turned, WORLD " + w, x.holds(0, 1, w), 1);
            Due.is("12 FAR by apart, WORLD " + w, x.holds(1, 0, w), w <= 1 ? 1 : 0);
            Due.is("12 FAR by apart, turned, WORLD " + w, x.holds(1, 1, w), w >= 1 ? 1 : 0);
            Due.is("12 FARTHER everywhere, WORLD " + w, x.holds(2, 0, w), 0);
            Due.is("12 nearer everywhere, WORLD " + w, x.holds(2, 1, w), 1);
        }
    }

    /** "can be STRUCK (it is not looked at ...), and back"; "false, and nothing happens: it is so" */
    private static void struck() {
        WarmerColder x = Courts.quarrelling();
        String before = Due.state(x);
        Due.is("10 back, but it isn't STRUCK", x.strike(3, false), false);
        Due.is("10 none such", x.strike(5, true), false);
        Due.is("10 below 0", x.strike(-1, true), false);
        Due.same("10 nothing happened", Due.state(x), before);
        Due.is("9 not STRUCK", x.answers(3, 4), 0);
        Due.is("10 STRUCK", x.strike(3, true), true);
        Due.is("9 STRUCK", x.answers(3, 4), 1);
        Due.is("9 the next one isn't", x.answers(4, 4), 0);
        Due.is("38 one STRUCK", x.count(5), 1);
        Due.is("38 four LOOKED AT", x.count(6), 4);
        String one = Due.state(x);
        Due.is("10 it is so", x.strike(3, true), false);
        Due.same("10 nothing happened, it is so", Due.state(x), one);
        Due.is("10 back", x.strike(3, false), true);
        Due.same("10 all is as it was", Due.state(x), before);
        for (int i = 0; i < 5; i++) {
            x.strike(i, true);
        }
        Due.is("38 all STRUCK", x.count(5), 5);
        Due.is("38 none LOOKED AT", x.count(6), 0);
        Due.is("14 all KEPT", x.kept(0, 0), 27);
        Due.is("38 still five", x.count(4), 5);
    }

    /** "of the first n (told; all at first)"; "how many were (NONE: all); -2 ... for others" */
    private static void firstN() {
        WarmerColder x = Courts.quarrelling();
        int[] kept = {27, 18, 6, 4, 2, 0, 0};
        int before = NONE;
        for (int n = 0; n <= 6; n++) {
            Due.is("11 first " + n, x.only(n), before);
            Due.is("14 by the first " + n, x.kept(0, 0), kept[n]);
            Due.is("38 LOOKED AT of the first " + n, x.count(6), Math.min(n, 5));
            before = n;
        }
        String state = Due.state(x);
        for (int n : new int[] {-2, 41, Integer.MIN_VALUE, Integer.MAX_VALUE}) {
            Due.is("11 for others, " + n, x.only(n), -2);
            Due.same("11 nothing happens, " + n, Due.state(x), state);
        }
        Due.is("11 40", x.only(40), 6);
        Due.is("11 0", x.only(0), 40);
        Due.is("11 all", x.only(NONE), 0);
        Due.is("11 all again", x.only(NONE), NONE);
        Due.is("38 all LOOKED AT", x.count(6), 5);
        // STRUCK ones are of the first n: it isn't n that are not STRUCK.
        x.strike(0, true);
        x.only(2);
        Due.is("38 one of the first two", x.count(6), 1);
        Due.is("38 STRUCK behind the first, too", x.count(5), 1);
        x.strike(4, true);
        Due.is("38 two STRUCK", x.count(5), 2);
        Due.is("38 still one of the first two", x.count(6), 1);
        // Those that come later are LOOKED AT as far as the first n go.
        x = Courts.house();
        x.only(1);
        x.answer(0, 0, 0, 2);
        x.answer(0, 1, 2, 0);
        Due.is("14 the second isn't LOOKED AT", x.kept(0, 0), 18);
        x.only(NONE);
        Due.is("14 all are", x.kept(0, 0), 6);
        x.answer(0, 2, 0, 1);
        Due.is("14 the third, too", x.kept(0, 0), 2);
        x.only(2);
        Due.court(x, Courts.HOUSE);
        Due.is("4 all are LOOKED AT behind a COURT", x.only(NONE), NONE);
    }

    // ---- which WORLDS hold ----

    /** Forty ANSWERS of WITNESSES 0 to 4, all FALSE in both of two WORLDS. */
    private static WarmerColder fortyFalse() {
        WarmerColder x = Courts.of(Courts.many(2, 1, 1), Courts.GREATER);
        for (int i = 0; i < 40; i++) {
            x.answer(i % 5, 0, 0, 1);
        }
        return x;
    }

    /** "KEPT with k (0 to 40)": as many as there can be. */
    private static void keptWithForty() {
        WarmerColder x = fortyFalse();
        Due.is("13 all FALSE", x.wrong(0, 1), 40);
        Due.is("14 k 39", x.kept(0, 39), 0);
        Due.is("14 k 40", x.kept(0, 40), 2);
        Due.is("14 k 41", x.kept(0, 41), NONE);
        Due.is("15 k 39", x.world(0, 39, 0), -2);
        Due.is("15 k 40", x.world(0, 40, 1), 1);
        Due.is("15 k 40, a third", x.world(0, 40, 2), -2);
        Due.is("16 k 39", x.may(0, 39, 0, 1), 0);
        Due.is("16 k 40", x.may(0, 40, 0, 1), 1);
        Due.is("17 k 39", x.cleared(0, 39), 1);
        Due.is("17 k 40", x.cleared(0, 40), 0);
        Due.is("18 FEWEST", x.fewest(0, 0), 40);
        Due.is("18 BEST", x.fewest(0, 1), 0);
        Due.is("18 so few", x.fewest(0, 2), 2);
        Due.is("19 all forty", x.falseOnes(0), (1L << 40) - 1);
        Due.is("20 all but WITNESS 5", x.liars(0), 31);
        Due.is("21 the first two", x.quarrel(0), 1);
        Due.is("22 none needed for the only MAN", x.proof(0, 0), 0);
        Due.is("23 k 39", x.byLaws(1, 39, 1), 0);
        Due.is("23 k 40", x.byLaws(1, 40, 0), 2);
        Due.is("24 k 39", x.looks(0, 39, 39), 0);
        Due.is("24 k 40", x.looks(0, 40, 39), 2);
        Due.is("25 k 39", x.sure(0, 39, 2), -2);
        Due.is("25 k 40", x.sure(0, 40, 2), 0);
        Due.is("26 of WITNESS 4", x.alone(0, 4), 0);
        Due.is("26 of WITNESS 5", x.alone(0, 5), 2);
        Due.is("27 k 39", x.mean(0, 39, 0), -2);
        Due.is("27 k 40", x.mean(0, 40, 0), 1);
        Due.is("29 39 others, k 38", x.filled(0, 38, 39), 0);
        Due.is("29 39 others, k 39", x.filled(0, 39, 39), 1);
        x.verdict(1);
        Due.is("37 k 39", x.old(0, 39, 0, 0), 0);
        Due.is("37 k 40", x.old(0, 40, 0, 0), 1);
        Due.is("37 k 39, others", x.old(0, 39, 0, 1), 0);
        Due.is("37 k 40, others", x.old(0, 40, 0, 1), 1);
        Due.is("37 forty", x.old(0, 0, 0, 2), 40);
        x.strike(17, true);
        Due.is("14 39 and one STRUCK", x.kept(0, 39), 2);
        Due.is("19 without a STRUCK one", x.falseOnes(0), (1L << 40) - 1 - (1L << 17));
        x.only(3);
        Due.is("14 three, k 2", x.kept(0, 2), 0);
        Due.is("14 three, k 3", x.kept(0, 3), 2);
        Due.is("19 the first three", x.falseOnes(0), 7);
    }

    /** "The i-th KEPT WORLD (from 0 on, by numbers); -2: there is none" */
    private static void keptWorlds() {
        // KEPT are those of HOUR 1, of ROADS 1 and 2, of MEN 0 and 2.
        WarmerColder x = said(Courts.many(2, 3, 3), Courts.SAME, by(0, 0, 1, 0), by(1, 1, 1, 0), by(2, 2, 0, 1));
        int[] kept = {12, 14, 15, 17};
        Due.is("14 KEPT", x.kept(0, 0), 4);
        for (int i = 0; i < 4; i++) {
            Due.is("15 number " + i, x.world(0, 0, i), kept[i]);
        }
        Due.is("15 number 4", x.world(0, 0, 4), -2);
        Due.is("15 number -1", x.world(0, 0, -1), -2);
        Due.is("15 least", x.world(0, 0, Integer.MIN_VALUE), -2);
        Due.is("15 most", x.world(0, 0, Integer.MAX_VALUE), -2);
        Due.is("15 of all, the first", x.world(0, 3, 0), 0);
        Due.is("15 of all, the last", x.world(0, 3, 17), 17);
        Due.is("15 of all, behind the last", x.world(0, 3, 18), -2);
        Due.is("16 of none", x.may(0, 0, 0, 0), 0);
        Due.is("16 of all", x.may(0, 0, 0, 1), 4);
    }

    /** "CLEARED: MEN who are in no KEPT WORLD", as bits */
    private static void cleared() {
        WarmerColder x = Courts.of(Courts.many(1, 1, 8), Courts.SAME, Courts.GREATER);
        x.answer(0, 2, 0, 7);
        Due.is("17 MAN 7", x.cleared(0, 0), 128);
        x.answer(0, 2, 7, 0);
        Due.is("17 MEN 7 and 0", x.cleared(0, 0), 129);
        Due.is("17 nobody with k 1", x.cleared(0, 1), 0);
        Due.is("17 all eight", x.cleared(1, 0), 255);
        x = Courts.of("road 1 1;man 1 1;man 1 1", Courts.GREATER);
        x.answer(0, 2, 0, 1);
        Due.is("17 both there are", x.cleared(0, 0), 3);
    }

    /** "FEWEST: the fewest FALSE ones of any WORLD; BEST: the first WORLD with so few" */
    private static void fewest() {
        WarmerColder x = said(Courts.many(3, 1, 1), Courts.SAME, by(0, 0, 1, 0), by(0, 0, 2, 1), by(0, 0, 0, 2));
        Due.is("18 one everywhere", x.fewest(0, 0), 1);
        Due.is("18 the first", x.fewest(0, 1), 0);
        Due.is("18 all three", x.fewest(0, 2), 3);
        Due.is("19 of the first", x.falseOnes(0), 1);
        x.answer(0, 0, 1, 0);
        Due.is("18 the second", x.fewest(0, 1), 1);
        Due.is("18 two", x.fewest(0, 2), 2);
        Due.is("19 of the second", x.falseOnes(0), 2);
        x.answer(0, 0, 0, 1);
        Due.is("18 the last", x.fewest(0, 1), 2);
        Due.is("18 one", x.fewest(0, 2), 1);
        Due.is("19 of the last", x.falseOnes(0), 4);
        x = Courts.of("road 1 1;man 1 1", Courts.SAME);
        Due.is("18 the only WORLD", x.fewest(0, 2), 1);
        Due.is("18 the only WORLD is BEST", x.fewest(0, 1), 0);
    }

    /** "the fewest WITNESSES without all of whose ANSWERS ...; of several the least set" */
    private static void liars() {
        WarmerColder x = Courts.of(Courts.many(2, 1, 1), Courts.GREATER);
        Due.is("20 nobody said a thing", x.liars(0), 0);
        int all = 0;
        for (int witness = 5; witness >= 0; witness--) {
            x.answer(witness, 0, 0, 1);
            all |= 1 << witness;
            Due.is("20 down to WITNESS " + witness, x.liars(0), all);
        }
        // HOUR 0: 4 and 5 must go, HOUR 1: 0, 1 and 2, HOUR 2: 1 and 3, HOUR 3: 2 and 3.
        x = Courts.of(Courts.many(4, 1, 1), Courts.SAME);
        int[][] out = {{4, 5}, {0, 1, 2}, {1, 3}, {2, 3}};
        for (int h = 0; h < 4; h++) {
            for (int witness : out[h]) {
                x.answer(witness, 0, (h + 1) % 4, h);
            }
        }
        Due.is("20 1 and 3, the least of three sets of two", x.liars(0), 10);
        x.strike(0, true);
        Due.is("20 without a STRUCK one, 5 alone", x.liars(0), 32);
        x.strike(0, false);
        x.only(2);
        Due.is("20 of the first two", x.liars(0), 0);
        x.only(NONE);
        x.answer(1, 0, 1, 0);
        x.answer(3, 0, 1, 0);
        Due.is("20 more ANSWERS of the same do no more", x.liars(0), 10);
        // One liar of number 5 is fewer than two of numbers 0 and 1.
        x = said(Courts.many(2, 1, 1), Courts.SAME, by(0, 0, 0, 1), by(1, 0, 0, 1), by(5, 0, 1, 0));
        Due.is("20 one is fewer than two", x.liars(0), 32);
        x.answer(5, 0, 1, 0);
        x.answer(5, 0, 1, 0);
        Due.is("20 WITNESSES are counted, not ANSWERS", x.liars(0), 32);
    }

    /** "the first two ANSWERS that are LOOKED AT (the least one, then the least other)" */
    private static void quarrel() {
        WarmerColder x = Courts.of(Courts.many(2, 1, 2), Courts.PLAIN);
        Due.is("21 no ANSWER", x.quarrel(0), -2);
        x.answer(0, 0, 0, 1);
        Due.is("21 one ANSWER", x.quarrel(0), -2);
        x.answer(0, 2, 0, 1);
        x.answer(0, 2, 1, 0);
        // By PLAIN, MEN of the same years are as FAR: neither is FALSE.
        Due.is("21 both as FAR", x.quarrel(0), -2);
        x.answer(1, 0, 1, 0);
        Due.is("21 of one's and another's", x.quarrel(0), 3);
        x = Courts.of(Courts.many(2, 1, 1), Courts.SAME);
        x.answer(0, 0, 0, 1);
        x.answer(0, 0, 1, 0);
        Due.is("21 of one and the same WITNESS", x.quarrel(0), 1);
        // The last two of forty.
        x = Courts.of("hours 2;road 1 1;man 1 0;man 2 0", "man dyears");
        for (int i = 0; i < 38; i++) {
            x.answer(i % 5, 2, 0, 1);
        }
        Due.is("21 none among 38", x.quarrel(0), -2);
        x.answer(5, 0, 0, 1);
        x.answer(5, 0, 1, 0);
        Due.is("21 38 and 39", x.quarrel(0), 64 * 38 + 39);
        x.strike(0, true);
        Due.is("21 numbers are those of all ANSWERS", x.quarrel(0), 64 * 38 + 39);
        x.only(39);
        Due.is("21 39 isn't LOOKED AT", x.quarrel(0), -2);
        x.only(40);
        x.strike(38, true);
        Due.is("21 38 is STRUCK", x.quarrel(0), -2);
        // The least one goes ahead of the least other: 0 with 3, not 1 with 2.
        x = said("hours 2;road 1 1;man 1 0;man 2 0", "man dyears",
                by(0, 0, 0, 1), by(0, 2, 0, 1), by(0, 2, 1, 0), by(0, 0, 1, 0), by(0, 0, 1, 0));
        Due.is("21 0 and 3, not 1 and 2, not 0 and 4", x.quarrel(0), 3);
        x.strike(0, true);
        Due.is("21 1 and 2 then", x.quarrel(0), 64 + 2);
        // Of eight each: both are TRUE in one thing, be it 7 or 0, or in none of one KIND.
        for (int kind = 0; kind < 3; kind++) {
            x = said(Courts.lines(8, 8, 8), Courts.PLAIN, by(0, kind, 7, 6), by(0, kind, 6, 7));
            Due.is("21 none of eight, KIND " + kind, x.quarrel(0), 1);
            x = said(Courts.lines(8, 8, 8), Courts.PLAIN, by(0, kind, 7, 6), by(0, kind, 7, 0));
            Due.is("21 the last of eight, KIND " + kind, x.quarrel(0), -2);
            x = said(Courts.lines(8, 8, 8), Courts.PLAIN, by(0, kind, 0, 1), by(0, kind, 0, 7));
            Due.is("21 the first of eight, KIND " + kind, x.quarrel(0), -2);
            x = said(Courts.lines(8, 8, 8), Courts.PLAIN, by(0, kind, 7, 6), by(0, (kind + 1) % 3, 0, 1));
            Due.is("21 of two KINDS, " + kind, x.quarrel(0), -2);
        }
        // One that is TRUE in no WORLD is no two, but it quarrels with any.
        x = Courts.of(Courts.many(2, 1, 1), Courts.GREATER);
        x.answer(0, 0, 0, 1);
        Due.is("21 one alone that is never TRUE", x.quarrel(0), -2);
        x.answer(0, 0, 1, 0);
        Due.is("21 with one that always is", x.quarrel(0), 1);
    }

    // ---- PROOF ----

    /** "the fewest so that each WORLD in which these are TRUE has him ...; of several the least" */
    private static void proofFewest() {
        WarmerColder x = said(Courts.many(1, 1, 4), Courts.SAME,
                by(0, 2, 0, 1), by(0, 2, 0, 2), by(0, 2, 0, 3), by(0, 2, 1, 2), by(0, 2, 1, 3));
        // 0: not MAN 1, 1: not 2, 2: not 3, 3: not 2, 4: not 3.
        Due.is("22 not 1, 2, 3: the least of four", x.proof(0, 0), 7);
        Due.is("22 none for MAN 1: nobody rules MAN 0 out", x.proof(0, 1), -2);
        x.answer(1, 2, 1, 0);
        Due.is("22 not 2, 3 and 0", x.proof(0, 1), 38);
        x.strike(1, true);
        // Places are now those of 0, 2, 3, 4, 5.
        Due.is("22 by places among the LOOKED AT", x.proof(0, 1), 16 + 4 + 2);
        x.only(5);
        Due.is("22 5 isn't LOOKED AT", x.proof(0, 1), -2);
        x.only(4);
        Due.is("22 0, 2 and 3, places 0 to 2", x.proof(0, 0), 7);
        x.only(3);
        Due.is("22 nobody rules MAN 2 out", x.proof(0, 0), -2);
        // 0 is TRUE in MEN 0 and 1, 1 in 0 and 2, 2 in 0 alone: 4 is fewer than 3, though it is greater.
        x = Courts.of(Courts.many(1, 1, 3), "man 0 if asked=seen or asked=1 and seen=2;man 1");
        x.answer(0, 2, 0, 2);
        x.answer(1, 2, 2, 1);
        Due.is("22 both", x.proof(0, 0), 3);
        x.answer(2, 2, 0, 1);
        Due.is("22 the fewest, though it is greater", x.proof(0, 0), 4);
        x.answer(3, 2, 0, 1);
        Due.is("22 of as few the least", x.proof(0, 0), 4);
        // One MAN alone: no ANSWER is needed, whatever was said.
        x = Courts.of(Courts.many(2, 1, 1), Courts.GREATER);
        Due.is("22 the only MAN", x.proof(0, 0), 0);
        x.answer(0, 0, 0, 1);
        Due.is("22 the only MAN, though all is FALSE", x.proof(0, 0), 0);
    }

    /** "of the first twelve ANSWERS that are LOOKED AT ... (bits by their place among the twelve)" */
    private static void proofTwelve() {
        WarmerColder x = Courts.of(Courts.many(2, 1, 2), Courts.SAME);
        for (int i = 0; i < 11; i++) {
            x.answer(i / 9, 0, 0, 1);
        }
        Due.is("22 none among eleven", x.proof(0, 0), -2);
        x.answer(2, 2, 0, 1);
        Due.is("22 the twelfth", x.proof(0, 0), 2048);
        x.answer(2, 2, 1, 0);
        Due.is("22 the thirteenth", x.proof(0, 1), -2);
        x.strike(11, true);
        Due.is("22 the thirteenth is the twelfth then", x.proof(0, 1), 2048);
        Due.is("22 a STRUCK one is none", x.proof(0, 0), -2);
        x.strike(11, false);
        x.strike(0, true);
        x.strike(1, true);
        Due.is("22 two places up", x.proof(0, 0), 512);
        Due.is("22 two places up, the other", x.proof(0, 1), 1024);
        // All twelve: HOURS and ROADS do not prove, MEN 1 to 7 are ruled out by seven.
        x = Courts.of(Courts.many(1, 1, 8), Courts.SAME);
        for (int i = 0; i < 5; i++) {
            x.answer(0, 2, 0, 7);
        }
        for (int i = 1; i < 8; i++) {
            x.answer(1, 2, 0, i);
        }
        Due.is("22 0 and 5 to 10", x.proof(0, 0), 1 + 2016);
    }

    /** "and there is such a WORLD" */
    private static void proofWorld() {
        WarmerColder x = said(Courts.many(2, 1, 2), Courts.SAME, by(0, 0, 0, 1), by(0, 0, 1, 0), by(0, 2, 0, 1));
        Due.is("22 MAN 0 by the third alone", x.proof(0, 0), 4);
        Due.is("22 not MAN 1 by no WORLD", x.proof(0, 1), -2);
        // No WORLD by two ANSWERS on ROADS, on HOURS, on another MAN.
        for (int kind = 0; kind < 2; kind++) {
            x = said(Courts.many(2, 2, 1), Courts.SAME, by(0, kind, 0, 1), by(0, kind, 1, 0));
            Due.is("22 the only MAN, by no ANSWER", x.proof(0, 0), 0);
            x = said(Courts.many(2, 2, 2), Courts.SAME, by(0, kind, 0, 1), by(0, kind, 1, 0));
            Due.is("22 no MAN by the quarrel, KIND " + kind, x.proof(0, 0), -2);
            Due.is("22 no other MAN by it, KIND " + kind, x.proof(0, 1), -2);
            Due.is("21 of KIND " + kind, x.quarrel(0), 1);
        }
        x = said(Courts.many(1, 1, 2), Courts.SAME, by(0, 2, 0, 1), by(0, 2, 1, 0));
        Due.is("21 of MEN", x.quarrel(0), 1);
        Due.is("22 MAN 0, not by both", x.proof(0, 0), 1);
        Due.is("22 MAN 1, not by both", x.proof(0, 1), 2);
        x = said(Courts.many(1, 2, 2), Courts.GREATER, by(0, 1, 0, 1), by(0, 2, 0, 1));
        Due.is("22 no WORLD by either", x.proof(0, 0), -2);
        Due.is("22 no WORLD by either, MAN 1", x.proof(0, 1), -2);
    }

    // ---- more of what is KEPT ----

    /** "BY LAWS (a set of them, one at least)" */
    private static void byLaws() {
        WarmerColder x = Courts.of(Courts.many(4, 1, 1), Courts.SAME, "hour apart", "hour 1");
        x.answer(0, 0, 0, 3);
        // By 0: HOURS 0 to 2, by 1: 0 and 1, by 2: all.
        int[] each = {0, 3, 2, 2, 4, 3, 2, 2};
        int[] some = {0, 3, 2, 3, 4, 4, 4, 4};
        for (int set = 1; set < 8; set++) {
            Due.is("23 by each of " + set, x.byLaws(set, 0, 0), each[set]);
            Due.is("23 by some of " + set, x.byLaws(set, 0, 1), some[set]);
            Due.is("23 with one FALSE, by each of " + set, x.byLaws(set, 1, 0), 4);
        }
        Due.is("23 none at all", x.byLaws(0, 0, 1), NONE);
        Due.is("23 a LAW that there isn't", x.byLaws(8, 0, 1), NONE);
        Due.is("23 a LAW that there isn't, too", x.byLaws(9, 0, 1), NONE);
        Due.is("23 the sign", x.byLaws(Integer.MIN_VALUE + 1, 0, 1), NONE);
        Due.is("23 all bits", x.byLaws(-1, 0, 1), NONE);
        Due.is("23 bit 30", x.byLaws((1 << 30) + 1, 0, 1), NONE);
        x.answer(0, 0, 0, 1);
        x.answer(0, 0, 1, 0);
        // By 0: neither 0 nor 1 nor 3, by 1: none (2 and 3 aren't nearer to 0 than to 3).
        Due.is("23 by each, none", x.byLaws(3, 0, 0), 0);
        Due.is("23 by some, HOUR 2", x.byLaws(3, 0, 1), 1);
    }

    /** "LOOKS of an ANSWER (STRUCK or not): in how many KEPT WORLDS it is FALSE" */
    private static void looks() {
        WarmerColder x = said(Courts.many(3, 2, 1), Courts.SAME, by(0, 0, 0, 1), by(0, 1, 0, 1), by(0, 0, 1, 0));
        // KEPT is (2, 0): HOUR 2, ROAD 0.
        for (int a = 0; a < 3; a++) {
            Due.is("24 FALSE in no KEPT WORLD, " + a, x.looks(0, 0, a), 0);
        }
        x.strike(0, true);
        Due.is("24 STRUCK: HOUR 1 is KEPT", x.looks(0, 0, 0), 1);
        x.strike(0, false);
        x.only(1);
        Due.is("24 not LOOKED AT: HOURS 0, 2, ROAD 1", x.looks(0, 0, 1), 2);
        Due.is("24 not LOOKED AT: HOUR 0, both ROADS", x.looks(0, 0, 2), 2);
        x.only(0);
        Due.is("24 of all six", x.looks(0, 0, 1), 3);
        WarmerColder y = said(Courts.many(3, 2, 1), Courts.GREATER, by(0, 0, 0, 1));
        Due.is("24 FALSE in all", y.looks(0, 1, 0), 6);
        Due.is("24 no KEPT WORLD", y.looks(0, 0, 0), 0);
    }

    /** "the one thing of it that all KEPT WORLDS have"; "-2: there is no such one, or no WORLD" */
    private static void sure() {
        WarmerColder x = Courts.of(Courts.many(1, 8, 2), Courts.SAME);
        Due.is("25 the only HOUR", x.sure(0, 0, 0), 0);
        Due.is("25 no one ROAD", x.sure(0, 0, 1), -2);
        for (int road = 0; road < 7; road++) {
            Due.is("25 " + (8 - road) + " ROADS are left", x.sure(0, 0, 1), -2);
            x.answer(0, 1, 7, road);
        }
        Due.is("25 ROAD 7", x.sure(0, 0, 1), 7);
        Due.is("25 k 1, no one ROAD", x.sure(0, 1, 1), -2);
        Due.is("25 no one MAN", x.sure(0, 0, 2), -2);
        x.answer(0, 1, 0, 7);
        Due.is("25 no WORLD", x.sure(0, 0, 1), -2);
        Due.is("25 no WORLD, of the only HOUR", x.sure(0, 0, 0), -2);
        Due.is("25 k 1 again", x.sure(0, 1, 0), 0);
    }

    /** "WORLDS in which none of his ANSWERS that are LOOKED AT is FALSE" */
    private static void alone() {
        WarmerColder x = said(Courts.many(3, 2, 2), Courts.SAME,
                by(0, 0, 0, 1), by(0, 0, 1, 0), by(5, 0, 0, 2), by(5, 1, 0, 1));
        Due.is("26 HOUR 2", x.alone(0, 0), 4);
        Due.is("26 HOURS 0 and 1, ROAD 0", x.alone(0, 5), 4);
        Due.is("26 nothing said", x.alone(0, 3), 12);
        x.strike(0, true);
        Due.is("26 a STRUCK one isn't LOOKED AT", x.alone(0, 0), 8);
        x.only(3);
        Due.is("26 the fourth isn't, either", x.alone(0, 5), 8);
        x.only(0);
        Due.is("26 none is", x.alone(0, 5), 12);
        x.only(NONE);
        x.answer(5, 0, 0, 1);
        x.answer(5, 0, 1, 0);
        Due.is("26 no WORLD", x.alone(0, 5), 0);
    }

    /** "by how many these are, downwards"; "-2: no WORLD" */
    private static void mean() {
        WarmerColder x = Courts.of("hours 3;road 0 99;road 1 99;road 1 98;man 1 1;man 1 1", Courts.SAME);
        Due.is("27 two thirds", x.mean(0, 0, 0), 0);
        Due.is("27 98 and two thirds", x.mean(0, 0, 1), 98);
        x.answer(0, 1, 1, 0);
        Due.is("27 just 1", x.mean(0, 0, 0), 1);
        Due.is("27 98 and a half", x.mean(0, 0, 1), 98);
        x.answer(0, 1, 1, 2);
        Due.is("27 one ROAD", x.mean(0, 0, 1), 99);
        x.answer(0, 1, 2, 1);
        Due.is("27 no WORLD, x", x.mean(0, 0, 0), -2);
        Due.is("27 no WORLD, y", x.mean(0, 0, 1), -2);
        x = Courts.of("road 0 5;road 1 5;road 1 5;man 1 1", Courts.SAME);
        Due.is("27 two by three", x.mean(0, 0, 0), 0);
        Due.is("27 fifteen by three", x.mean(0, 0, 1), 5);
        x = Courts.of("road 7 0;man 1 1", Courts.SAME);
        Due.is("27 of one WORLD", x.mean(0, 0, 0), 7);
        Due.is("27 of one WORLD, 0", x.mean(0, 0, 1), 0);
        // Each KEPT WORLD counts, not each ROAD: HOUR 0 has both ROADS with one FALSE, HOUR 1 one.
        x = said("hours 2;road 0 0;road 9 3;man 1 1", Courts.SAME, by(0, 0, 0, 1), by(0, 1, 1, 0));
        Due.is("27 of three WORLDS, two of ROAD 1", x.mean(0, 1, 0), 6);
        Due.is("27 y of three WORLDS", x.mean(0, 1, 1), 2);
        x = Courts.of("hours 8" + ";road 99 98".repeat(8) + ";man 99 9".repeat(8), Courts.SAME);
        Due.is("27 the most", x.mean(0, 0, 0), 99);
        Due.is("27 the most but one", x.mean(0, 0, 1), 98);
    }

    /** "how many pairs (one, other, unlike, of its KIND) would, in its place, be TRUE in some WORLD" */
    private static void filled() {
        WarmerColder x = said(Courts.many(3, 2, 1), Courts.SAME, by(0, 0, 0, 1), by(0, 0, 0, 2), by(0, 1, 0, 1));
        // By SAME, (one, other) is FALSE just with the other one.
        Due.is("29 without 0, HOURS 0 and 1 are left", x.filled(0, 0, 0), 6);
        Due.is("29 without 2, both ROADS are left", x.filled(0, 0, 2), 2);
        x.answer(0, 0, 2, 0);
        // Without 0, HOUR 1 alone is left: neither (0, 1) nor (2, 1) is TRUE.
        Due.is("29 HOUR 1 alone", x.filled(0, 0, 0), 4);
        Due.is("29 HOUR 2 alone", x.filled(0, 0, 1), 4);
        Due.is("29 HOUR 0 alone", x.filled(0, 0, 3), 4);
        Due.is("29 no HOUR by all others", x.filled(0, 0, 2), 0);
        Due.is("29 all HOURS with one FALSE", x.filled(0, 1, 0), 6);
        x.strike(0, true);
        Due.is("29 STRUCK or not", x.filled(0, 0, 0), 4);
        Due.is("29 other ones, as it is STRUCK: HOUR 1", x.filled(0, 0, 2), 2);
        Due.is("29 without 1, HOURS 1 and 2", x.filled(0, 0, 1), 6);
        x.strike(0, false);
        x.only(1);
        Due.is("29 behind the first n: HOURS 0 and 2", x.filled(0, 0, 3), 6);
        Due.is("29 the only one: all", x.filled(0, 0, 0), 6);
        // Two of each KIND: two pairs; eight: 56.
        for (int kind = 0; kind < 3; kind++) {
            x = said(Courts.many(8, 8, 8), Courts.SAME, by(0, kind, 6, 7), by(0, kind, 7, 6));
            Due.is("29 seven of eight of KIND " + kind, x.filled(0, 0, 0), 56);
            Due.is("29 seven of eight, turned, of KIND " + kind, x.filled(0, 0, 1), 56);
            x = said(Courts.many(8, 8, 8), Courts.GREATER, by(0, kind, 6, 7));
            Due.is("29 half of them of KIND " + kind, x.filled(0, 0, 0), 28);
        }
        Due.is("29 two ROADS", said(Courts.many(1, 2, 1), "road 1", by(0, 1, 0, 1)).filled(0, 0, 0), 2);
        Due.is("29 eight MEN", said(Courts.many(1, 1, 8), "man 1", by(0, 2, 0, 1)).filled(0, 0, 0), 56);
        Due.is("29 by GREATER, half of them", said(Courts.many(1, 1, 8), Courts.GREATER, by(0, 2, 0, 1)).filled(0, 0, 0), 28);
    }
}
