/**
 * Each sentence on new objects, COURTS in place of others, VERDICTS and IMAGES (promises 1, 4, 5 and
 * 36 to 40) that names a boundary case, by answers that were worked out by hand. What a test is
 * called tells the sentence.
 */
public final class StateEdges {
    private static final int NONE = WarmerColder.NONE;
    private static final long NO_FAR = -1000000000000L;

    private StateEdges() {
    }

    public static void main(String[] args) {
        newObject();
        courtInPlace();
        courtMeasuredAnew();
        lawsOfAnyTime();
        verdictsAreTen();
        verdictRefused();
        oldAnswers();
        oldStruck();
        oldOthers();
        counts();
        imageOfNothing();
        imagesAreFour();
        imageHasAllBut();
        imageStays();
        backNeverMade();
        askingChangesNothing();
        fiveHundredAndTwelve();
        twoObjects();
        Due.end("StateEdges");
    }

    /** "No COURT, no LAWS." */
    private static void newObject() {
        WarmerColder x = new WarmerColder();
        for (int what = 0; what < 10; what++) {
            Due.is("38 new, what " + what, x.count(what), 0);
        }
        Due.is("38 new, what 10", x.count(10), NONE);
        for (int k = -1; k < 5; k++) {
            Due.is("40 new, IMAGE " + k, x.back(k), NONE);
        }
        Due.is("36 new, a WORLD", x.verdict(0), -2);
        Due.is("36 new, none then", x.verdict(NONE), 0);
        Due.is("11 new, all are LOOKED AT", x.only(NONE), NONE);
        Due.is("34 new, x is 0", x.seed(0), 0);
        Due.is("3 new, an empty TAPE", x.end(0), 0);
        Due.is("3 new, no byte", x.end(1), NONE);
        Due.is("4 new, no COURT is told", x.court(), Due.fault(0, 0));
        Due.is("5 new, no LAW is told", x.law(), Due.fault(0, 0));
        Due.is("8 new, nothing to be said", x.answer(0, 1, 0, 1), NONE);
        Due.is("33 new, nine", x.spare(5), 9);
        Due.is("33 new, no such WITNESS", x.spare(6), NONE);
        Due.is("10 new, nothing to strike", x.strike(0, true), false);
        for (int what = 0; what < 10; what++) {
            Due.is("38 still new, what " + what, x.count(what), 0);
        }
    }

    private static WarmerColder busy() {
        WarmerColder x = Courts.quarrelling();
        x.strike(1, true);
        x.only(4);
        x.verdict(7);
        x.verdict(26);
        x.seed(99);
        return x;
    }

    /** "in place of the one there was (no ANSWERS, all are LOOKED AT, no VERDICTS; x, IMAGES stay)" */
    private static void courtInPlace() {
        WarmerColder x = busy();
        x.image(0);
        String before = Due.state(x);
        Due.is("4 the same COURT again", Due.court(x, Courts.HOUSE), 27);
        int[] want = {3, 3, 3, 1, 0, 0, 0, 0, 99, 0};
        for (int what = 0; what < 10; what++) {
            Due.is("4 what " + what, x.count(what), want[what]);
        }
        Due.is("4 all are LOOKED AT", x.only(NONE), NONE);
        Due.is("4 no ANSWER", x.answers(0, 0), NONE);
        Due.is("4 no VERDICT", x.old(0, 0, 0, 0), NONE);
        Due.is("4 all WORLDS KEPT", x.kept(0, 0), 27);
        Due.is("4 nine again", x.spare(0), 9);
        Due.is("4 numbers from 0 on", x.answer(0, 0, 0, 1), 0);
        Due.is("4 it isn't STRUCK", x.answers(0, 4), 0);
        Due.is("4 it is the second that was", x.answer(1, 0, 0, 1), 1);
        Due.is("4 it isn't STRUCK, either", x.answers(1, 4), 0);
        Due.is("4 IMAGES stay", x.back(0), 5);
        Due.same("4 the IMAGE is as it was", Due.state(x), before);
    }

    /** FAR and NEXT are those of the COURT that there is. */
    private static void courtMeasuredAnew() {
        WarmerColder x = Courts.of("hours 8;road 0 0;road 3 4;man 1 1", "road dx*dx+dy*dy");
        Due.is("7 of the first COURT", x.far(0, 1, 0, 1), 25);
        Due.is("28 of the first COURT", x.useful(0, 0, 0), 29);
        x.image(1);
        Due.court(x, "road 0 0;road 3 0;man 1 1;man 2 1");
        Due.is("7 of the second COURT", x.far(0, 1, 0, 1), 9);
        Due.is("7 no HOUR 1 any more", x.far(0, 0, 0, 1), NO_FAR);
        Due.is("28 of the second COURT", x.useful(0, 0, 0), 2);
        Due.is("30 of the second COURT", x.next(0, 0, 0, 0), 1);
        x.back(1);
        Due.is("7 of the first COURT again", x.far(0, 1, 0, 1), 25);
        Due.is("7 HOUR 1 again", x.far(0, 0, 0, 1), 1);
        Due.is("28 of the first COURT again", x.useful(0, 0, 0), 29);
        Due.court(x, "road 0 0;man 1 1");
        Due.is("7 one ROAD", x.far(0, 1, 0, 0), 0);
        Due.is("7 no second ROAD", x.far(0, 1, 0, 1), NO_FAR);
        Due.is("30 no PAIR", x.next(0, 0, 0, 0), -2);
    }

    /** LAWS are read where there is no COURT, and stay whatever the COURT. */
    private static void lawsOfAnyTime() {
        WarmerColder x = new WarmerColder();
        Due.is("5 without a COURT", Due.law(x, "man dyears"), 0);
        Due.court(x, Courts.HOUSE);
        Due.is("7 read ahead of the COURT", x.far(0, 2, 0, 1), 10);
        Due.is("5 with a COURT", Due.law(x, "man dyears*2"), 1);
        Due.is("7 read behind the COURT", x.far(1, 2, 0, 1), 20);
        Due.court(x, "road 1 1;man 1 1;man 8 1");
        Due.is("7 another COURT", x.far(0, 2, 0, 1), 7);
        Due.is("7 another COURT, LAW 1", x.far(1, 2, 0, 1), 14);
        Due.is("7 no LAW 2", x.far(2, 2, 0, 1), NO_FAR);
        // A FAULT behind CLAUSES leaves the next LAW as it is told.
        Due.is("5 a FAULT", Due.law(x, "man 7 if 1=1;hour 8;road"), Due.fault(24, 0));
        Due.is("7 no LAW by it", x.far(2, 2, 0, 1), NO_FAR);
        Due.is("5 the next one has its number", Due.law(x, "road 5"), 2);
        Due.is("7 none of it", x.far(2, 2, 0, 1), 1);
    }

    // ---- VERDICTS ----

    /** "VERDICTS 0 to 9"; "-2, and nothing happens, ... if there are 10"; "(NONE: there are none then, 0)" */
    private static void verdictsAreTen() {
        WarmerColder x = Courts.house();
        for (int i = 0; i < 10; i++) {
            Due.is("37 no VERDICT " + i + " yet", x.old(0, 0, i, 2), NONE);
            Due.is("36 number " + i, x.verdict(i), i + 1);
            Due.is("37 VERDICT " + i, x.old(0, 0, i, 2), i);
            x.answer(i % 6, 0, 0, 1);
        }
        String before = Due.state(x);
        Due.is("36 an eleventh", x.verdict(0), -2);
        Due.is("36 an eleventh, of no WORLD", x.verdict(27), -2);
        Due.same("36 nothing happened", Due.state(x), before);
        Due.is("37 VERDICT 10", x.old(0, 0, 10, 0), NONE);
        Due.is("37 VERDICT -1", x.old(0, 0, -1, 0), NONE);
        Due.is("36 none then", x.verdict(NONE), 0);
        Due.is("38 none", x.count(7), 0);
        Due.is("37 no VERDICT 0 any more", x.old(0, 0, 0, 0), NONE);
        Due.is("38 ANSWERS stay", x.count(4), 10);
        Due.is("36 none of none", x.verdict(NONE), 0);
        Due.is("36 the first again", x.verdict(26), 1);
        Due.is("37 the first again", x.old(0, 0, 0, 2), 10);
    }

    /** "-2, and nothing happens, without that WORLD" */
    private static void verdictRefused() {
        WarmerColder x = Courts.of(Courts.many(2, 3, 4), Courts.PLAIN);
        Due.is("36 the last WORLD", x.verdict(23), 1);
        Due.is("36 the first WORLD", x.verdict(0), 2);
        for (int world : new int[] {24, 25, -2, 512, Integer.MIN_VALUE, Integer.MAX_VALUE}) {
            Due.is("36 no WORLD " + world, x.verdict(world), -2);
            Due.is("38 still two", x.count(7), 2);
        }
        Due.is("36 without a COURT", new WarmerColder().verdict(0), -2);
        Due.is("36 LAWS aren't asked for", Courts.of(Courts.HOUSE).verdict(26), 1);
    }

    /** "by ANSWERS that there were": not by later ones, not by the first n alone. */
    private static void oldAnswers() {
        WarmerColder x = Courts.of(Courts.many(3, 1, 1), Courts.SAME);
        x.verdict(1);
        x.answer(0, 0, 0, 1);
        x.verdict(1);
        x.answer(0, 0, 1, 0);
        x.verdict(2);
        int[] was = {1, 0, 1};
        int[] others = {2, 2, 0};
        for (int n = -1; n < 4; n++) {
            x.only(n);
            for (int v = 0; v < 3; v++) {
                Due.is("37 KEPT, VERDICT " + v + ", first " + n, x.old(0, 0, v, 0), was[v]);
                Due.is("37 others, VERDICT " + v + ", first " + n, x.old(0, 0, v, 1), others[v]);
                Due.is("37 ANSWERS, VERDICT " + v + ", first " + n, x.old(0, 0, v, 2), v);
            }
        }
    }

    /** "(STRUCK as they are now)" */
    private static void oldStruck() {
        WarmerColder x = Courts.of(Courts.many(3, 1, 1), Courts.SAME);
        x.answer(0, 0, 0, 1);
        x.answer(0, 0, 0, 2);
        x.strike(0, true);
        x.verdict(1);
        Due.is("37 0 is STRUCK: 1 is KEPT", x.old(0, 0, 0, 0), 1);
        Due.is("37 so is 0", x.old(0, 0, 0, 1), 1);
        Due.is("37 STRUCK ones are counted", x.old(0, 0, 0, 2), 2);
        x.strike(0, false);
        Due.is("37 0 is back: 1 isn't KEPT", x.old(0, 0, 0, 0), 0);
        Due.is("37 0 is", x.old(0, 0, 0, 1), 1);
        x.strike(1, true);
        Due.is("37 1 is STRUCK: 2 is KEPT, too", x.old(0, 0, 0, 1), 2);
        x.strike(0, true);
        Due.is("37 both are STRUCK", x.old(0, 0, 0, 0) * 10 + x.old(0, 0, 0, 1), 12);
    }

    /** "how many others were": with k, by each LAW, at the edges of k */
    private static void oldOthers() {
        WarmerColder x = Courts.of(Courts.many(3, 1, 1), Courts.SAME, Courts.GREATER);
        x.answer(0, 0, 0, 1);
        x.answer(0, 0, 0, 1);
        x.verdict(1);
        int[] was = {0, 0, 1};
        for (int k = 0; k < 3; k++) {
            Due.is("37 with k " + k, x.old(0, k, 0, 0), was[k]);
            Due.is("37 others with k " + k, x.old(0, k, 0, 1), 2);
            Due.is("37 by LAW 1 with k " + k, x.old(1, k, 0, 0), was[k]);
            Due.is("37 others by LAW 1 with k " + k, x.old(1, k, 0, 1), k < 2 ? 0 : 2);
        }
        Due.is("37 with k 40", x.old(0, 40, 0, 0), 1);
        Due.is("37 with k 41", x.old(0, 41, 0, 0), NONE);
        Due.is("37 with k -1", x.old(0, -1, 0, 0), NONE);
        WarmerColder one = Courts.of(Courts.many(1, 1, 1), Courts.PLAIN);
        one.verdict(0);
        Due.is("37 the only WORLD", one.old(0, 0, 0, 0), 1);
        Due.is("37 no others", one.old(0, 0, 0, 1), 0);
        Due.is("37 no ANSWERS", one.old(0, 0, 0, 2), 0);
    }

    // ---- counts and IMAGES ----

    /** "0: HOURS, 1: ROADS, 2: MEN (0 without a COURT) ... NONE for others" */
    private static void counts() {
        WarmerColder x = busy();
        Due.tape(x, "hour");
        int[] want = {3, 3, 3, 1, 5, 1, 3, 2, 99, 4};
        for (int what = 0; what < 10; what++) {
            Due.is("38 what " + what, x.count(what), want[what]);
        }
        for (int what : new int[] {-1, 10, 11, Integer.MIN_VALUE, Integer.MAX_VALUE}) {
            Due.is("38 what " + what, x.count(what), NONE);
        }
        x.only(0);
        Due.is("38 none LOOKED AT", x.count(6), 0);
        x.only(1);
        Due.is("38 the first", x.count(6), 1);
        x.only(2);
        Due.is("38 the second is STRUCK", x.count(6), 1);
        Due.is("38 ANSWERS, whatever is LOOKED AT", x.count(4), 5);
        Due.is("38 STRUCK, whatever is LOOKED AT", x.count(5), 1);
    }

    /** "An IMAGE is made (also where nothing was told yet): how many ANSWERS" */
    private static void imageOfNothing() {
        WarmerColder x = new WarmerColder();
        for (int k = 0; k < 4; k++) {
            Due.is("39 of nothing, " + k, x.image(k), 0);
        }
        Due.is("40 to nothing, at once", x.back(2), 0);
        Due.court(x, Courts.HOUSE);
        Due.law(x, Courts.PLAIN);
        x.answer(0, 0, 0, 1);
        x.only(1);
        x.seed(5);
        x.verdict(0);
        Due.is("40 to nothing", x.back(3), 0);
        int[] want = {0, 0, 0, 1, 0, 0, 0, 0, 0, 0};
        for (int what = 0; what < 10; what++) {
            Due.is("40 to nothing, what " + what, x.count(what), want[what]);
        }
        Due.is("40 to nothing, first n", x.only(NONE), NONE);
        Due.is("40 no COURT, KEPT", x.kept(0, 0), NONE);
        Due.is("40 no COURT, FAR", x.far(0, 0, 0, 0), NO_FAR);
        Due.is("40 no COURT, TRIALS", x.trials(0, 1, 0), NONE);
        Due.is("40 no COURT, a VERDICT", x.verdict(0), -2);
        Due.is("40 no COURT, an ANSWER", x.answer(0, 0, 0, 1), NONE);
        Due.is("40 a COURT again", Due.court(x, Courts.HOUSE), 27);
        Due.is("40 by the LAW that stayed", x.far(0, 1, 0, 1), 25);
    }

    /** "IMAGES 0 to 3"; "NONE for another k" */
    private static void imagesAreFour() {
        WarmerColder x = Courts.house();
        for (int k = 0; k < 4; k++) {
            x.seed(10 + k);
            Due.is("39 IMAGE " + k, x.image(k), k);
            x.answer(k, 0, 0, 1);
        }
        for (int k : new int[] {-1, 4, 5, Integer.MIN_VALUE, Integer.MAX_VALUE}) {
            Due.is("39 no IMAGE " + k, x.image(k), NONE);
            Due.is("40 no IMAGE " + k, x.back(k), NONE);
            Due.is("40 nothing happened, " + k, x.count(4) * 100 + x.count(8), 413);
        }
        int[] order = {3, 0, 2, 1, 3};
        for (int k : order) {
            Due.is("40 IMAGE " + k, x.back(k), k);
            Due.is("40 ANSWERS of IMAGE " + k, x.count(4), k);
            Due.is("40 x of IMAGE " + k, x.count(8), 10 + k);
        }
    }

    /** "all but the TAPE and the LAWS, as it is; gone back to, it is as it was (these stay)" */
    private static void imageHasAllBut() {
        WarmerColder x = busy();
        String before = Due.state(x);
        Due.is("39 five ANSWERS", x.image(1), 5);
        Due.same("39 nothing else happens", Due.state(x), before);
        x.strike(1, false);
        x.strike(0, true);
        x.only(NONE);
        x.verdict(NONE);
        x.verdict(3);
        x.seed(1);
        x.answer(5, 1, 0, 1);
        Due.is("40 back", x.back(1), 5);
        Due.same("40 it is as it was", Due.state(x), before);
        Due.court(x, "hours 2;road 9 9;man 8 8;man 7 7");
        Due.is("40 back behind another COURT", x.back(1), 5);
        Due.same("40 it is as it was, behind another COURT", Due.state(x), before);
        // Other ANSWERS and VERDICTS in the places of those that there were.
        for (int i = 0; i < 9; i++) {
            x.answer(3 + i % 2, 2, 1, 0);
            x.verdict(i % 4);
        }
        x.strike(4, true);
        x.back(1);
        Due.same("40 it is as it was, behind others", Due.state(x), before);
        Due.is("33 seven of WITNESS 0", x.spare(0), 7);
        Due.is("33 seven of WITNESS 1", x.spare(1), 7);
        // Of more ANSWERS and VERDICTS than there were, none is left.
        for (int i = 0; i < 9; i++) {
            x.answer(5, 0, 1, 2);
            x.verdict(9);
        }
        Due.is("38 many", x.count(4) * 100 + x.count(7), 1410);
        x.back(1);
        Due.same("40 it is as it was, behind many", Due.state(x), before);
        Due.is("33 nine of WITNESS 5", x.spare(5), 9);
        Due.is("9 no ANSWER 5", x.answers(5, 0), NONE);
        // The TAPE and the LAWS stay.
        Due.tape(x, "road 77");
        x.back(1);
        Due.is("40 the TAPE stays", x.count(9), 7);
        Due.is("40 and is a LAW", x.law(), 1);
        x.back(1);
        Due.is("40 the LAW stays", x.count(3), 2);
        Due.is("40 the LAW is asked", x.far(1, 1, 0, 1), 77);
        // A VERDICT's WORLD and how many ANSWERS there were: (26, 5). Of these 0, 2, 4 are FALSE there.
        Due.is("40 VERDICT 1 is of WORLD 26", x.old(0, 3, 1, 0), 1);
        Due.is("40 VERDICT 1, one fewer", x.old(0, 2, 1, 0), 0);
    }

    /** An IMAGE stays as it is, gone back to or not, till it is made again. */
    private static void imageStays() {
        WarmerColder x = Courts.heard();
        x.image(0);
        String before = Due.state(x);
        for (int i = 0; i < 3; i++) {
            x.back(0);
            x.answer(4, 0, 1, 2);
            x.strike(i, true);
            x.only(i);
            x.verdict(i);
            x.seed(100 + i);
        }
        x.image(1);
        x.back(0);
        Due.same("40 the IMAGE is as it was", Due.state(x), before);
        Due.is("40 another IMAGE", x.back(1), 5);
        Due.is("40 x of it", x.count(8), 102);
        Due.is("39 made again", x.image(0), 5);
        x.seed(7);
        Due.is("40 the new one", x.back(0), 5);
        Due.is("40 x of the new one", x.count(8), 102);
        // It is as it was also for one who went back to it and told another COURT.
        Due.court(x, Courts.many(8, 8, 8));
        x.back(0);
        Due.is("40 the COURT of the new one", x.count(0), 3);
    }

    /** "NONE, and nothing happens, if it was never made" */
    private static void backNeverMade() {
        WarmerColder x = busy();
        x.image(1);
        String before = Due.state(x);
        for (int k : new int[] {0, 2, 3}) {
            Due.is("40 never made " + k, x.back(k), NONE);
            Due.same("40 nothing happened " + k, Due.state(x), before);
        }
        Due.is("40 made", x.back(1), 5);
        // Going back to one makes no other.
        Due.is("40 still never made", x.back(0), NONE);
    }

    private static long askAll(WarmerColder x) {
        long sum = 0;
        for (int law = 0; law < 2; law++) {
            for (int k = 0; k < 3; k++) {
                sum = 31 * sum + x.kept(law, k) + x.world(law, k, 1) + x.may(law, k, 1, 1) + x.cleared(law, k);
                sum = 31 * sum + x.looks(law, k, 1) + x.sure(law, k, 1) + x.mean(law, k, 1) + x.useful(law, k, 0);
                sum = 31 * sum + x.filled(law, k, 1) + x.filled(law, k, 2) + x.next(law, k, 1, 1) + x.needed(law, k);
                sum = 31 * sum + x.steered(law, k, 7, 1, 1) + x.old(law, k, 1, 1) + x.byLaws(3, k, 1);
            }
            sum = 31 * sum + x.far(law, 1, 0, 1) + x.holds(law, 1, 7) + x.wrong(law, 7) + x.fewest(law, 1);
            sum = 31 * sum + x.falseOnes(law) + x.liars(law) + x.quarrel(law) + x.proof(law, 1) + x.alone(law, 0);
            sum = 31 * sum + x.trials(law, 20, 0) + x.spare(0) + x.thing(1, 1, 1);
        }
        return sum;
    }

    /** What is only asked changes nothing: "behind it x is as it was" */
    private static void askingChangesNothing() {
        WarmerColder x = busy();
        Due.law(x, "hour 1");
        String before = Due.state(x);
        long first = askAll(x);
        Due.same("all is as it was", Due.state(x), before);
        Due.is("what is asked again", askAll(x), first);
        // FILLED looks away from an ANSWER, OLD from later ones; KEPT has them again.
        Due.is("14 ahead of FILLED", x.kept(0, 0), 6);
        x.filled(0, 0, 0);
        Due.is("14 behind FILLED", x.kept(0, 0), 6);
        x.old(0, 0, 0, 0);
        Due.is("14 behind OLD", x.kept(0, 0), 6);
        x.alone(0, 0);
        Due.is("13 behind ALONE", x.wrong(0, 26), 2);
        x.trials(0, 3, 0);
        Due.is("14 behind TRIALS", x.kept(0, 0), 6);
    }

    /** "An object is used for at most 512 calls": the 512th answers like the first. */
    private static void fiveHundredAndTwelve() {
        WarmerColder x = new WarmerColder();
        int calls = 0;
        for (; calls < 511; calls++) {
            Due.is("34 call " + calls, x.seed(calls + 1), calls);
        }
        Due.is("the 512th call", x.count(8), 511);
    }

    /** Each object is for itself. */
    private static void twoObjects() {
        WarmerColder x = busy();
        String before = Due.state(x);
        WarmerColder y = Courts.of(Courts.many(2, 2, 2), Courts.GREATER);
        y.answer(0, 0, 0, 1);
        y.seed(5);
        y.image(0);
        Due.is("1 another object's KEPT", y.kept(0, 0), 0);
        Due.same("1 all is as it was", Due.state(x), before);
        Due.is("40 another object's IMAGE", x.back(0), NONE);
    }
}
