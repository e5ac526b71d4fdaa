/** Each promise of the document by answers that were worked out by hand. */
public final class PromiseTests {
    private static final int NONE = WarmerColder.NONE;
    private static final int MAX = Integer.MAX_VALUE;
    private static final int MIN = Integer.MIN_VALUE;
    private static final long NO_FAR = -1000000000000L;

    private PromiseTests() {
    }

    public static void main(String[] args) {
        promise1();
        promises2And3();
        promise4();
        promise4Faults();
        promise5();
        promise5Faults();
        promise5Limits();
        promise6();
        promise7();
        promise7Sums();
        promise7Tests();
        promise8();
        promises9And10();
        promise11();
        promises12And13();
        promises14To17();
        promises18To21();
        promise22();
        promise23();
        promises24To27();
        promise28();
        promise29();
        promise30();
        promise31();
        promise32();
        promise33();
        promise34();
        promise35();
        promises36And37();
        promise38();
        promises39And40();
        readmeExample();
        Due.end("PromiseTests");
    }

    private static void promise1() {
        WarmerColder x = new WarmerColder();
        Due.is("NONE", NONE, -1);
        for (int what = 0; what < 10; what++) {
            Due.is("1 new count " + what, x.count(what), 0);
        }
        Due.is("1 new thing", x.thing(1, 0, 0), NONE);
        Due.is("1 new far", x.far(0, 0, 0, 0), NO_FAR);
        Due.is("1 new kept", x.kept(0, 0), NONE);
        Due.is("1 new back", x.back(0), NONE);
        Due.is("1 new answer", x.answer(0, 0, 0, 1), NONE);
        Due.is("1 new spare", x.spare(0), 9);
        Due.is("1 new only", x.only(5), NONE);
        Due.is("1 new verdict", x.verdict(0), -2);
        Due.law(x, Courts.PLAIN);
        Due.is("1 no COURT, kept", x.kept(0, 0), NONE);
        Due.is("1 no COURT, far", x.far(0, 0, 0, 0), NO_FAR);
        Due.is("1 no COURT, byLaws", x.byLaws(1, 0, 0), NONE);
        Due.is("1 no COURT, trials", x.trials(0, 1, 0), NONE);
        Due.is("1 no COURT, sure", x.sure(0, 0, 0), NONE);
        Due.is("1 no COURT, fewest", x.fewest(0, 0), NONE);
        Due.is("1 no COURT, liars", x.liars(0), NONE);
        Due.is("1 no COURT, falseOnes", x.falseOnes(0), NONE);
        Due.is("1 no COURT, quarrel", x.quarrel(0), NONE);
        Due.is("1 no COURT, needed", x.needed(0, 0), NONE);
        WarmerColder y = Courts.of(Courts.HOUSE);
        Due.is("1 no LAW, kept", y.kept(0, 0), NONE);
        Due.is("1 no LAW, byLaws", y.byLaws(1, 0, 0), NONE);
        Due.is("1 no LAW, far", y.far(0, 0, 0, 0), NO_FAR);
    }

    private static void promises2And3() {
        WarmerColder x = new WarmerColder();
        Due.is("2 feed, 20", x.feed(0x726f6164, 0x20312032, 0x3b6d616e, 0x20332034, 0x20202020), 20);
        Due.is("2 highest first", x.court(), 1);
        Due.is("2 road x", x.thing(1, 0, 0), 1);
        Due.is("2 road y", x.thing(1, 0, 1), 2);
        Due.is("2 man years", x.thing(2, 0, 0), 3);
        for (int i = 1; i <= 20; i++) {
            Due.is("2 feed " + i, x.feed(MIN, MAX, -1, 0, 1), 20 * i);
        }
        Due.is("2 feed beyond 400", x.feed(0, 0, 0, 0, 0), NONE);
        Due.is("2 still 400", x.count(9), 400);
        Due.is("3 more than there are", x.end(401), NONE);
        Due.is("3 as many", x.end(400), 400);
        Due.is("3 below 0", x.end(-1), NONE);
        Due.is("3 least", x.end(MIN), NONE);
        Due.is("3 most", x.end(MAX), NONE);
        Due.is("3 still 400", x.count(9), 400);
        Due.is("3 381", x.end(381), 381);
        Due.is("2 one byte too many", x.feed(0, 0, 0, 0, 0), NONE);
        Due.is("2 none came", x.count(9), 381);
        Due.is("3 380", x.end(380), 380);
        Due.is("2 just 400", x.feed(0, 0, 0, 0, 0), 400);
        Due.is("3 none", x.end(0), 0);
        Due.is("3 of none", x.end(1), NONE);
        Due.is("3 none of none", x.end(0), 0);
    }

    private static void promise4() {
        WarmerColder x = Courts.house();
        Due.is("4 WORLDS", Due.court(x, Courts.HOUSE), 27);
        Due.is("4 TAPE is empty", x.count(9), 0);
        Due.is("4 one HOUR without hours", Due.court(x, "road 0 0;man 0 0"), 1);
        Due.is("4 count", x.count(0), 1);
        Due.is("4 blanks, any order", Due.court(x, "  man 99 9 ;road99 99;  hours8;man 1 0 "), 16);
        Due.is("4 man 0 told first", x.thing(2, 0, 0), 99);
        Due.is("4 leading 0s", Due.court(x, "road 00099 00000;man 7 00009"), 1);
        Due.is("4 0s are read", x.thing(1, 0, 0), 99);
        String full = "hours 8" + ";road 1 2".repeat(8) + ";man 3 4".repeat(8);
        Due.is("4 most WORLDS", Due.court(x, full), 512);
        Due.is("4 400 bytes", Due.court(x, "road 1 1;" + " ".repeat(384) + "man 2 2"), 1);

        x = Courts.heard();
        x.only(2);
        x.verdict(3);
        x.seed(77);
        x.image(1);
        Due.is("4 fault", Due.court(x, "road"), Due.fault(4, 0));
        Due.is("4 fault, TAPE", x.count(9), 0);
        Due.is("4 fault, HOURS stay", x.count(0), 3);
        Due.is("4 fault, ANSWERS stay", x.count(4), 4);
        Due.is("4 fault, VERDICTS stay", x.count(7), 1);
        Due.is("4 fault, first n stay", x.count(6), 2);
        Due.is("4 anew", Due.court(x, Courts.HOUSE), 27);
        Due.is("4 no ANSWERS", x.count(4), 0);
        Due.is("4 no VERDICTS", x.count(7), 0);
        Due.is("4 x stays", x.count(8), 77);
        Due.is("4 LAWS stay", x.count(3), 1);
        Due.is("4 IMAGES stay", x.back(1), 4);
        Due.court(x, Courts.HOUSE);
        Due.is("4 all LOOKED AT", x.only(NONE), NONE);
        Due.is("4 far by the new COURT", x.far(0, 1, 0, 1), 25);
        Due.court(x, "road 0 0;road 0 9;man 1 1");
        Due.is("4 far anew", x.far(0, 1, 0, 1), 81);
    }

    private static void courtFault(String text, int place, int code) {
        WarmerColder x = new WarmerColder();
        Due.is("4 court \"" + text + "\"", Due.court(x, text), Due.fault(place, code));
        Due.is("4 count behind \"" + text + "\"", x.count(1), 0);
    }

    private static void promise4Faults() {
        courtFault("", 0, 0);
        Due.is("4 an empty TAPE", new WarmerColder().court(), -3);
        courtFault("   ", 3, 0);
        courtFault("road 1 1", 8, 0);
        courtFault("road 1 1  ", 10, 0);
        courtFault("man 1 1", 7, 0);
        courtFault("hours 3", 7, 0);
        courtFault("road 1 1;man 1 1;", 17, 0);
        courtFault(";road 1 1;man 1 1", 0, 0);
        courtFault("road 1 1;;man 1 1", 9, 0);
        courtFault("road 1 1 man 1 1", 9, 0);
        courtFault("road 1;man 1 1", 6, 0);
        courtFault("road 1 1 1;man 1 1", 9, 0);
        courtFault("roads 1 1;man 1 1", 0, 0);
        courtFault("hour 1;road 1 1;man 1 1", 0, 0);
        courtFault("Road 1 1;man 1 1", 0, 0);
        courtFault("road -1 1;man 1 1", 5, 0);
        courtFault("road 1 1\u0000man 1 1", 8, 0);
        courtFault("road 1 1;man 1 1\u0000", 16, 0);
        courtFault("road 1 1;man 1 1\u00e9", 16, 0);
        courtFault("road 1 a;man 1 1", 7, 0);
        courtFault("hours 0;road 1 1;man 1 1", 6, 1);
        courtFault("hours 9;road 1 1;man 1 1", 6, 1);
        courtFault("road 100 1;man 1 1", 5, 1);
        courtFault("road 1 100;man 1 1", 7, 1);
        courtFault("road 000001 1;man 1 1", 5, 1);
        courtFault("road 1 1;man 100 1", 13, 1);
        courtFault("road 1 1;man 1 10", 15, 1);
        courtFault("road 1 1;man 99999999999999999999 1", 13, 1);
        courtFault("hours 1;hours 1;road 1 1;man 1 1", 8, 4);
        courtFault("road 1 1;".repeat(9) + "man 1 1", 72, 4);
        courtFault("man 1 1;".repeat(8) + " man 1 1;road 1 1", 65, 4);
        courtFault("hours 1;road 1 1;hours x", 17, 4);
        courtFault("road 1 1;".repeat(8) + "roads 1 1", 72, 0);
    }

    private static void promise5() {
        WarmerColder x = new WarmerColder();
        Due.is("5 first", Due.law(x, Courts.PLAIN), 0);
        Due.is("5 TAPE is empty", x.count(9), 0);
        Due.is("5 second", Due.law(x, "hour 1"), 1);
        Due.is("5 a fault", Due.law(x, "hour"), Due.fault(4, 0));
        Due.is("5 a fault, TAPE", x.count(9), 0);
        Due.is("5 a fault, LAWS", x.count(3), 2);
        for (int i = 2; i < 6; i++) {
            Due.is("5 number " + i, Due.law(x, "man " + i), i);
        }
        Due.tape(x, "hour");
        Due.is("5 there are 6", x.law(), NONE);
        Due.is("5 the TAPE stays", x.count(9), 4);
        Due.is("5 6 LAWS", x.count(3), 6);
        Due.court(x, Courts.HOUSE);
        Due.is("5 LAW 5 is its own", x.far(5, 2, 0, 1), 5);
        Due.is("5 LAW 2 is its own", x.far(2, 2, 0, 1), 2);
        x = Courts.of(Courts.HOUSE);
        Due.is("5 a fault behind CLAUSES", Due.law(x, "hour 7;hour 8 if seen=1;man 9;road"), Due.fault(34, 0));
        Due.is("5 a LAW in its place", Due.law(x, "hour 5"), 0);
        Due.is("5 none of the other's, HOURS", x.far(0, 0, 0, 2), 5);
        Due.is("5 none of the other's, MEN", x.far(0, 2, 0, 2), 2);
        WarmerColder y = new WarmerColder();
        Due.is("5 an empty TAPE", y.law(), -3);
        Due.is("5 blanks where one likes", Due.law(y, "  hour1+asked if[not 1<=seen]and 2>1;man  5 "), 0);
        Due.is("5 none needed", Due.law(y, "hour5if 1=1;man2;road asked*2"), 1);
    }

    private static void lawFault(String text, int place, int code) {
        WarmerColder x = new WarmerColder();
        Due.is("5 law \"" + text + "\"", Due.law(x, text), Due.fault(place, code));
        Due.is("5 count behind \"" + text + "\"", x.count(3), 0);
    }

    private static void promise5Faults() {
        lawFault("   ", 3, 0);
        lawFault("hours 1", 0, 0);
        lawFault("hour", 4, 0);
        lawFault("hour 1;", 7, 0);
        lawFault("hour 1;;", 7, 0);
        lawFault("hour 1 2", 7, 0);
        lawFault("hour 1+", 7, 0);
        lawFault("hour -1", 5, 0);
        lawFault("hour 1--1", 7, 0);
        lawFault("hour (1)", 5, 0);
        lawFault("hour [1]", 5, 0);
        lawFault("hour Asked", 5, 0);
        lawFault("hour askedseen", 5, 0);
        lawFault("hour asked1", 10, 0);
        lawFault("hour 12a", 7, 0);
        lawFault("hour 1 if", 9, 0);
        lawFault("hour 1 if 1", 11, 0);
        lawFault("hour 1 if 1=", 12, 0);
        lawFault("hour 1 if 1==1", 12, 0);
        lawFault("hour 1 if 1< =1", 13, 0);
        lawFault("hour 1 if 1=>1", 12, 0);
        lawFault("hour 1 if 1<>1", 12, 0);
        lawFault("hour 1 if 1<2<3", 13, 0);
        lawFault("hour 1 if ifasked<1", 10, 0);
        lawFault("hour 1 if not", 13, 0);
        lawFault("hour 1 if [1<2", 14, 0);
        lawFault("hour 1 if 1<2]", 13, 0);
        lawFault("hour 1 if [1]<2", 12, 0);
        lawFault("hour 1 if [1<2]<3", 15, 0);
        lawFault("hour 1 if 1<2 or", 16, 0);
        lawFault("hour 1 if 1<2 and or 1<2", 18, 0);
        lawFault("hour 1 if 1<2 1<2", 14, 0);
        lawFault("hour 1 or 1<2", 7, 0);
        lawFault("hour 1\u0000", 6, 0);
        lawFault("hour 1\t", 6, 0);
        lawFault("hour 100000", 5, 1);
        lawFault("hour 000001", 5, 1);
        lawFault("hour 1+ 123456 if", 8, 1);
        lawFault("hour 1 if 1<123456789012345678901", 12, 1);
    }

    private static void promise5Limits() {
        String deep = "hour 1 if ";
        Due.is("5 ten nots", Due.law(new WarmerColder(), deep + "not ".repeat(10) + "1<2"), 0);
        lawFault(deep + "not ".repeat(11) + "1<2", 50, 2);
        Due.is("5 ten [", Due.law(new WarmerColder(), deep + "[".repeat(10) + "1<2" + "]".repeat(10)), 0);
        lawFault(deep + "[".repeat(11) + "1<2" + "]".repeat(11), 20, 2);
        Due.is("5 five of both", Due.law(new WarmerColder(), deep + "not[".repeat(5) + "1<2" + "]".repeat(5)), 0);
        lawFault(deep + "not[".repeat(5) + "not 1<2" + "]".repeat(5), 30, 2);
        lawFault(deep + "not[".repeat(5) + "[1<2]" + "]".repeat(5), 30, 2);
        String beside = "[".repeat(10) + "1<2" + "]".repeat(10);
        Due.is("5 ten beside ten", Due.law(new WarmerColder(), deep + beside + " or " + beside), 0);
        Due.is("5 ten behind a [", Due.law(new WarmerColder(),
                deep + "[1<2 and 1<3] or " + "not ".repeat(10) + "1<2"), 0);

        Due.is("5 60 VALUES", Due.law(new WarmerColder(), "hour 1" + "+1".repeat(59)), 0);
        lawFault("hour 1" + "+1".repeat(60), 125, 3);
        lawFault("hour 1" + "+1".repeat(59) + "+123456", 125, 1);
        lawFault("hour 1" + "+1".repeat(59) + "+x", 125, 0);
        lawFault("hour 1" + "+1".repeat(59) + "; hour asked", 131, 3);
        Due.is("5 60 with a FACT", Due.law(new WarmerColder(), "hour 1" + "+1".repeat(56) + " if 1<2"), 0);
        lawFault("hour 1" + "+1".repeat(57) + " if 1<2", 126, 3);
        lawFault("hour 1" + "+1".repeat(58) + " if 1<2", 127, 3);
        lawFault("hour 1" + "+1".repeat(59) + " if 1<2", 128, 3);
        String facts = "hour 1 if 1<2" + " or 1<2".repeat(18) + " or 1";
        Due.is("5 60 of both", Due.law(new WarmerColder(), "hour 1+1+1 if 1<2" + " or 1<2".repeat(18)), 0);
        lawFault(facts + "+1<3", 146, 3);

        Due.is("5 12 CLAUSES", Due.law(new WarmerColder(), "hour 1" + ";man 1".repeat(11)), 0);
        lawFault("hour 1" + ";man 1".repeat(12), 73, 4);
        lawFault("hour 1" + ";man 1".repeat(11) + "; man", 74, 4);
        lawFault("hour 1" + ";man 1".repeat(11) + ";men", 73, 0);
        lawFault("hour 1" + ";man 1".repeat(11) + ";", 73, 0);
    }

    private static void promise6() {
        WarmerColder x = Courts.house();
        Due.is("6 x", x.thing(1, 2, 0), 10);
        Due.is("6 y", x.thing(1, 1, 1), 4);
        Due.is("6 years", x.thing(2, 2, 0), 50);
        Due.is("6 kin", x.thing(2, 2, 1), 2);
        Due.is("6 HOURS", x.thing(0, 0, 2), 3);
        Due.is("6 ROADS, whatever number", x.thing(1, MIN, 2), 3);
        Due.is("6 MEN, whatever number", x.thing(2, 99, 2), 3);
        Due.is("6 no such ROAD", x.thing(1, 3, 0), NONE);
        Due.is("6 below 0", x.thing(2, -1, 0), NONE);
        Due.is("6 no such KIND", x.thing(3, 0, 2), NONE);
        Due.is("6 KIND below 0", x.thing(-1, 0, 2), NONE);
        Due.is("6 an HOUR has no x", x.thing(0, 0, 0), NONE);
        Due.is("6 an HOUR has no kin", x.thing(0, 0, 1), NONE);
        Due.is("6 no such what", x.thing(1, 0, 3), NONE);
        Due.is("6 what below 0", x.thing(1, 0, -1), NONE);
        Due.is("6 extremes", x.thing(MAX, MAX, MAX), NONE);
        promise6WithoutCourt();
    }

    private static void promise6WithoutCourt() {
        WarmerColder x = new WarmerColder();
        noThings("new", x);
        Due.is("6 a COURT with a FAULT", Due.court(x, "hours 3;road 1 1"), Due.fault(16, 0));
        noThings("behind a FAULT", x);
        Due.law(x, Courts.PLAIN);
        noThings("with a LAW alone", x);
        x.image(0);
        Due.is("6 the least COURT", Due.court(x, "road 1 2;man 3 4"), 1);
        for (int kind = 0; kind < 3; kind++) {
            Due.is("6 one of KIND " + kind, x.thing(kind, 0, 2), 1);
        }
        Due.is("6 a FAULT leaves the COURT", Due.court(x, "man 1 1"), Due.fault(7, 0));
        Due.is("6 still one HOUR", x.thing(0, 0, 2), 1);
        x.back(0);
        noThings("gone back to no COURT", x);
    }

    private static void noThings(String when, WarmerColder x) {
        for (int kind = 0; kind < 3; kind++) {
            for (int what = 0; what < 3; what++) {
                Due.is("6 " + when + " KIND " + kind + " what " + what, x.thing(kind, 0, what), NONE);
            }
            Due.is("6 " + when + " count " + kind, x.count(kind), 0);
        }
    }

    private static void promise7() {
        WarmerColder x = Courts.house();
        Due.is("7 HOURS are apart", x.far(0, 0, 0, 2), 2);
        Due.is("7 apart, back", x.far(0, 0, 2, 0), 2);
        Due.is("7 ROADS", x.far(0, 1, 1, 2), 65);
        Due.is("7 MEN", x.far(0, 2, 2, 0), 30);
        Due.is("7 the same", x.far(0, 2, 1, 1), 0);
        Due.is("7 no such LAW", x.far(1, 2, 1, 1), NO_FAR);
        Due.is("7 LAW below 0", x.far(-1, 2, 1, 1), NO_FAR);
        Due.is("7 no such KIND", x.far(0, 3, 1, 1), NO_FAR);
        Due.is("7 KIND below 0", x.far(0, -1, 1, 1), NO_FAR);
        Due.is("7 no such asked", x.far(0, 2, 3, 1), NO_FAR);
        Due.is("7 no such seen", x.far(0, 2, 1, 3), NO_FAR);
        Due.is("7 seen below 0", x.far(0, 2, 1, -1), NO_FAR);
        Due.is("7 asked below 0", x.far(0, 2, MIN, 1), NO_FAR);
    }

    private static void sum(String sum, int kind, long want) {
        String word = new String[] {"hour", "road", "man"}[kind];
        WarmerColder x = Courts.of(Courts.HOUSE, word + " " + sum);
        Due.is("7 " + word + " " + sum, x.far(0, kind, 2, 1), want);
    }

    /** Each is asked 2, seen 1. */
    private static void promise7Sums() {
        sum("asked*10+seen", 0, 21);
        sum("seen-asked", 2, -1);
        sum("apart", 2, 1);
        sum("dx*100+dy", 1, 704);
        sum("years*100+dyears", 2, 5020);
        sum("kin", 2, 0);
        sum("dx+dy+years+dyears+kin", 0, 0);
        sum("years+dyears+kin", 1, 0);
        sum("dx+dy", 2, 0);
        sum("1+2*3", 0, 7);
        sum("2*3+1*4", 0, 10);
        sum("10-3-2", 0, 5);
        sum("10-3+2", 0, 9);
        sum("100/7/2", 0, 7);
        sum("2*7/3*3", 0, 12);
        sum("7/2*2", 0, 6);
        sum("1-8/3", 0, -1);
        sum("seen-asked*2/2*9/2", 0, -8);
        sum("5/0+3", 0, 3);
        sum("0-7*1/2", 0, -3);
        sum("asked-4*5/3", 0, -4);
        sum("0-99999*99999*99999*99999", 0, -(99999L * 99999L * 99999L * 99999L));
        sum("99999", 0, 99999);
        sum("00007", 0, 7);
        WarmerColder x = Courts.of(Courts.HOUSE, "man kin*10+dyears");
        Due.is("7 kin alike", x.far(0, 2, 0, 1), 20);
        Due.is("7 kin of himself", x.far(0, 2, 2, 2), 10);
        x = Courts.of(Courts.HOUSE, "man years-seen");
        Due.is("7 years are of who is asked", x.far(0, 2, 0, 2), 18);
        // 2 to the 62, doubled, is the least long; by -1 it stays so.
        String least = "4*4*4*4*4*4*4*4*4*4*4*4*4*4*4*4*4*4*4*4*4*4*4*4*4*4*4*4*4*4*4*2";
        x = Courts.of(Courts.HOUSE, "hour " + least, "hour " + least + "-1");
        Due.is("7 round in 64 bits", x.far(0, 0, 0, 0), Long.MIN_VALUE);
        Due.is("7 round, back", x.far(1, 0, 0, 0), Long.MAX_VALUE);
    }

    private static void test(String test, boolean want) {
        WarmerColder x = Courts.of(Courts.HOUSE, "man 1 if " + test + ";man 2");
        Due.is("7 if " + test, x.far(0, 2, 2, 1), want ? 1 : 2);
    }

    private static void promise7Tests() {
        test("1<2", true);
        test("2<2", false);
        test("2<=2", true);
        test("3<=2", false);
        test("2=2", true);
        test("2=3", false);
        test("2>=2", true);
        test("1>=2", false);
        test("3>2", true);
        test("2>2", false);
        test("not 1<2", false);
        test("not not 1<2", true);
        test("not 1>2 and 1>2", false);
        test("not[1>2 and 1>2]", true);
        test("1<2 or 1>2 and 1>2", true);
        test("[1<2 or 1>2]and 1>2", false);
        test("1>2 and 1<2 or 1<2", true);
        test("1>2 or 1>2 or 1<2", true);
        test("1<2 or 1>2 or 1>2", true);
        test("1<2 and 1<2 and 1>2", false);
        test("1>2 or 1<2 and 1<2 or 1>2", true);
        test("asked=2 and seen=1 and dyears=20", true);
        test("1+1=4-2", true);
        test("0-1<0", true);
        test("0<0-1", false);
        WarmerColder x = Courts.of(Courts.HOUSE, "road 5;man 1 if asked=0;man 2 if seen=0;hour 7 if 1>2", "hour 3;hour 4");
        Due.is("7 first CLAUSE", x.far(0, 2, 0, 0), 1);
        Due.is("7 second CLAUSE", x.far(0, 2, 1, 0), 2);
        Due.is("7 no CLAUSE holds", x.far(0, 2, 2, 1), 1);
        Due.is("7 no TEST holds", x.far(0, 0, 2, 0), 2);
        Due.is("7 of another KIND", x.far(0, 1, 2, 0), 5);
        Due.is("7 no CLAUSE of the KIND", x.far(1, 1, 2, 0), 2);
        Due.is("7 the first without", x.far(1, 0, 2, 0), 3);
    }

    private static void promise8() {
        WarmerColder x = new WarmerColder();
        Due.is("8 no COURT", x.answer(0, 0, 0, 1), NONE);
        Due.court(x, Courts.HOUSE);
        Due.is("8 first", x.answer(5, 2, 2, 0), 0);
        Due.is("8 no such WITNESS", x.answer(6, 2, 2, 0), NONE);
        Due.is("8 WITNESS below 0", x.answer(-1, 2, 2, 0), NONE);
        Due.is("8 no such KIND", x.answer(0, 3, 0, 1), NONE);
        Due.is("8 KIND below 0", x.answer(0, -1, 0, 1), NONE);
        Due.is("8 no such one", x.answer(0, 0, 3, 1), NONE);
        Due.is("8 one below 0", x.answer(0, 0, -1, 1), NONE);
        Due.is("8 no such other", x.answer(0, 0, 1, 3), NONE);
        Due.is("8 other below 0", x.answer(0, 0, 1, MIN), NONE);
        Due.is("8 alike", x.answer(0, 0, 1, 1), NONE);
        Due.is("8 second", x.answer(0, 0, 1, 0), 1);
        for (int i = 1; i < 9; i++) {
            Due.is("8 of WITNESS 0", x.answer(0, 0, 1, 0), 1 + i);
        }
        Due.is("8 a tenth", x.answer(0, 0, 1, 0), NONE);
        x.strike(1, true);
        Due.is("8 a STRUCK one counts", x.answer(0, 0, 1, 0), NONE);
        for (int i = 0; i < 30; i++) {
            Due.is("8 of others", x.answer(1 + i % 4, 0, 1, 0), 10 + i);
        }
        Due.is("8 there are 40", x.answer(5, 0, 1, 0), NONE);
        Due.is("8 40", x.count(4), 40);
    }

    private static void promises9And10() {
        WarmerColder x = Courts.heard();
        Due.is("9 WITNESS", x.answers(2, 0), 2);
        Due.is("9 KIND", x.answers(1, 1), 1);
        Due.is("9 the one", x.answers(1, 2), 2);
        Due.is("9 the other", x.answers(2, 3), 2);
        Due.is("9 not STRUCK", x.answers(2, 4), 0);
        Due.is("9 no such ANSWER", x.answers(4, 0), NONE);
        Due.is("9 below 0", x.answers(-1, 0), NONE);
        Due.is("9 no such what", x.answers(0, 5), NONE);
        Due.is("9 what below 0", x.answers(0, -1), NONE);
        Due.is("10 strike", x.strike(2, true), true);
        Due.is("9 STRUCK", x.answers(2, 4), 1);
        Due.is("10 it is so", x.strike(2, true), false);
        Due.is("10 it is not LOOKED AT", x.kept(0, 0), 4);
        Due.is("10 back", x.strike(2, false), true);
        Due.is("10 it is back so", x.strike(2, false), false);
        Due.is("10 LOOKED AT", x.kept(0, 0), 2);
        Due.is("10 none such", x.strike(4, true), false);
        Due.is("10 none such, back", x.strike(4, false), false);
        Due.is("10 below 0", x.strike(-1, true), false);
        x.strike(0, true);
        Due.court(x, Courts.HOUSE);
        x.answer(0, 0, 0, 1);
        Due.is("10 a new one is not STRUCK", x.answers(0, 4), 0);
    }

    private static void promise11() {
        WarmerColder x = Courts.heard();
        Due.is("11 all at first", x.only(2), NONE);
        Due.is("11 two", x.kept(0, 0), 6);
        Due.is("11 two were", x.only(0), 2);
        Due.is("11 none", x.kept(0, 0), 27);
        Due.is("11 none were", x.only(40), 0);
        Due.is("11 forty", x.kept(0, 0), 2);
        Due.is("11 forty were", x.only(41), -2);
        Due.is("11 below NONE", x.only(-2), -2);
        Due.is("11 least", x.only(MIN), -2);
        Due.is("11 nothing happened", x.only(NONE), 40);
        Due.is("11 all were", x.only(3), NONE);
        x.strike(0, true);
        Due.is("11 STRUCK ones are of the first", x.count(6), 2);
        x.only(5);
        Due.is("11 fewer than n", x.count(6), 3);
        x.answer(0, 0, 0, 1);
        x.answer(0, 0, 0, 1);
        Due.is("11 new ones up to n", x.count(6), 4);
        Due.is("11 without a COURT", new WarmerColder().only(40), NONE);
    }

    private static void promises12And13() {
        WarmerColder x = Courts.heard();
        Due.is("12 TRUE", x.holds(0, 0, 0), 1);
        Due.is("12 both as FAR", x.holds(0, 0, 9), 1);
        Due.is("12 FALSE", x.holds(0, 0, 18), 0);
        Due.is("12 ROAD", x.holds(0, 1, 7), 1);
        Due.is("12 ROAD, FALSE", x.holds(0, 1, 3), 0);
        Due.is("12 MAN", x.holds(0, 2, 26), 0);
        Due.is("12 no such LAW", x.holds(1, 0, 0), NONE);
        Due.is("12 no such ANSWER", x.holds(0, 4, 0), NONE);
        Due.is("12 no such WORLD", x.holds(0, 0, 27), NONE);
        Due.is("12 WORLD below 0", x.holds(0, 0, -1), NONE);
        Due.is("12 ANSWER below 0", x.holds(0, -1, 0), NONE);
        Due.is("13 none", x.wrong(0, 7), 0);
        Due.is("13 two", x.wrong(0, 0), 2);
        Due.is("13 three", x.wrong(0, 26 - 3), 3);
        Due.is("13 no such WORLD", x.wrong(0, 27), NONE);
        Due.is("13 WORLD below 0", x.wrong(0, MIN), NONE);
        Due.is("13 no such LAW", x.wrong(1, 0), NONE);
        Due.is("13 LAW below 0", x.wrong(-1, 0), NONE);
        x.strike(1, true);
        Due.is("12 STRUCK, too", x.holds(0, 1, 3), 0);
        Due.is("13 without STRUCK ones", x.wrong(0, 0), 1);
        x.only(0);
        Due.is("12 not LOOKED AT, too", x.holds(0, 0, 18), 0);
        Due.is("13 none LOOKED AT", x.wrong(0, 23), 0);
    }

    private static void promises14To17() {
        WarmerColder x = Courts.heard();
        Due.is("14 k 0", x.kept(0, 0), 2);
        Due.is("14 k 1", x.kept(0, 1), 11);
        Due.is("14 k 2", x.kept(0, 2), 23);
        Due.is("14 k 3", x.kept(0, 3), 27);
        Due.is("14 k 40", x.kept(0, 40), 27);
        Due.is("14 k 41", x.kept(0, 41), NONE);
        Due.is("14 k below 0", x.kept(0, -1), NONE);
        Due.is("14 no such LAW", x.kept(1, 0), NONE);
        Due.is("15 0", x.world(0, 0, 0), 7);
        Due.is("15 1", x.world(0, 0, 1), 16);
        Due.is("15 there is none", x.world(0, 0, 2), -2);
        Due.is("15 below 0", x.world(0, 0, -1), -2);
        Due.is("15 most", x.world(0, 0, MAX), -2);
        Due.is("15 of 27, the last", x.world(0, 3, 26), 26);
        Due.is("15 no such LAW", x.world(6, 0, 0), NONE);
        Due.is("15 no such k", x.world(0, 41, 0), NONE);
        Due.is("16 ROAD 2", x.may(0, 0, 1, 2), 2);
        Due.is("16 ROAD 2, k 1", x.may(0, 1, 1, 2), 7);
        Due.is("16 ROAD 0, k 1", x.may(0, 1, 1, 0), 2);
        Due.is("16 HOUR 2, k 1", x.may(0, 1, 0, 2), 1);
        Due.is("16 MAN 1, k 1", x.may(0, 1, 2, 1), 7);
        Due.is("16 no such thing", x.may(0, 1, 2, 3), NONE);
        Due.is("16 below 0", x.may(0, 1, 2, -1), NONE);
        Due.is("16 no such KIND", x.may(0, 1, 3, 0), NONE);
        Due.is("16 no such k", x.may(0, -1, 2, 0), NONE);
        Due.is("16 no such LAW", x.may(1, 0, 2, 0), NONE);
        Due.is("17 all but MAN 1", x.cleared(0, 0), 5);
        Due.is("17 none", x.cleared(0, 1), 0);
        Due.is("17 no such LAW", x.cleared(1, 0), NONE);
        Due.is("17 no such k", x.cleared(0, 41), NONE);
        x.answer(1, 2, 0, 1);
        Due.is("14 no WORLD", x.kept(0, 0), 0);
        Due.is("15 no WORLD", x.world(0, 0, 0), -2);
        Due.is("16 no WORLD", x.may(0, 0, 0, 0), 0);
        Due.is("17 no WORLD, all", x.cleared(0, 0), 7);
        Due.is("17 not MAN 0 and 1", x.cleared(0, 1), 4);
        // The greatest COURT: 7 of each rather than 6, TRUE in 7 alone.
        x = Courts.of(Courts.lines(8, 8, 8), Courts.PLAIN);
        for (int kind = 0; kind < 3; kind++) {
            x.answer(kind, kind, 7, 6);
        }
        Due.is("13 the first of 512", x.wrong(0, 0), 3);
        Due.is("13 the last of 512", x.wrong(0, 511), 0);
        Due.is("14 one of 512", x.kept(0, 0), 1);
        Due.is("14 22 of 512", x.kept(0, 1), 22);
        Due.is("15 one of 512", x.world(0, 0, 0), 511);
        Due.is("15 22 of 512", x.world(0, 1, 21), 511);
        Due.is("16 22 of 512", x.may(0, 1, 2, 7), 15);
        Due.is("17 one of 512", x.cleared(0, 0), 127);
        Due.is("18 one of 512", x.fewest(0, 1), 511);
        Due.is("23 22 of 512", x.byLaws(1, 1, 0), 22);
        Due.is("26 an eighth of 512", x.alone(0, 2), 64);
        x.only(0);
        Due.is("28 84 PAIRS", x.useful(0, 0, 0), 84);
        Due.is("30 84 PAIRS", x.next(0, 0, 0, 2), 7);
    }

    private static void promises18To21() {
        WarmerColder x = Courts.heard();
        Due.is("18 FEWEST", x.fewest(0, 0), 0);
        Due.is("18 BEST", x.fewest(0, 1), 7);
        Due.is("18 so few", x.fewest(0, 2), 2);
        Due.is("19 none", x.falseOnes(0), 0);
        Due.is("20 nobody", x.liars(0), 0);
        Due.is("21 none", x.quarrel(0), -2);
        Due.is("18 no such what", x.fewest(0, 3), NONE);
        Due.is("18 what below 0", x.fewest(0, -1), NONE);
        Due.is("18 no such LAW", x.fewest(1, 0), NONE);
        Due.is("19 no such LAW", x.falseOnes(1), NONE);
        Due.is("20 no such LAW", x.liars(-1), NONE);
        Due.is("21 no such LAW", x.quarrel(MAX), NONE);

        x = Courts.quarrelling();
        Due.is("18 FEWEST, quarrelling", x.fewest(0, 0), 1);
        Due.is("18 BEST, quarrelling", x.fewest(0, 1), 6);
        Due.is("18 so few, quarrelling", x.fewest(0, 2), 4);
        Due.is("19 quarrelling", x.falseOnes(0), 8);
        Due.is("20 WITNESS 0, the least set", x.liars(0), 1);
        Due.is("21 3 and 4", x.quarrel(0), 64 * 3 + 4);
        x.strike(4, true);
        Due.is("21 not with a STRUCK one", x.quarrel(0), -2);
        Due.is("20 not a STRUCK one", x.liars(0), 0);
        x.strike(4, false);
        x.strike(3, true);
        Due.is("20 not another STRUCK one", x.liars(0), 0);
        x.strike(3, false);
        x.only(4);
        Due.is("21 not with one behind", x.quarrel(0), -2);
        Due.is("18 not one behind", x.fewest(0, 0), 0);
        Due.is("19 not one behind", x.falseOnes(0), 0);
        Due.is("20 not one behind", x.liars(0), 0);
        x.only(3);
        Due.is("19 LOOKED AT alone", x.falseOnes(0), 0);
        x.only(NONE);
        x.answer(2, 0, 2, 0);
        x.answer(3, 0, 0, 1);
        // 5: TRUE in HOURS 1 and 2, 6: in HOUR 0 alone.
        Due.is("21 the least one first", x.quarrel(0), 64 * 3 + 4);
        x.strike(3, true);
        Due.is("21 of another KIND", x.quarrel(0), 64 * 5 + 6);
        Due.is("20 one of 2 and 3, of 1 and 2", x.liars(0), 4);
        x.only(0);
        Due.is("18 none LOOKED AT", x.fewest(0, 2), 27);
        Due.is("18 BEST is the first", x.fewest(0, 1), 0);

        x = Courts.heard();
        x.answer(5, 1, 0, 2);
        Due.is("21 of ROADS", x.quarrel(0), 64 * 1 + 4);
        x.answer(4, 0, 2, 1);
        Due.is("21 of HOURS, behind", x.quarrel(0), 5);
        // HOUR 2 in BEST makes 4 FALSE: not LOOKED AT, it isn't told.
        x = Courts.house();
        x.answer(0, 0, 2, 1);
        x.answer(0, 0, 0, 1);
        x.only(1);
        Due.is("19 FALSE in BEST, but behind", x.falseOnes(0), 0);
        Due.is("20 FALSE, but behind", x.liars(0), 0);

        // By this LAW, HOUR 0 is nowhere nearer than 1: an ANSWER that is TRUE in no WORLD.
        x = Courts.of(Courts.HOUSE, "hour 1-asked");
        x.answer(4, 1, 0, 1);
        x.answer(5, 0, 0, 1);
        Due.is("21 with one that is never TRUE", x.quarrel(0), 1);
        Due.is("20 he is out", x.liars(0), 32);
        x.answer(5, 1, 2, 1);
        Due.is("20 still he alone", x.liars(0), 32);

        x = Courts.house();
        for (int i = 0; i < 36; i++) {
            x.answer(i % 4, 2, 0, 1);
        }
        for (int i = 0; i < 4; i++) {
            x.answer(4, 2, 1, 0);
        }
        Due.is("19 forty ANSWERS", x.falseOnes(0), 0xfL << 36);
        Due.is("18 forty ANSWERS", x.fewest(0, 0), 4);
        Due.is("21 first and 36", x.quarrel(0), 36);
    }

    private static void promise22() {
        WarmerColder x = Courts.heard();
        Due.is("22 2 and 3 for MAN 1", x.proof(0, 1), 12);
        Due.is("22 none for MAN 0", x.proof(0, 0), -2);
        Due.is("22 none for MAN 2", x.proof(0, 2), -2);
        Due.is("22 no such MAN", x.proof(0, 3), NONE);
        Due.is("22 below 0", x.proof(0, -1), NONE);
        Due.is("22 no such LAW", x.proof(1, 0), NONE);
        x = Courts.quarrelling();
        Due.is("22 4 for MAN 0", x.proof(0, 0), 16);
        Due.is("22 2 and 3 still", x.proof(0, 1), 12);
        x.strike(1, true);
        Due.is("22 places among the LOOKED AT", x.proof(0, 0), 8);
        x.strike(4, true);
        Due.is("22 not a STRUCK one", x.proof(0, 0), -2);
        x.strike(4, false);
        x.only(4);
        Due.is("22 not one behind", x.proof(0, 0), -2);
        x.only(NONE);
        x.strike(4, true);
        x.strike(4, false);
        x.answer(5, 2, 0, 1);
        Due.is("22 the least of several", x.proof(0, 0), 8);
        Due.is("22 one MAN, none needed", Courts.of("road 1 1;man 1 1", "man 1").proof(0, 0), 0);

        x = Courts.house();
        for (int i = 0; i < 11; i++) {
            x.answer(i % 2, 0, 0, 1);
        }
        x.answer(2, 2, 0, 1);
        Due.is("22 the twelfth", x.proof(0, 0), 2048);
        Due.is("22 the twelfth is none for MAN 2", x.proof(0, 2), -2);
        x.answer(2, 2, 2, 1);
        Due.is("22 the thirteenth is not asked", x.proof(0, 2), -2);
        x.strike(0, true);
        Due.is("22 it comes up", x.proof(0, 2), 2048);
        // 0 is TRUE in MEN 0 and 1, 1 in 0 and 2, 2 in 0 alone: one is fewer than two.
        x = Courts.of("road 1 1" + ";man 1 1".repeat(3), "man 0 if asked=seen or asked=1 and seen=2;man 1");
        x.answer(0, 2, 0, 2);
        x.answer(1, 2, 2, 1);
        Due.is("22 both", x.proof(0, 0), 3);
        x.answer(2, 2, 0, 1);
        Due.is("22 the fewest, though a greater number", x.proof(0, 0), 4);
        // Never TRUE: no proof may have it.
        x = Courts.of("road 1 1;man 1 1;man 2 1", "man 1-asked");
        x.answer(0, 2, 0, 1);
        Due.is("22 there must be such a WORLD", x.proof(0, 0), -2);
        Due.is("22 there must be one for him, too", x.proof(0, 1), -2);
    }

    private static void promise23() {
        WarmerColder x = Courts.heard();
        // By LAW 1 ROADS are FAR by apart, and MEN are all alike: HOURS 0, 1, ROADS 1, 2, all MEN.
        Due.law(x, "man 0");
        Due.is("23 by each", x.byLaws(3, 0, 0), 2);
        Due.is("23 by some", x.byLaws(3, 0, 1), 12);
        Due.is("23 LAW 0", x.byLaws(1, 0, 1), 2);
        Due.is("23 LAW 1", x.byLaws(2, 0, 0), 12);
        Due.is("23 k 1, by each", x.byLaws(3, 1, 0), 11);
        Due.is("23 k 40", x.byLaws(3, 40, 0), 27);
        x.only(1);
        Due.is("23 the first ANSWER alone", x.byLaws(3, 0, 0), 18);
        x.only(NONE);
        Due.is("23 no set", x.byLaws(0, 0, 0), NONE);
        Due.is("23 no such LAW in it", x.byLaws(4, 0, 0), NONE);
        Due.is("23 one too many", x.byLaws(7, 0, 0), NONE);
        Due.is("23 below 0", x.byLaws(-1, 0, 0), NONE);
        Due.is("23 no such k", x.byLaws(3, 41, 0), NONE);
        Due.is("23 k below 0", x.byLaws(3, -1, 0), NONE);
        Due.is("23 no such what", x.byLaws(3, 0, 2), NONE);
        Due.is("23 what below 0", x.byLaws(3, 0, -1), NONE);
        for (int i = 2; i < 6; i++) {
            Due.law(x, "man 0");
        }
        Due.is("23 six LAWS", x.byLaws(63, 0, 0), 2);
        Due.is("23 seven", x.byLaws(64, 0, 0), NONE);
    }

    private static void promises24To27() {
        WarmerColder x = Courts.heard();
        Due.is("24 in none", x.looks(0, 0, 2), 0);
        Due.is("24 ROADS 0 and 1", x.looks(0, 1, 1), 4);
        Due.is("24 in all", x.looks(0, 40, 1), 18);
        x.strike(1, true);
        Due.is("24 a STRUCK one", x.looks(0, 0, 1), 4);
        x.strike(1, false);
        Due.is("24 no such ANSWER", x.looks(0, 0, 4), NONE);
        Due.is("24 below 0", x.looks(0, 0, -1), NONE);
        Due.is("24 no such k", x.looks(0, 41, 0), NONE);
        Due.is("24 no such LAW", x.looks(1, 0, 0), NONE);
        Due.is("25 ROAD 2", x.sure(0, 0, 1), 2);
        Due.is("25 MAN 1", x.sure(0, 0, 2), 1);
        Due.is("25 two HOURS", x.sure(0, 0, 0), -2);
        Due.is("25 k 1", x.sure(0, 1, 1), -2);
        Due.is("25 no such KIND", x.sure(0, 0, 3), NONE);
        Due.is("25 KIND below 0", x.sure(0, 0, -1), NONE);
        Due.is("25 no such k", x.sure(0, 41, 0), NONE);
        Due.is("26 WITNESS 0", x.alone(0, 0), 12);
        Due.is("26 WITNESS 1", x.alone(0, 1), 9);
        Due.is("26 who said nothing", x.alone(0, 5), 27);
        Due.is("26 no such WITNESS", x.alone(0, 6), NONE);
        Due.is("26 below 0", x.alone(0, -1), NONE);
        Due.is("26 no such LAW", x.alone(1, 0), NONE);
        x.strike(3, true);
        Due.is("26 without a STRUCK one", x.alone(0, 0), 18);
        x.strike(3, false);
        x.only(1);
        Due.is("26 of the first alone", x.alone(0, 1), 27);
        x.only(NONE);
        Due.is("27 x, downwards", x.mean(0, 1, 0), 6);
        Due.is("27 y, downwards", x.mean(0, 1, 1), 0);
        Due.is("27 x, sure", x.mean(0, 0, 0), 10);
        Due.is("27 no such what", x.mean(0, 0, 2), NONE);
        Due.is("27 what below 0", x.mean(0, 0, -1), NONE);
        Due.is("27 no such k", x.mean(0, 41, 0), NONE);
        Due.is("27 no such LAW", x.mean(1, 0, 0), NONE);
        x = Courts.quarrelling();
        Due.is("24 no WORLD", x.looks(0, 0, 0), 0);
        Due.is("25 no WORLD", x.sure(0, 0, 1), -2);
        Due.is("27 no WORLD", x.mean(0, 0, 0), -2);
    }

    private static void promise28() {
        WarmerColder x = Courts.house();
        Due.is("28 all nine PAIRS", x.useful(0, 0, 0), 9);
        Due.is("28 27 WORLDS", x.useful(0, 0, 1), 5);
        Due.is("28 no such what", x.useful(0, 0, 2), NONE);
        Due.is("28 what below 0", x.useful(0, 0, -1), NONE);
        Due.is("28 no such k", x.useful(0, 41, 0), NONE);
        Due.is("28 no such LAW", x.useful(1, 0, 0), NONE);
        x = Courts.heard();
        // Of WORLDS 7 and 16, HOURS 0 and 1: only the PAIR of these parts them; 0 and 2 do not.
        Due.is("28 two WORLDS, useful", x.useful(0, 0, 0), 1);
        Due.is("28 two WORLDS", x.useful(0, 0, 1), 1);
        Due.is("28 11 WORLDS", x.useful(0, 1, 1), 4);
        x = Courts.quarrelling();
        Due.is("28 no WORLD", x.useful(0, 0, 1), 0);
        Due.is("28 no WORLD, useful", x.useful(0, 0, 0), 0);
        Due.is("28 four WORLDS", x.useful(0, 1, 1), 2);
        Due.is("28 one WORLD", Courts.of("road 1 1;man 1 1", Courts.PLAIN).useful(0, 0, 1), 0);
        Due.is("28 eight WORLDS", Courts.of("hours 8;road 1 1;man 1 1", Courts.PLAIN).useful(0, 0, 1), 3);
        Due.is("28 512 WORLDS", Courts.of("hours 8" + ";road 1 1".repeat(8) + ";man 1 1".repeat(8), Courts.PLAIN).useful(0, 0, 1), 9);
        Due.is("28 all as FAR", Courts.of(Courts.HOUSE, "hour 1;road 1;man 1").useful(0, 0, 0), 0);
    }

    private static void promise29() {
        WarmerColder x = Courts.heard();
        Due.is("29 an HOUR", x.filled(0, 0, 0), 6);
        Due.is("29 a ROAD", x.filled(0, 0, 1), 6);
        Due.is("29 MEN 1 and 2 are left", x.filled(0, 0, 2), 5);
        Due.is("29 MEN 0 and 1 are left", x.filled(0, 0, 3), 4);
        x.strike(2, true);
        Due.is("29 a STRUCK one", x.filled(0, 0, 2), 5);
        Due.is("29 without another STRUCK one", x.filled(0, 0, 3), 6);
        x.strike(2, false);
        x.only(2);
        Due.is("29 others of the first", x.filled(0, 0, 3), 6);
        x.only(NONE);
        Due.is("29 no such ANSWER", x.filled(0, 0, 4), NONE);
        Due.is("29 below 0", x.filled(0, 0, -1), NONE);
        Due.is("29 k 40", x.filled(0, 40, 3), 6);
        Due.is("29 no such k", x.filled(0, 41, 0), NONE);
        Due.is("29 k below 0", x.filled(0, -1, 0), NONE);
        Due.is("29 no such LAW", x.filled(1, 0, 0), NONE);
        x = Courts.quarrelling();
        Due.is("29 no WORLD by the others", x.filled(0, 0, 0), 0);
        Due.is("29 it was the quarrel", x.filled(0, 0, 4), 3);
        Due.is("29 k 1", x.filled(0, 1, 0), 6);
    }

    private static void pair(String call, WarmerColder x, int by, int... want) {
        for (int what = 0; what < want.length; what++) {
            Due.is("30 " + call + " what " + what, x.next(0, 0, by, what), want[what]);
        }
    }

    private static void promise30() {
        WarmerColder x = Courts.house();
        pair("house, at worst", x, 0, 0, 0, 1, 18, 9);
        pair("house, on the mean", x, 1, 0, 0, 1, 18, 9);
        Due.is("30 no such by", x.next(0, 0, 2, 0), NONE);
        Due.is("30 by below 0", x.next(0, 0, -1, 0), NONE);
        Due.is("30 no such what", x.next(0, 0, 0, 5), NONE);
        Due.is("30 what below 0", x.next(0, 0, 0, -1), NONE);
        Due.is("30 no such k", x.next(0, 41, 0, 0), NONE);
        Due.is("30 no such LAW", x.next(1, 0, 0, 0), NONE);
        // HOUR 2 lies between 0 and 1: PAIR 0, 1 leaves two and two, 0, 2 and 1, 2 leave one and two.
        x = Courts.of("hours 3;road 1 1;man 1 1", "hour 0 if asked=seen;hour 2 if asked+seen=1;hour 1");
        pair("between, at worst", x, 0, 0, 0, 1, 2, 2);
        pair("between, on the mean", x, 1, 0, 0, 2, 2, 1);
        pair("no PAIR", Courts.of("road 1 1;man 1 1", Courts.PLAIN), 0, -2, -2, -2, -2, -2);
        pair("no PAIR, on the mean", Courts.of("road 1 1;man 1 1", Courts.PLAIN), 1, -2, -2, -2, -2, -2);
        pair("no HOURS", Courts.of("road 1 1;road 2 2;man 1 1", Courts.PLAIN), 0, 1, 0, 1, 1, 1);
        pair("MEN alone", Courts.of("road 1 1;man 1 1;man 2 2;man 2 2", Courts.PLAIN), 0, 2, 0, 1, 2, 1);
        pair("all as FAR", Courts.of(Courts.HOUSE, "hour 1;road 1;man 1"), 1, 0, 0, 1, 27, 27);
        x = Courts.quarrelling();
        pair("no WORLD", x, 0, 0, 0, 1, 0, 0);
        x = Courts.heard();
        pair("two WORLDS", x, 0, 0, 0, 1, 1, 1);
        // Four HOURS: the PAIR in the middle halves them.
        x = Courts.of("hours 4;road 1 1;man 1 1", Courts.PLAIN);
        pair("the middle", x, 0, 0, 0, 3, 2, 2);
        pair("the middle, on the mean", x, 1, 0, 0, 3, 2, 2);
    }

    private static void promise31() {
        Due.is("31 one WORLD", Courts.of("road 1 1;man 1 1", Courts.PLAIN).needed(0, 0), 0);
        Due.is("31 two HOURS", Courts.of("hours 2;road 1 1;man 1 1", Courts.PLAIN).needed(0, 0), 1);
        Due.is("31 three HOURS", Courts.of("hours 3;road 1 1;man 1 1", Courts.PLAIN).needed(0, 0), 2);
        Due.is("31 four HOURS", Courts.of("hours 4;road 1 1;man 1 1", Courts.PLAIN).needed(0, 0), 2);
        Due.is("31 five HOURS", Courts.of("hours 5;road 1 1;man 1 1", Courts.PLAIN).needed(0, 0), 3);
        Due.is("31 eight HOURS", Courts.of("hours 8;road 1 1;man 1 1", Courts.PLAIN).needed(0, 0), 3);
        Due.is("31 two of each", Courts.of("hours 2;road 1 1;road 2 2;man 1 1;man 2 2", Courts.PLAIN).needed(0, 0), 3);
        Due.is("31 nine WORLDS", Courts.of("hours 3;road 1 1;road 2 2;road 3 3;man 1 1", Courts.PLAIN).needed(0, 0), -2);
        Due.is("31 never", Courts.of("hours 2;road 1 1;man 1 1", "hour 1").needed(0, 0), -2);
        Due.is("31 never, three", Courts.of("hours 3;road 1 1;man 1 1", "hour 0 if asked=0;hour 1").needed(0, 0), -2);
        Due.is("31 64 WORLDS", Courts.of("hours 8" + ";road 1 1".repeat(8) + ";man 1 1", Courts.PLAIN).needed(0, 0), -2);
        Due.is("31 72 WORLDS", Courts.of("hours 8" + ";road 1 1".repeat(3) + ";man 1 1;man 1 1;man 1 1", Courts.PLAIN).needed(0, 0), NONE);
        WarmerColder x = Courts.heard();
        Due.is("31 two KEPT", x.needed(0, 0), 1);
        Due.is("31 eleven KEPT", x.needed(0, 1), -2);
        Due.is("31 no such k", x.needed(0, 41), NONE);
        Due.is("31 no such LAW", x.needed(1, 0), NONE);
        x = Courts.quarrelling();
        Due.is("31 no WORLD", x.needed(0, 0), 0);
        Due.is("31 four KEPT", x.needed(0, 1), 2);
        Due.is("31 none again", x.needed(0, 0), 0);
        // HOUR 0 is the only one where 0 is TRUE; ROADS 0 to 5 where 1 is: 30 + 30 + 5 WORLDS.
        x = Courts.of(Courts.lines(2, 7, 5), Courts.PLAIN);
        x.answer(0, 0, 0, 1);
        x.answer(0, 1, 5, 6);
        Due.is("31 65 of 70, KEPT", x.kept(0, 1), 65);
        Due.is("31 65 of 70", x.needed(0, 1), NONE);
        Due.is("31 30 of 70", x.needed(0, 0), -2);
        // Other WORLDS on the same object: HOURS 0 and 1 first, then 2, then 1 and 2.
        x = Courts.of("hours 3;road 1 1;man 1 1", Courts.PLAIN);
        Due.is("31 three", x.needed(0, 0), 2);
        x.answer(0, 0, 0, 2);
        Due.is("31 0 and 1", x.needed(0, 0), 1);
        x.answer(0, 0, 2, 1);
        Due.is("31 none of them", x.needed(0, 0), 0);
        x.strike(0, true);
        Due.is("31 2", x.needed(0, 0), 0);
        x.strike(1, true);
        x.answer(0, 0, 1, 0);
        Due.is("31 1 and 2", x.needed(0, 0), 1);
    }

    private static void steered(String call, WarmerColder x, int world, int man, int... want) {
        for (int what = 0; what < want.length; what++) {
            Due.is("32 " + call + " what " + what, x.steered(0, 0, world, man, what), want[what]);
        }
    }

    private static void promise32() {
        WarmerColder x = Courts.house();
        steered("MAN 0, who it was", x, 0, 0, 2, 0, 1, 9, 9);
        // No PAIR of MEN leaves MAN 2, where it was MAN 0: the first of the others leaves a third.
        steered("MAN 2, who it was not", x, 0, 2, 0, 0, 1, 3, 9);
        // Where it was MAN 2, PAIR 0, 1 leaves 1 and 2.
        steered("MAN 1, where it was 2", x, 2, 1, 2, 0, 1, 9, 18);
        Due.is("32 no such WORLD", x.steered(0, 0, 27, 0, 0), NONE);
        Due.is("32 WORLD below 0", x.steered(0, 0, -1, 0, 0), NONE);
        Due.is("32 no such MAN", x.steered(0, 0, 0, 3, 0), NONE);
        Due.is("32 MAN below 0", x.steered(0, 0, 0, -1, 0), NONE);
        Due.is("32 no such what", x.steered(0, 0, 0, 0, 5), NONE);
        Due.is("32 what below 0", x.steered(0, 0, 0, 0, -1), NONE);
        Due.is("32 no such k", x.steered(0, 41, 0, 0, 0), NONE);
        Due.is("32 no such LAW", x.steered(1, 0, 0, 0, 0), NONE);
        steered("no PAIR", Courts.of("road 1 1;man 1 1", Courts.PLAIN), 0, 0, -2, -2, -2, -2, -2);
        steered("no WORLD", Courts.quarrelling(), 0, 0, -2, -2, -2, -2, -2);
        // KEPT are 7 and 16, of HOURS 0 and 1. Where it is HOUR 2, the PAIR 0, 1 leaves HOUR 1 (as
        // 1 is nearer); MAN 0 is in neither: all parts are 0, and the first PAIR is told.
        x = Courts.heard();
        steered("a WORLD that is not KEPT", x, 18, 0, 0, 0, 1, 0, 1);
        steered("the MAN in all KEPT", x, 18, 1, 0, 0, 1, 1, 1);
        // HOUR 0 alone is KEPT; where it is HOUR 2, the PAIRS of HOURS leave none: ROADS are next.
        x = Courts.house();
        x.answer(0, 0, 0, 1);
        steered("PAIRS that leave none are none", x, 18, 2, 1, 0, 1, 1, 3);
        // Both as FAR: as if the first were nearer.
        x = Courts.of("hours 1;road 1 1;man 1 1;man 1 1", "man 0 if seen=0;man asked");
        steered("both as FAR", x, 0, 1, 2, 0, 1, 1, 2);
        x = Courts.of("road 1 1;man 1 1;man 1 1", "man 0 if seen=0;man 1-asked");
        steered("both as FAR, the first", x, 0, 0, 2, 0, 1, 1, 1);
    }

    private static void promise33() {
        WarmerColder x = Courts.house();
        Due.is("33 nine", x.spare(0), 9);
        x.answer(0, 0, 0, 1);
        Due.is("33 eight", x.spare(0), 8);
        Due.is("33 of another", x.spare(5), 9);
        Due.is("33 no such WITNESS", x.spare(6), NONE);
        Due.is("33 below 0", x.spare(-1), NONE);
        x.strike(0, true);
        Due.is("33 a STRUCK one counts", x.spare(0), 8);
        for (int i = 0; i < 8; i++) {
            x.answer(0, 0, 0, 1);
        }
        Due.is("33 none", x.spare(0), 0);
        for (int i = 0; i < 24; i++) {
            x.answer(1 + i % 3, 0, 0, 1);
        }
        Due.is("33 up to 40", x.spare(5), 7);
        Due.is("33 his nine come first", x.spare(1), 1);
        for (int i = 0; i < 7; i++) {
            x.answer(4, 0, 0, 1);
        }
        Due.is("33 there are 40", x.spare(5), 0);
        Due.is("33 there are 40, of nine", x.spare(4), 0);
    }

    private static void promise34() {
        WarmerColder x = new WarmerColder();
        Due.is("34 0 at first", x.seed(7), 0);
        Due.is("34 7", x.seed(MAX), 7);
        Due.is("34 below 0", x.seed(-1), NONE);
        Due.is("34 least", x.seed(MIN), NONE);
        Due.is("34 nothing happened", x.count(8), MAX);
        Due.is("34 most", x.seed(0), MAX);
    }

    private static void trials(String call, WarmerColder x, int m, int asked, int found, int left) {
        Due.is("35 " + call + " asked", x.trials(0, m, 0), asked);
        Due.is("35 " + call + " just the true one", x.trials(0, m, 1), found);
        Due.is("35 " + call + " left", x.trials(0, m, 2), left);
    }

    private static void promise35() {
        trials("two HOURS", Courts.of("hours 2;road 1 1;man 1 1", Courts.PLAIN), 2, 2, 2, 2);
        trials("one WORLD", Courts.of("road 1 1;man 1 1", Courts.PLAIN), 20, 0, 20, 20);
        trials("never", Courts.of("hours 2;road 1 1;man 1 1", "hour 1"), 3, 0, 0, 6);
        // Draws from 0 on: 12345 / 65536 = 0, 1406932606 / 65536 = 21468, 654583775 / 65536 = 9988,
        // 1449466924 / 65536 = 22117; of three the rest is 0, 0, 1, 1. NEXT is 0, 1: HOUR 0 is
        // found by it, HOUR 1 by 1, 2 behind it.
        WarmerColder x = Courts.of("hours 3;road 1 1;man 1 1", Courts.PLAIN);
        trials("three HOURS, one", x, 1, 1, 1, 1);
        trials("three HOURS, two", x, 2, 2, 2, 2);
        trials("three HOURS, three", x, 3, 4, 3, 3);
        trials("three HOURS, four", x, 4, 6, 4, 4);
        Due.is("35 x is as it was", x.count(8), 0);
        // 1341714958 / 65536 = 20472, 1460808642 / 65536 = 22290: three times something both.
        x.seed(9);
        trials("just below", x, 1, 1, 1, 1);
        x.seed(13);
        trials("just above", x, 1, 1, 1, 1);
        x.seed(654583775);
        trials("three HOURS, from there", x, 1, 2, 1, 1);
        x.answer(0, 0, 0, 1);
        trials("no ANSWERS", x, 1, 2, 1, 1);
        // HOUR 1 and 2 are alike: of them, two are left.
        x = Courts.of("hours 3;road 1 1;man 1 1", "hour 1 if asked=0 and seen>0;hour 1 if asked>0 and seen=0;hour 0");
        trials("alike", x, 4, 4, 2, 6);
        Due.is("35 m 0", x.trials(0, 0, 0), NONE);
        Due.is("35 m 20", x.trials(0, 20, 0), 20);
        Due.is("35 m 21", x.trials(0, 21, 0), NONE);
        Due.is("35 m below 0", x.trials(0, -1, 0), NONE);
        Due.is("35 no such what", x.trials(0, 1, 3), NONE);
        Due.is("35 what below 0", x.trials(0, 1, -1), NONE);
        Due.is("35 no such LAW", x.trials(1, 1, 0), NONE);
        // Eight of each on lines: three times three are asked, which is nine.
        String line = "hours 8";
        for (int i = 0; i < 8; i++) {
            line += ";road " + i + " 0;man " + i + " 0";
        }
        trials("nine asked", Courts.of(line, "road dx;man dyears"), 1, 9, 1, 1);
        // A PAIR only rules one of its two out: seven for HOURS, two of ROADS, and nine were asked.
        String apart = "0 if asked=seen;";
        x = Courts.of(line, "hour " + apart + "hour 1;road " + apart + "road 1;man " + apart + "man 1");
        trials("nine are not enough", x, 1, 9, 0, 48);
    }

    private static void promises36And37() {
        WarmerColder x = Courts.heard();
        Due.is("36 first", x.verdict(7), 1);
        Due.is("36 no such WORLD", x.verdict(27), -2);
        Due.is("36 below NONE", x.verdict(-2), -2);
        Due.is("36 nothing happened", x.count(7), 1);
        x.answer(1, 2, 0, 1);
        Due.is("36 second", x.verdict(6), 2);
        Due.is("37 KEPT then", x.old(0, 0, 0, 0), 1);
        Due.is("37 one other", x.old(0, 0, 0, 1), 1);
        Due.is("37 four ANSWERS", x.old(0, 0, 0, 2), 4);
        Due.is("37 not KEPT", x.old(0, 0, 1, 0), 0);
        Due.is("37 none then", x.old(0, 0, 1, 1), 0);
        Due.is("37 five ANSWERS", x.old(0, 0, 1, 2), 5);
        Due.is("37 k 1", x.old(0, 1, 1, 0), 1);
        Due.is("37 k 1, three others", x.old(0, 1, 1, 1), 3);
        x.strike(3, true);
        Due.is("37 STRUCK as now", x.old(0, 0, 0, 1), 3);
        x.strike(3, false);
        x.strike(4, true);
        Due.is("37 STRUCK as now, not KEPT", x.old(0, 0, 1, 0), 0);
        Due.is("37 STRUCK as now, others", x.old(0, 0, 1, 1), 2);
        Due.is("37 no such VERDICT", x.old(0, 0, 2, 0), NONE);
        Due.is("37 below 0", x.old(0, 0, -1, 0), NONE);
        Due.is("37 no such LAW", x.old(1, 0, 0, 2), NONE);
        Due.is("37 k 40", x.old(0, 40, 0, 1), 26);
        Due.is("37 no such k", x.old(0, 41, 0, 2), NONE);
        Due.is("37 k below 0", x.old(0, -1, 0, 2), NONE);
        Due.is("37 no such what", x.old(0, 0, 0, 3), NONE);
        Due.is("37 what below 0", x.old(0, 0, 0, -1), NONE);
        for (int i = 2; i < 10; i++) {
            Due.is("36 number " + i, x.verdict(0), i + 1);
        }
        Due.is("36 there are 10", x.verdict(0), -2);
        Due.is("36 10", x.count(7), 10);
        Due.is("36 none then", x.verdict(NONE), 0);
        Due.is("36 none", x.count(7), 0);
        Due.is("37 none", x.old(0, 0, 0, 0), NONE);
        Due.is("36 anew", x.verdict(26), 1);
        Due.is("36 without a COURT", new WarmerColder().verdict(0), -2);
        Due.is("36 none without a COURT", new WarmerColder().verdict(NONE), 0);
    }

    private static void promise38() {
        WarmerColder x = Courts.heard();
        Due.court(x, "hours 4;road 1 1;man 1 1;man 2 2");
        x.answer(0, 0, 1, 2);
        x.answer(0, 0, 1, 2);
        x.answer(1, 2, 1, 0);
        x.strike(1, true);
        x.only(2);
        x.verdict(0);
        x.verdict(1);
        x.verdict(1);
        x.verdict(7);
        x.seed(99);
        Due.law(x, Courts.PLAIN);
        Due.tape(x, "hours");
        int[] want = {4, 1, 2, 2, 3, 1, 1, 4, 99, 5};
        for (int what = 0; what < want.length; what++) {
            Due.is("38 what " + what, x.count(what), want[what]);
        }
        Due.is("38 no such what", x.count(10), NONE);
        Due.is("38 below 0", x.count(-1), NONE);
        Due.is("38 least", x.count(MIN), NONE);
    }

    private static void promises39And40() {
        WarmerColder x = new WarmerColder();
        Due.is("39 where nothing was told", x.image(0), 0);
        Due.is("39 no such IMAGE", x.image(4), NONE);
        Due.is("39 below 0", x.image(-1), NONE);
        Due.court(x, Courts.HOUSE);
        Due.law(x, Courts.PLAIN);
        x.answer(0, 0, 0, 2);
        x.answer(1, 1, 2, 0);
        x.strike(1, true);
        x.only(1);
        x.verdict(5);
        x.seed(12);
        Due.is("39 two ANSWERS", x.image(3), 2);
        x.strike(1, false);
        x.strike(0, true);
        x.only(NONE);
        x.verdict(NONE);
        x.verdict(6);
        x.verdict(6);
        x.seed(13);
        x.answer(2, 2, 0, 1);
        Due.court(x, "hours 2;road 0 0;road 9 9;man 1 1");
        Due.law(x, "hour 5");
        Due.tape(x, "man");
        Due.is("40 back", x.back(3), 2);
        int[] want = {3, 3, 3, 2, 2, 1, 1, 1, 12, 3};
        for (int what = 0; what < want.length; what++) {
            Due.is("40 count " + what, x.count(what), want[what]);
        }
        Due.is("40 STRUCK", x.answers(1, 4), 1);
        Due.is("40 not STRUCK", x.answers(0, 4), 0);
        Due.is("40 far by its COURT", x.far(0, 1, 0, 1), 25);
        Due.is("40 the new LAW", x.far(1, 0, 0, 1), 5);
        Due.is("40 VERDICT", x.old(0, 0, 0, 2), 2);
        Due.is("40 first n", x.only(1), 1);
        Due.is("40 PAIRS by its COURT", x.useful(0, 40, 0), 9);
        Due.is("40 never made", x.back(1), NONE);
        Due.is("40 no such IMAGE", x.back(4), NONE);
        Due.is("40 below 0", x.back(-1), NONE);
        Due.is("40 nothing happened", x.count(4), 2);
        Due.court(x, Courts.HOUSE);
        x.answer(5, 0, 0, 1);
        x.verdict(26);
        x.answer(4, 2, 1, 0);
        x.strike(0, true);
        Due.is("40 again", x.back(3), 2);
        int[] first = {0, 0, 0, 2};
        int[] second = {1, 1, 2, 0};
        for (int what = 0; what < 4; what++) {
            Due.is("40 ANSWER 0 what " + what, x.answers(0, what), first[what]);
            Due.is("40 ANSWER 1 what " + what, x.answers(1, what), second[what]);
        }
        // VERDICT 0 was on WORLD 5, (0, 1, 2), with two ANSWERS; ANSWER 0 is TRUE in 18 WORLDS.
        Due.is("40 VERDICT, how many then", x.old(0, 0, 0, 2), 2);
        Due.is("40 VERDICT, its WORLD", x.old(0, 0, 0, 0), 1);
        Due.is("40 VERDICT, others", x.old(0, 0, 0, 1), 17);
        Due.is("40 the IMAGE is as it was", x.answers(0, 4), 0);
        Due.is("40 to where nothing was told", x.back(0), 0);
        Due.is("40 no COURT", x.count(0), 0);
        Due.is("40 no COURT, kept", x.kept(0, 0), NONE);
        Due.is("40 no COURT, answer", x.answer(0, 0, 0, 1), NONE);
        Due.is("40 x of then", x.count(8), 0);
        Due.is("40 LAWS stay", x.count(3), 2);
        Due.is("39 made anew", x.image(3), 0);
        Due.is("40 the new one", x.back(3), 0);
        Due.is("40 without a COURT", x.count(1), 0);
    }

    /** README.md's example, call by call. */
    private static void readmeExample() {
        WarmerColder x = new WarmerColder();
        Due.is("README feed", x.feed(0x686f7572, 0x7320323b, 0x726f6164, 0x20302030, 0x3b6d616e), 20);
        Due.is("README feed, behind", x.feed(0x20312031, 0, 0, 0, 0), 40);
        Due.is("README end", x.end(24), 24);
        Due.is("README court", x.court(), 2);
        Due.is("README feed, LAW", x.feed(0x686f7572, 0x20617061, 0x72740000, 0, 0), 20);
        Due.is("README end, LAW", x.end(10), 10);
        Due.is("README law", x.law(), 0);
        Due.is("README answer", x.answer(0, 0, 1, 0), 0);
        Due.is("README kept", x.kept(0, 0), 1);
        Due.is("README sure", x.sure(0, 0, 0), 1);
    }
}
