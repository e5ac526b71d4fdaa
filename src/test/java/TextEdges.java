/**
 * Each sentence of "Terms" on COURTS and LAWS, and of promises 1 to 7, that names a boundary case,
 * by answers that were worked out by hand. What a test is called tells the sentence.
 */
public final class TextEdges {
    private static final int NONE = WarmerColder.NONE;
    private static final long NO_FAR = -1000000000000L;
    private static final String LEAST = "road 1 1;man 1 1";
    /** 2 to the 63, which is the least number of 64 bits. */
    private static final String MIN = "65536*65536*65536*32768";

    private TextEdges() {
    }

    public static void main(String[] args) {
        tapeIsFull();
        tapeBytes();
        courtOf400Bytes();
        courtClauses();
        hoursNumber();
        roadAndManNumbers();
        eightOfEach();
        aRoadAndAMan();
        kinds();
        worldNumbers();
        lawsAreSix();
        lawClauses();
        numberDigits();
        words();
        wordsByKind();
        overNothing();
        towardsNothing();
        roundIn64Bits();
        blanks();
        signsOfTests();
        orAndNot();
        depth();
        sixty();
        sixtyOfEachLaw();
        everyByteBehind();
        everyPrefix();
        firstFault();
        leastFaultOfOnePlace();
        aFaultLeavesAllElse();
        farWithout();
        Due.end("TextEdges");
    }

    private static void court(String text, int want) {
        Due.is("court \"" + text + "\"", Due.court(new WarmerColder(), text), want);
    }

    private static void courtFault(String text, int place, int code) {
        WarmerColder x = new WarmerColder();
        Due.is("court \"" + text + "\"", Due.court(x, text), Due.fault(place, code));
        Due.is("TAPE behind court \"" + text + "\"", x.count(9), 0);
        Due.is("ROADS behind court \"" + text + "\"", x.count(1), 0);
    }

    private static void law(String text) {
        Due.is("law \"" + text + "\"", Due.law(new WarmerColder(), text), 0);
    }

    private static void lawFault(String text, int place, int code) {
        WarmerColder x = new WarmerColder();
        Due.is("law \"" + text + "\"", Due.law(x, text), Due.fault(place, code));
        Due.is("TAPE behind law \"" + text + "\"", x.count(9), 0);
        Due.is("LAWS behind law \"" + text + "\"", x.count(3), 0);
    }

    private static void far(String sum, int kind, int asked, int seen, long want) {
        String word = new String[] {"hour", "road", "man"}[kind];
        WarmerColder x = Courts.of(Courts.HOUSE, word + " " + sum);
        Due.is("far, " + word + " " + sum + ", " + asked + " from " + seen, x.far(0, kind, asked, seen), want);
    }

    // ---- promises 2 and 3 ----

    /** "NONE, and none comes, if it would have more than 400." */
    private static void tapeIsFull() {
        for (int before = 360; before <= 400; before++) {
            WarmerColder x = new WarmerColder();
            for (int i = 0; i < 20; i++) {
                x.feed(0, 0, 0, 0, 0);
            }
            Due.is("2 end " + before, x.end(before), before);
            boolean fits = before <= 380;
            Due.is("2 feed behind " + before, x.feed(1, 2, 3, 4, 5), fits ? before + 20 : NONE);
            Due.is("2 bytes behind " + before, x.count(9), fits ? before + 20 : before);
        }
        // What does not come leaves the bytes that are there: a COURT and 384 blanks.
        WarmerColder x = new WarmerColder();
        Due.tape(x, LEAST + " ".repeat(384));
        Due.is("2 feed of a full TAPE", x.feed(-1, -1, -1, -1, -1), NONE);
        Due.is("2 the bytes are as they were", x.court(), 1);
        Due.is("2 an empty TAPE has room again", x.feed(0, 0, 0, 0, 0), 20);
    }

    /** "Twenty bytes ..., of each number the highest first"; "its first n bytes alone". */
    private static void tapeBytes() {
        int[] good = {0x726f6164, 0x20312031, 0x3b6d616e, 0x20312031, 0x20202020};
        for (int at = 0; at < 20; at++) {
            // A byte 255 in each place: a FAULT there, or at the beginning of the WORD that it cuts.
            int[] n = good.clone();
            n[at / 4] |= 255 << 24 - at % 4 * 8;
            WarmerColder x = new WarmerColder();
            x.feed(n[0], n[1], n[2], n[3], n[4]);
            int place = at < 4 ? 0 : at >= 9 && at < 12 ? 9 : at;
            Due.is("2 byte 255 in place " + at, x.court(), Due.fault(place, 0));
        }
        WarmerColder x = new WarmerColder();
        x.feed(good[0], good[1], good[2], good[3], 0);
        Due.is("3 a 0 is left", x.end(17), 17);
        Due.is("3 so it is a FAULT", x.court(), Due.fault(16, 0));
        x.feed(good[0], good[1], good[2], good[3], 0);
        Due.is("3 no 0 is left", x.end(16), 16);
        Due.is("3 one more than there are", x.end(17), NONE);
        Due.is("3 nothing happened", x.count(9), 16);
        Due.is("3 below 0", x.end(-1), NONE);
        Due.is("3 nothing happened, below 0", x.count(9), 16);
        Due.is("3 so it is a COURT", x.court(), 1);
        Due.is("3 an empty one has none", x.end(0), 0);
        Due.is("3 and not one", x.end(1), NONE);
    }

    // ---- COURTS ----

    /** "at most 400 bytes" */
    private static void courtOf400Bytes() {
        court(LEAST + " ".repeat(384), 1);
        court(" ".repeat(384) + LEAST, 1);
        courtFault(LEAST + " ".repeat(383) + "x", 399, 0);
        courtFault("road 1 1" + " ".repeat(392), 400, 0);
        courtFault(" ".repeat(400), 400, 0);
        courtFault(" ".repeat(396) + "road", 400, 0);
        law("hour 1" + " ".repeat(394));
        law(" ".repeat(394) + "hour 1");
        lawFault("hour 1" + " ".repeat(393) + ";", 400, 0);
        lawFault("hour 1" + " ".repeat(393) + "+", 400, 0);
        lawFault(" ".repeat(400), 400, 0);
        lawFault(" ".repeat(396) + "hour", 400, 0);
    }

    /** "CLAUSE { ; CLAUSE }, 24 at most": 17 tell of all that there may be, in any order. */
    private static void courtClauses() {
        String full = Courts.many(8, 8, 8);
        court(full, 512);
        courtFault(full + ";hours 8", full.length() + 1, 4);
        courtFault(full + ";road 1 1", full.length() + 1, 4);
        courtFault(full + ";man 1 1", full.length() + 1, 4);
        courtFault(full + ";", full.length() + 1, 0);
        courtFault(full + ";x", full.length() + 1, 0);
        courtFault(full + ";road 1 1".repeat(8), full.length() + 1, 4);
        court("man 1 1" + ";road 1 1;man 1 1".repeat(7) + ";road 1 1;hours 8", 512);
        courtFault(LEAST + ";", 17, 0);
        courtFault(";" + LEAST, 0, 0);
        courtFault("road 1 1;;man 1 1", 9, 0);
    }

    /** "hours NUMBER (how many, 1 to 8; once at most, 1 without)" */
    private static void hoursNumber() {
        for (int n = 1; n <= 8; n++) {
            court("hours " + n + ";" + LEAST, n);
            WarmerColder x = Courts.of("hours " + n + ";" + LEAST);
            Due.is("HOURS told " + n, x.count(0), n);
        }
        court("hours 00008;" + LEAST, 8);
        courtFault("hours 0;" + LEAST, 6, 1);
        courtFault("hours 9;" + LEAST, 6, 1);
        courtFault("hours 10;" + LEAST, 6, 1);
        courtFault("hours 00000;" + LEAST, 6, 1);
        courtFault("hours 99999;" + LEAST, 6, 1);
        courtFault("hours 000001;" + LEAST, 6, 1);
        // 4294967297 is 1 to the 32 bits of an int.
        courtFault("hours 4294967297;" + LEAST, 6, 1);
        courtFault("hours 1;hours 1;" + LEAST, 8, 4);
        courtFault("hours 2;" + LEAST + ";hours 2", 25, 4);
        courtFault(LEAST + ";hours 2;hours", 25, 4);
        court(LEAST, 1);
        Due.is("1 HOUR without", Courts.of(LEAST).count(0), 1);
        // The HOURS of one COURT aren't those of the next one.
        WarmerColder x = Courts.of("hours 8;" + LEAST);
        Due.is("1 HOUR without, again", Due.court(x, LEAST), 1);
        Due.is("hours told again", Due.court(x, "hours 3;" + LEAST), 3);
    }

    /** "road NUMBER NUMBER (x, y, 0 to 99) | man NUMBER NUMBER (years 0 to 99, kin 0 to 9)" */
    private static void roadAndManNumbers() {
        WarmerColder x = Courts.of("road 0 99;road 99 0;man 0 9;man 99 0");
        int[][] want = {{0, 99}, {99, 0}, {0, 9}, {99, 0}};
        for (int i = 0; i < 4; i++) {
            Due.is("6 least and most, what 0, " + i, x.thing(1 + i / 2, i % 2, 0), want[i][0]);
            Due.is("6 least and most, what 1, " + i, x.thing(1 + i / 2, i % 2, 1), want[i][1]);
        }
        courtFault("road 100 0;man 0 0", 5, 1);
        courtFault("road 0 100;man 0 0", 7, 1);
        courtFault("road 0 0;man 100 0", 13, 1);
        courtFault("road 0 0;man 0 10", 15, 1);
        courtFault("road 0 0;man 0 99", 15, 1);
        courtFault("road 99999 0;man 0 0", 5, 1);
        courtFault("road 0 99999;man 0 0", 7, 1);
        courtFault("road 000000 0;man 0 0", 5, 1);
        courtFault("road 0 000000;man 0 0", 7, 1);
        courtFault("road 0 0;man 000000 0", 13, 1);
        courtFault("road 0 0;man 0 000000", 15, 1);
        court("road 00099 00000;man 00000 00009", 1);
        courtFault("road 0;man 0 0", 6, 0);
        courtFault("road;man 0 0", 4, 0);
        courtFault("road 0 0 0;man 0 0", 9, 0);
        courtFault("road 0 0;man 0", 14, 0);
        courtFault("hours;" + LEAST, 5, 0);
        courtFault("hours 1 1;" + LEAST, 8, 0);
    }

    /** "HOURS, ROADS, MEN: 0 to 7 each, in the order told"; "a ninth ROAD, a ninth MAN" */
    private static void eightOfEach() {
        StringBuilder b = new StringBuilder("hours 8");
        for (int i = 0; i < 8; i++) {
            b.append(";man ").append(50 + i).append(' ').append(9 - i);
            b.append(";road ").append(10 + i).append(' ').append(90 + i);
        }
        WarmerColder x = Courts.of(b.toString(), Courts.PLAIN);
        for (int i = 0; i < 8; i++) {
            Due.is("6 x of ROAD " + i, x.thing(1, i, 0), 10 + i);
            Due.is("6 y of ROAD " + i, x.thing(1, i, 1), 90 + i);
            Due.is("6 years of MAN " + i, x.thing(2, i, 0), 50 + i);
            Due.is("6 kin of MAN " + i, x.thing(2, i, 1), 9 - i);
        }
        for (int kind = 0; kind < 3; kind++) {
            Due.is("38 eight of KIND " + kind, x.count(kind), 8);
            Due.is("6 eight of KIND " + kind, x.thing(kind, 8, 2), 8);
            Due.is("16 number 7 of KIND " + kind, x.may(0, 40, kind, 7), 64);
            Due.is("16 number 8 of KIND " + kind, x.may(0, 40, kind, 8), NONE);
            Due.is("8 number 7 of KIND " + kind, x.answer(0, kind, 7, 0), kind);
            Due.is("8 number 8 of KIND " + kind, x.answer(0, kind, 8, 0), NONE);
        }
        Due.is("6 ROAD 8", x.thing(1, 8, 0), NONE);
        Due.is("6 MAN 8", x.thing(2, 8, 1), NONE);
        court("road 1 1;".repeat(8) + "man 1 1", 8);
        courtFault("road 1 1;".repeat(9) + "man 1 1", 72, 4);
        court("man 1 1;".repeat(8) + "road 1 1", 8);
        courtFault("man 1 1;".repeat(9) + "road 1 1", 64, 4);
        // What is told of the ninth isn't read.
        courtFault("road 1 1;".repeat(8) + " road 100 1;man 1 1", 73, 4);
        courtFault("road 1 1;".repeat(8) + "road", 72, 4);
    }

    /** "at least one ROAD and one MAN"; "the end (behind the last byte; also without ...)" */
    private static void aRoadAndAMan() {
        court(LEAST, 1);
        courtFault("", 0, 0);
        courtFault(" ", 1, 0);
        courtFault("hours 1", 7, 0);
        courtFault("road 1 1", 8, 0);
        courtFault("man 1 1", 7, 0);
        courtFault("road 1 1;hours 2;road 3 3  ", 27, 0);
        courtFault("man 1 1;".repeat(7) + "man 1 1", 63, 0);
        // Another FAULT lies ahead of the end.
        courtFault("road 1 1 x", 9, 0);
        courtFault("road 1 100", 7, 1);
    }

    /** "KINDS: 0 HOURS, 1 ROADS, 2 MEN" */
    private static void kinds() {
        WarmerColder x = Courts.of("hours 2;road 1 1;road 2 2;road 3 3;man 1 1;man 2 2;man 3 3;man 4 4", Courts.PLAIN);
        for (int kind = 0; kind < 3; kind++) {
            Due.is("6 KIND " + kind, x.thing(kind, -5, 2), 2 + kind);
            Due.is("8 the last of KIND " + kind, x.answer(0, kind, 1 + kind, 0), kind);
            Due.is("8 behind the last of KIND " + kind, x.answer(0, kind, 2 + kind, 0), NONE);
        }
        for (int kind : new int[] {-1, 3, Integer.MIN_VALUE, Integer.MAX_VALUE}) {
            Due.is("6 no KIND " + kind, x.thing(kind, 0, 2), NONE);
            Due.is("7 no KIND " + kind, x.far(0, kind, 0, 0), NO_FAR);
            Due.is("8 no KIND " + kind, x.answer(0, kind, 0, 1), NONE);
            Due.is("16 no KIND " + kind, x.may(0, 0, kind, 0), NONE);
            Due.is("25 no KIND " + kind, x.sure(0, 0, kind), NONE);
        }
    }

    /** "A WORLD is ...: number (h * ROADS + r) * MEN + m." */
    private static void worldNumbers() {
        WarmerColder x = Courts.of(Courts.many(2, 3, 4), Courts.SAME);
        int[] many = {2, 3, 4};
        for (int kind = 0; kind < 3; kind++) {
            for (int thing = 0; thing < many[kind]; thing++) {
                x.answer(kind, kind, (thing + 1) % many[kind], thing);
            }
        }
        // ANSWERS 0 and 1 are of the HOURS, 2 to 4 of the ROADS, 5 to 8 of the MEN.
        for (int h = 0; h < 2; h++) {
            for (int r = 0; r < 3; r++) {
                for (int m = 0; m < 4; m++) {
                    int world = (h * 3 + r) * 4 + m;
                    for (int a = 0; a < 9; a++) {
                        boolean isOther = a == h || a == 2 + r || a == 5 + m;
                        Due.is("12 ANSWER " + a + ", WORLD " + world, x.holds(0, a, world), isOther ? 0 : 1);
                    }
                    Due.is("13 WORLD " + world, x.wrong(0, world), 3);
                }
            }
        }
        Due.is("12 WORLD 24", x.holds(0, 0, 24), NONE);
        Due.is("13 WORLD 24", x.wrong(0, 24), NONE);
        Due.is("36 WORLD 24", x.verdict(24), -2);
        Due.is("36 WORLD 23", x.verdict(23), 1);
        Due.is("4 WORLDS", Due.court(x, Courts.many(7, 8, 5)), 280);
    }

    // ---- LAWS ----

    /** "LAWS 0 to 5"; "NONE, and nothing happens (the TAPE stays): there are 6" */
    private static void lawsAreSix() {
        WarmerColder x = new WarmerColder();
        for (int i = 0; i < 6; i++) {
            Due.is("38 LAWS " + i, x.count(3), i);
            Due.is("5 a FAULT takes no number " + i, Due.law(x, "hour 1;hour"), Due.fault(11, 0));
            Due.is("5 number " + i, Due.law(x, "hour " + (10 + i)), i);
        }
        Due.tape(x, "hour 99");
        Due.is("5 a seventh", x.law(), NONE);
        Due.is("5 a seventh, again", x.law(), NONE);
        Due.is("38 there are 6", x.count(3), 6);
        Due.is("38 the TAPE stays", x.count(9), 7);
        Due.is("2 the TAPE goes on", x.feed(0, 0, 0, 0, 0), 27);
        Due.tape(x, "hour");
        Due.is("5 a seventh with a FAULT", x.law(), NONE);
        Due.is("38 the TAPE stays, with a FAULT", x.count(9), 4);
        x.end(0);
        Due.is("5 a seventh that is empty", x.law(), NONE);
        Due.court(x, Courts.HOUSE);
        for (int i = 0; i < 6; i++) {
            Due.is("7 by LAW " + i, x.far(i, 0, 0, 0), 10 + i);
        }
        Due.is("7 by LAW 6", x.far(6, 0, 0, 0), NO_FAR);
        Due.is("7 by LAW -1", x.far(-1, 0, 0, 0), NO_FAR);
        Due.is("14 by LAW 5", x.kept(5, 0), 27);
        Due.is("14 by LAW 6", x.kept(6, 0), NONE);
    }

    /** "12 CLAUSES at most"; "4 one CLAUSE too many (at its first byte)" */
    private static void lawClauses() {
        law("hour 1" + ";hour 1".repeat(11));
        lawFault("hour 1" + ";hour 1".repeat(12), 84, 4);
        lawFault("hour 1" + ";hour 1".repeat(11) + ";  road", 86, 4);
        lawFault("hour 1" + ";hour 1".repeat(11) + ";", 84, 0);
        lawFault("hour 1" + ";hour 1".repeat(20), 84, 4);
        lawFault("", 0, 0);
        lawFault(";hour 1", 0, 0);
        lawFault("hour 1;", 7, 0);
        // Each of twelve is looked at, the twelfth too.
        StringBuilder b = new StringBuilder();
        for (int i = 0; i < 11; i++) {
            b.append("hour ").append(i).append(" if asked=9;");
        }
        WarmerColder x = Courts.of(Courts.HOUSE, b + "hour 77");
        Due.is("7 by the twelfth CLAUSE", x.far(0, 0, 1, 2), 77);
    }

    /** "NUMBER (1 to 5 digits, as far as digits go on)"; "1 a NUMBER of more digits" */
    private static void numberDigits() {
        far("0", 0, 2, 1, 0);
        far("9", 0, 2, 1, 9);
        far("99999", 0, 2, 1, 99999);
        far("00000", 0, 2, 1, 0);
        far("00099", 0, 2, 1, 99);
        lawFault("hour 100000", 5, 1);
        lawFault("hour 000000", 5, 1);
        lawFault("hour 2147483648", 5, 1);
        lawFault("hour 4294967297", 5, 1);
        lawFault("hour 1 if 100000=1", 10, 1);
        lawFault("hour 1 if 1=100000", 12, 1);
        lawFault("hour 1 if asked*100000=1", 16, 1);
        lawFault("hour 1 2", 7, 0);
        lawFault("hour 12345 6", 11, 0);
        lawFault("hour 1" + "0".repeat(394), 5, 1);
        courtFault("hours 1" + "0".repeat(393), 6, 1);
    }

    /** "WORDS (small letters, as far as these go on)"; "a byte or WORD that can't stand there" */
    private static void words() {
        for (String word : new String[] {"asked", "seen", "apart", "dx", "dy", "years", "dyears", "kin"}) {
            law("hour " + word);
            lawFault("hour " + word + "s", 5, 0);
            lawFault("hour z" + word, 5, 0);
            lawFault("hour " + word.substring(0, word.length() - 1), 5, 0);
            if (!word.equals("dyears")) {
                lawFault("hour " + word.substring(1), 5, 0);
            }
            lawFault("hour " + word.toUpperCase(), 5, 0);
            lawFault("hour " + word + " " + word, 6 + word.length(), 0);
            lawFault("hour " + word + "1", 5 + word.length(), 0);
            lawFault(word + " 1", 0, 0);
        }
        for (String word : new String[] {"hou", "hours", "hourr", "roads", "roa", "men", "mans", "ma", "if", "HOUR"}) {
            lawFault(word + " 1", 0, 0);
        }
        for (String word : new String[] {"hour", "hourss", "roads", "roa", "mann", "ma", "ours", "ROAD"}) {
            courtFault(word + " 1 1;" + LEAST, 0, 0);
        }
        for (String word : new String[] {"or", "and", "not", "if", "hour", "road", "man", "hours", "i", "iff", "x"}) {
            lawFault("hour " + word, 5, 0);
            if (!word.equals("if")) {
                lawFault("hour 1 " + word + " 1<2", 7, 0);
            }
            if (!word.equals("or") && !word.equals("and")) {
                lawFault("hour 1 if 1<2 " + word + " 1<2", 14, 0);
            }
        }
        // Where a SIGN is due, and where a ] is.
        for (String word : new String[] {"or", "and", "not", "if", "hour", "road", "man", "hours", "asked", "seen",
            "apart", "dx", "dy", "years", "dyears", "kin", "x"}) {
            lawFault("hour 1 if 1 " + word + " 2", 12, 0);
            lawFault("hour 1 if 1 " + word + " 1<2", 12, 0);
            if (!word.equals("or") && !word.equals("and")) {
                lawFault("hour 1 if [1<2 " + word + "]", 15, 0);
            }
        }
        for (String word : new String[] {"no", "nots", "nott", "o", "an", "andd", "orr"}) {
            lawFault("hour 1 if " + word + " 1<2", 10, 0);
            lawFault("hour 1 if 1<2 " + word + " 1<2", 14, 0);
        }
        lawFault("hour aSked", 5, 0);
        lawFault("hour askeD", 5, 0);
    }

    /** "apart (what these differ by), dx, dy ... 0 but for ROADS ... these three 0 but for MEN" */
    private static void wordsByKind() {
        // Of each KIND: dx, dy, years, dyears, kin of 2 from 0, and of 1 from 1.
        String[] words = {"dx", "dy", "years", "dyears", "kin"};
        int[][] apart = {{0, 0, 0, 0, 0}, {10, 0, 0, 0, 0}, {0, 0, 50, 30, 0}};
        int[][] alike = {{0, 0, 0, 0, 0}, {0, 0, 0, 0, 0}, {0, 0, 30, 0, 1}};
        for (int kind = 0; kind < 3; kind++) {
            for (int i = 0; i < words.length; i++) {
                far(words[i], kind, 2, 0, apart[kind][i]);
                far(words[i], kind, 1, 1, alike[kind][i]);
            }
            far("asked", kind, 2, 0, 2);
            far("seen", kind, 2, 0, 0);
            far("apart", kind, 2, 0, 2);
            far("apart", kind, 0, 2, 2);
            far("apart", kind, 1, 1, 0);
        }
        far("dx", 1, 0, 2, 10);
        far("dy", 1, 0, 1, 4);
        far("dy", 1, 1, 0, 4);
        far("years", 2, 0, 2, 20);
        far("dyears", 2, 0, 2, 30);
        far("kin", 2, 0, 1, 1);
        WarmerColder x = Courts.of("road 0 99;road 99 0;man 0 9;man 99 0", "road dx*100+dy;man dyears*10+kin");
        Due.is("7 the most that x, y differ by", x.far(0, 1, 0, 1), 9999);
        Due.is("7 the most that years differ by", x.far(0, 2, 1, 0), 990);
        Due.is("7 kin 0 and 0 are alike", x.far(0, 2, 1, 1), 1);
    }

    /** "/ is towards 0, 0 by 0" */
    private static void overNothing() {
        far("7/0", 0, 2, 1, 0);
        far("0/0", 0, 2, 1, 0);
        far("7/seen", 0, 2, 0, 0);
        far("7/0*5", 0, 2, 1, 0);
        far("7/0/0", 0, 2, 1, 0);
        far("5+7/0", 0, 2, 1, 5);
        far(MIN + "/0", 0, 2, 1, 0);
        far("0/7", 0, 2, 1, 0);
        far("7/dx", 2, 2, 1, 0);
    }

    private static void towardsNothing() {
        far("6/7", 0, 2, 1, 0);
        far("7/7", 0, 2, 1, 1);
        far("13/7", 0, 2, 1, 1);
        far("14/7", 0, 2, 1, 2);
        // Below 0 only by going round: the least number is no threefold, nor is it a sevenfold.
        far(MIN + "/3", 0, 2, 1, -3074457345618258602L);
        far(MIN + "/7", 0, 2, 1, -1317624576693539401L);
        far(MIN + "/1", 0, 2, 1, Long.MIN_VALUE);
        far(MIN + "/3*3", 0, 2, 1, Long.MIN_VALUE + 2);
    }

    /** "all goes round in 64 bits" */
    private static void roundIn64Bits() {
        far(MIN, 0, 2, 1, Long.MIN_VALUE);
        far(MIN + "-1", 0, 2, 1, Long.MAX_VALUE);
        far("0-1+" + MIN, 0, 2, 1, Long.MAX_VALUE);
        far(MIN + "-1+1", 0, 2, 1, Long.MIN_VALUE);
        far("0-" + MIN, 0, 2, 1, Long.MIN_VALUE);
        far(MIN + "+" + MIN, 0, 2, 1, 0);
        far("65536*65536*65536*65536", 0, 2, 1, 0);
        far("65536*65536", 0, 2, 1, 4294967296L);
        far("65536*32768-1", 0, 2, 1, 2147483647L);
        far("65536*32768", 0, 2, 1, 2147483648L);
        far("65536*65536*65536*16384", 0, 2, 1, 1L << 62);
        far("65536*65536*65536*32769", 0, 2, 1, Long.MIN_VALUE + (1L << 48));
        far("0-65536*32768-1", 0, 2, 1, -2147483649L);
        // TESTS are of numbers below 0, too.
        String[] holding = {MIN + "<1", MIN + "<=0", MIN + "-1>0", "0-" + MIN + "<0", MIN + "<" + MIN + "-1",
            MIN + "=0-" + MIN, MIN + "-1>=" + MIN, "65536*65536>1", "65536*32768>0", "65536*65536*65536*65536=0"};
        for (String test : holding) {
            far("1 if " + test, 0, 2, 0, 1);
            far("5 if not " + test, 0, 2, 0, 2);
        }
        // The least number is less FAR than the greatest one: HOUR 0 is nearer than HOUR 1.
        WarmerColder x = Courts.of(Courts.many(2, 1, 1), "hour " + MIN + " if asked=0;hour " + MIN + "-1");
        x.answer(0, 0, 0, 1);
        x.answer(0, 0, 1, 0);
        Due.is("12 the least is nearer", x.holds(0, 0, 0), 1);
        Due.is("12 the greatest is FARTHER", x.holds(0, 1, 1), 0);
        // So is 0 than 2 to the 32, which an int does not hold.
        x = Courts.of(Courts.many(2, 1, 1), "hour 65536*65536*asked");
        x.answer(0, 0, 0, 1);
        x.answer(0, 0, 1, 0);
        Due.is("12 0 is nearer than 2 to the 32", x.holds(0, 0, 1), 1);
        Due.is("12 2 to the 32 is FARTHER than 0", x.holds(0, 1, 1), 0);
    }

    /** "Blanks (32) stand between as one likes." */
    private static void blanks() {
        court("road1 1;man1 1;hours2", 2);
        court("  hours  2  ;  road  1  1  ;  man  1  1  ", 2);
        law("hour1if not[1<2and[2>1]or 1=1]and not not 3>=2;road seen+1 ;man 2");
        law(" hour 1 + 2 - 3 * 4 / 5 if [ not 1 <= 2 ] or 3 >= 4 ");
        lawFault("hour 1 if 1< =2", 13, 0);
        lawFault("hour 1 if 1> =2", 13, 0);
        lawFault("hour 1 i f 1<2", 7, 0);
        lawFault("hour as ked", 5, 0);
        courtFault("ro ad 1 1;man 1 1", 0, 0);
        courtFault("road 1 1;man 1 1 1", 17, 0);
        for (char c : new char[] {0, 9, 10, 13, 31, 33, 127, 128, 160, 255}) {
            courtFault("road" + c + "1 1;man 1 1", 4, 0);
            courtFault(c + LEAST, 0, 0);
            lawFault("hour" + c + "1", 4, 0);
            lawFault("hour 1" + c, 6, 0);
            lawFault("hour 1 if 1<2" + c + " and 1<2", 13, 0);
        }
    }

    /** "SIGN one of < <= = >= >": just below, as much, just above. */
    private static void signsOfTests() {
        String[] signs = {"<", "<=", "=", ">=", ">"};
        boolean[][] holds = {{true, false, false}, {true, true, false}, {false, true, false},
            {false, true, true}, {false, false, true}};
        for (int i = 0; i < signs.length; i++) {
            for (int left = 4; left <= 6; left++) {
                far("1 if " + left + signs[i] + "5", 0, 2, 0, holds[i][left - 4] ? 1 : 2);
                far("1 if " + left + "-6" + signs[i] + "0-1", 0, 2, 0, holds[i][left - 4] ? 1 : 2);
            }
        }
    }

    /** "TEST: PART { or PART }. PART: FACT { and FACT }. FACT: not FACT | [ TEST ]" */
    private static void orAndNot() {
        String[] facts = {"1>2", "1<2"};
        for (int bits = 0; bits < 8; bits++) {
            boolean a = (bits & 1) == 1;
            boolean b = (bits & 2) == 2;
            boolean c = (bits & 4) == 4;
            String p = facts[bits & 1];
            String q = facts[bits >> 1 & 1];
            String r = facts[bits >> 2];
            far("1 if " + p + " or " + q + " or " + r, 0, 2, 0, a || b || c ? 1 : 2);
            far("1 if " + p + " and " + q + " and " + r, 0, 2, 0, a && b && c ? 1 : 2);
            far("1 if " + p + " or " + q + " and " + r, 0, 2, 0, a || b && c ? 1 : 2);
            far("1 if " + p + " and " + q + " or " + r, 0, 2, 0, a && b || c ? 1 : 2);
            far("1 if [" + p + " or " + q + "] and " + r, 0, 2, 0, (a || b) && c ? 1 : 2);
            far("1 if " + p + " and [" + q + " or " + r + "]", 0, 2, 0, a && (b || c) ? 1 : 2);
            far("1 if not " + p + " and " + q + " or " + r, 0, 2, 0, !a && b || c ? 1 : 2);
            far("1 if not [" + p + " and " + q + "] or " + r, 0, 2, 0, !(a && b) || c ? 1 : 2);
            far("1 if not not " + p + " or not " + q + " and not " + r, 0, 2, 0, a || !b && !c ? 1 : 2);
        }
        // "these brackets are signs": one opens, the other one shuts.
        law("hour 1 if [1<2]");
        lawFault("hour 1 if ]1<2]", 10, 0);
        lawFault("hour 1 if ]1<2[", 10, 0);
        lawFault("hour 1 if [1<2[", 14, 0);
        lawFault("hour 1 if [[1<2]", 16, 0);
        lawFault("hour 1 if [1<2]]", 15, 0);
        lawFault("hour 1 if []", 11, 0);
        lawFault("hour 1 if [1<2;", 14, 0);
        lawFault("hour 1 if (1<2)", 10, 0);
        lawFault("hour 1 [if 1<2]", 7, 0);
    }

    /** "[ and not lie within one another 10 deep at most"; "2 too deep (at the sign ...)" */
    private static void depth() {
        for (int opened = 0; opened <= 10; opened++) {
            String mixed = "[".repeat(opened) + "not ".repeat(10 - opened);
            String shut = "]".repeat(opened);
            law("hour 1 if " + mixed + "1<2" + shut);
            int place = 10 + mixed.length();
            lawFault("hour 1 if " + mixed + "not 1<2" + shut, place, 2);
            lawFault("hour 1 if " + mixed + "[1<2]" + shut, place, 2);
            lawFault("hour 1 if " + mixed + " [", place + 1, 2);
            lawFault("hour 1 if " + mixed + " not", place + 1, 2);
        }
        String deep = "[".repeat(10) + "1<2" + "]".repeat(10);
        law("hour 1 if " + deep + " and " + deep + " or " + deep + ";hour 1 if " + deep);
        law("hour 1 if not [not 1<2] and " + "not ".repeat(10) + "1<2 or " + "not ".repeat(10) + "1<2");
        lawFault("hour 1 if " + "[".repeat(10) + "1<2 or [1<2]" + "]".repeat(10), 27, 2);
        lawFault("hour 1 if " + "[".repeat(10) + "1<2 and not 1<2" + "]".repeat(10), 28, 2);
        law("hour 1 if " + "[".repeat(10) + "1<2] or [1<2]" + "]".repeat(9));
        lawFault("hour 1 if " + "[".repeat(100), 20, 2);
        lawFault("hour 1 if " + "not ".repeat(90), 50, 2);
        // What ten deep answer is as due.
        far("1 if " + "not ".repeat(10) + "1<2", 0, 2, 0, 1);
        far("1 if " + "not ".repeat(9) + "1<2", 0, 2, 0, 2);
        far("1 if " + deep, 0, 2, 0, 1);
    }

    /** "at most 60 VALUES and FACTS made of a SIGN, together"; "3 ... (of a FACT at its SIGN)" */
    private static void sixty() {
        law("hour 1" + "+1".repeat(59));
        lawFault("hour 1" + "+1".repeat(60), 125, 3);
        lawFault("hour 1" + "+ 1".repeat(60), 185, 3);
        law("hour 1" + "*asked".repeat(59));
        // A VALUE for each CLAUSE, over all of the CLAUSES.
        law("hour 1;" + "road 1" + "+1".repeat(58));
        lawFault("hour 1;" + "road 1" + "+1".repeat(59), 130, 3);
        // not and [ aren't counted; of FACTS each is three with its two VALUES.
        String facts = "1<2" + " or 1<2".repeat(18);
        law("hour 1+1+1 if " + facts);
        lawFault("hour 1+1+1+1 if " + facts, 144, 3);
        law("hour 1+1+1 if not [not [1<2]]" + " or [not 1<2]".repeat(18));
        // The left VALUE, the SIGN and the right VALUE, each as the 61st.
        lawFault("hour 1+1+1 if " + facts + " or 3", 147, 3);
        lawFault("hour 1+1 if " + facts + " or 3=4", 146, 3);
        lawFault("hour 1 if " + facts + " or 3=4", 145, 3);
        // All sixty are reckoned with.
        far("1" + "+1".repeat(59), 0, 2, 1, 60);
        far("asked" + "*asked".repeat(59), 0, 2, 1, 1L << 60);
        far("asked-seen" + "-1".repeat(58), 0, 2, 1, -57);
        far("1+1+1 if 1>2" + " or 1>2".repeat(17) + " or 1<2", 0, 2, 0, 3);
        far("1+1+1 if 1<2" + " and 1<2".repeat(17) + " and 1>2", 0, 2, 0, 2);
    }

    /** Each LAW has its own sixty, also behind LAWS with a FAULT, however many. */
    private static void sixtyOfEachLaw() {
        WarmerColder x = new WarmerColder();
        Due.court(x, Courts.HOUSE);
        String sixty = "hour 1" + "+1".repeat(59);
        for (int i = 0; i < 12; i++) {
            Due.is("5 61, again", Due.law(x, sixty + "+1"), Due.fault(125, 3));
        }
        Due.is("5 sixty", Due.law(x, sixty), 0);
        Due.is("5 another sixty", Due.law(x, sixty), 1);
        Due.is("7 sixty", x.far(0, 0, 0, 0), 60);
        Due.is("7 another sixty", x.far(1, 0, 0, 0), 60);
        Due.is("5 twelve CLAUSES", Due.law(x, "hour 7" + ";hour 1".repeat(11)), 2);
        Due.is("5 twelve CLAUSES again", Due.law(x, "hour 8" + ";hour 1".repeat(11)), 3);
        Due.is("7 by the first of twelve", x.far(2, 0, 0, 0) * 10 + x.far(3, 0, 0, 0), 78);
    }

    // ---- FAULTS ----

    /** "0 a byte or WORD that can't stand there": each of the 256 bytes behind a whole text. */
    private static void everyByteBehind() {
        for (int i = 0; i < 256; i++) {
            char c = (char) i;
            boolean isDigit = c >= '0' && c <= '9';
            if (c == ' ') {
                court(LEAST + c, 1);
                law("hour 1" + c);
            } else if (c == ';') {
                courtFault(LEAST + c, 17, 0);
                lawFault("hour 1" + c, 7, 0);
            } else if (isDigit) {
                courtFault(LEAST + c, 15, 1);
                law("hour 1" + c);
            } else if ("+-*/".indexOf(c) >= 0) {
                courtFault(LEAST + c, 16, 0);
                lawFault("hour 1" + c, 7, 0);
            } else {
                courtFault(LEAST + c, 16, 0);
                lawFault("hour 1" + c, 6, 0);
            }
            // Where a CLAUSE begins nothing but a letter can stand, and no letter alone.
            if (c != ' ') {
                courtFault(c + " 1 1", 0, 0);
                lawFault(c + " 1", 0, 0);
            }
            // Where a VALUE or a FACT is due, and where a ] is.
            if (!isDigit && c != ' ') {
                lawFault("hour " + c, 5, 0);
                lawFault("hour 1 if " + c, c == '[' ? 11 : 10, 0);
            }
            if (!isDigit && c != ' ' && "+-*/]".indexOf(c) < 0) {
                lawFault("hour 1 if [1<2" + c, 14, 0);
            }
            // Where a SIGN is due.
            if (!isDigit && c != ' ' && "+-*/<=>".indexOf(c) < 0) {
                lawFault("hour 1 if 1" + c + "2", 11, 0);
            }
        }
        for (String sign : new String[] {"<", "<=", "=", ">=", ">"}) {
            law("hour 1 if 1" + sign + "2");
            lawFault("hour 1 if 1" + sign, 11 + sign.length(), 0);
            lawFault("hour 1 if 1" + sign + sign + "2", 11 + sign.length(), 0);
            lawFault("hour 1 if 1" + sign + "2" + sign + "3", 12 + sign.length(), 0);
            lawFault("hour 1" + sign + "2", 6, 0);
        }
        lawFault("hour 1 if 1=<2", 12, 0);
        lawFault("hour 1 if 1<==2", 13, 0);
        lawFault("hour 1 if 1<>2", 12, 0);
    }

    /** "or the end (behind the last byte)": texts that end too early, byte for byte. */
    private static void everyPrefix() {
        String court = "hours 2;road 10 5;man 33 4";
        for (int n = 0; n < court.length(); n++) {
            boolean inHours = n >= 1 && n <= 4;
            boolean inRoad = n >= 9 && n <= 11;
            boolean inMan = n >= 19 && n <= 20;
            courtFault(court.substring(0, n), inHours ? 0 : inRoad ? 8 : inMan ? 18 : n, 0);
        }
        court(court, 2);
        String law = "hour 12 if not[asked<=3 or dx>1]and kin=0";
        // Of each length: where the FAULT lies; -1 where the text is a LAW.
        int[] places = {0, 0, 0, 0, 4, 5, -1, -1, -1, 8, 10, 11, 11, 11, 14, 15, 15, 15, 15, 15, 20, 21,
            22, 23, 24, 24, 26, 27, 27, 29, 30, 31, -1, 32, 32, 35, 36, 36, 36, 39, 40, -1};
        for (int n = 0; n < places.length; n++) {
            if (places[n] < 0) {
                law(law.substring(0, n));
            } else {
                lawFault(law.substring(0, n), places[n], 0);
            }
        }
    }

    /** "FAULTS, the first along the text" */
    private static void firstFault() {
        courtFault("hours 9;road 100 1;man 1 1", 6, 1);
        courtFault("road 1 1;road 1 x;man 100 1", 16, 0);
        courtFault("road 100 x", 5, 1);
        courtFault("road 1 1;hours 2;hours 2;hours 9", 17, 4);
        courtFault("man 1 1;man 1 10;" + "man 1 1;".repeat(8), 14, 1);
        lawFault("hour 123456;hour x", 5, 1);
        lawFault("hour x;hour 123456", 5, 0);
        lawFault("hour 1" + "+1".repeat(60) + ";x", 125, 3);
        lawFault("hour 1 if " + "not ".repeat(11) + "1<2;x", 50, 2);
        lawFault("hour 1 if x" + "not ".repeat(11) + "1<2", 10, 0);
        lawFault("hour 1;".repeat(12) + "hour 123456", 84, 4);
        lawFault("hour 123456;" + "hour 1;".repeat(12), 5, 1);
        lawFault("hour 1+" + "1;hour ".repeat(11) + "1" + "+1".repeat(60), 180, 3);
    }

    /** "Of one place the least." */
    private static void leastFaultOfOnePlace() {
        // 0 and 1: a NUMBER of six digits where none can stand.
        courtFault("123456", 0, 0);
        courtFault("road 1 1 123456;man 1 1", 9, 0);
        courtFault("hours 1 123456;" + LEAST, 8, 0);
        lawFault("123456", 0, 0);
        lawFault("hour 1 123456", 7, 0);
        lawFault("hour 1 if 1<2 123456", 14, 0);
        // 0 and 2: an eleventh [ or not where none can stand.
        String ten = "hour 1 if " + "[".repeat(10);
        lawFault(ten + "1<[1<2]", 22, 0);
        lawFault(ten + "1<not 1<2", 22, 0);
        lawFault(ten + "1[", 21, 0);
        lawFault(ten + "1<2 not 1<2", 24, 0);
        // 0 and 3: as the 61st what can't stand.
        String sixty = "hour 1" + "+1".repeat(59);
        lawFault(sixty + "+x", 125, 0);
        lawFault(sixty + "+;", 125, 0);
        lawFault(sixty + "+", 125, 0);
        lawFault(sixty + " if", 127, 0);
        lawFault(sixty + " if x", 128, 0);
        lawFault("hour 1" + "+1".repeat(58) + " if 1 x", 128, 0);
        lawFault("hour 1" + "+1".repeat(58) + " if 1", 127, 0);
        // 1 and 3: as the 61st a NUMBER of six digits.
        lawFault(sixty + "+123456", 125, 1);
        lawFault(sixty + "+12345", 125, 3);
        // 0 and 4: in place of a CLAUSE too many what can't stand.
        lawFault("hour 1;".repeat(12) + "hours 1", 84, 0);
        lawFault("hour 1;".repeat(12) + ";", 84, 0);
        lawFault("hour 1;".repeat(12), 84, 0);
        courtFault("road 1 1;".repeat(8) + "roads 1 1;man 1 1", 72, 0);
        courtFault("hours 1;hour 1;" + LEAST, 8, 0);
        // 2 and 3 do not meet: [ and not are neither VALUES nor FACTS.
        lawFault(sixty + " if " + "[".repeat(11), 138, 2);
    }

    /** "-2 - its FAULT (the TAPE is empty then, too), and all else stays" */
    private static void aFaultLeavesAllElse() {
        WarmerColder x = Courts.heard();
        x.only(3);
        x.strike(1, true);
        x.verdict(7);
        x.seed(5);
        x.image(2);
        x.answer(3, 1, 0, 1);
        String before = Due.state(x);
        Due.is("4 a FAULT at the end", Due.court(x, "hours 2;road 5 5;road 6 6;man 7 7;man 8 8;man"), Due.fault(45, 0));
        Due.same("4 all else stays", Due.state(x), before);
        Due.is("4 a FAULT at once", Due.court(x, "x"), Due.fault(0, 0));
        Due.same("4 all else stays, at once", Due.state(x), before);
        Due.is("4 without a MAN", Due.court(x, "hours 1;road 1 1"), Due.fault(16, 0));
        Due.same("4 all else stays, without a MAN", Due.state(x), before);
        Due.is("5 a FAULT of a LAW", Due.law(x, "hour 5;road 6;man 7;man"), Due.fault(23, 0));
        Due.same("5 all else stays", Due.state(x), before);
        Due.is("7 by the LAW that there was", x.far(0, 1, 0, 1), 25);
        Due.is("40 the IMAGE stays", x.back(2), 4);
        // And of what a COURT with a FAULT told, nothing is in the next one.
        x = new WarmerColder();
        Due.court(x, "hours 5;road 5 5;road 6 6;man 7 7;man 8 8;man");
        Due.is("4 none of it is left", Due.court(x, LEAST), 1);
        Due.is("6 ROAD 0 is the new one", x.thing(1, 0, 0), 1);
        Due.is("6 no ROAD 1", x.thing(1, 1, 0), NONE);
    }

    /** "-1000000000000 without these"; "apart without" */
    private static void farWithout() {
        WarmerColder x = new WarmerColder();
        Due.is("7 nothing told", x.far(0, 0, 0, 0), NO_FAR);
        Due.law(x, "hour 5");
        Due.is("7 no COURT", x.far(0, 0, 0, 0), NO_FAR);
        Due.court(x, LEAST);
        Due.is("7 the one HOUR", x.far(0, 0, 0, 0), 5);
        Due.is("7 no second HOUR, asked", x.far(0, 0, 1, 0), NO_FAR);
        Due.is("7 no second HOUR, seen", x.far(0, 0, 0, 1), NO_FAR);
        Due.is("7 ROADS by no CLAUSE", x.far(0, 1, 0, 0), 0);
        WarmerColder y = Courts.of(Courts.many(8, 1, 1), "hour 9 if asked=7 and seen=0;road 5");
        Due.is("7 a TEST that holds", y.far(0, 0, 7, 0), 9);
        Due.is("7 a TEST that doesn't: apart", y.far(0, 0, 0, 7), 7);
        Due.is("7 the same: apart 0", y.far(0, 0, 7, 7), 0);
    }
}
