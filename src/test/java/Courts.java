/** COURTS that the tests by hand have in common. */
final class Courts {
    /*
     * THE HOUSE: three HOURS; ROADS 0 (0, 0), 1 (3, 4), 2 (10, 0); MEN 0 (20, kin 1), 1 (30, 1),
     * 2 (50, 2). By its LAW 0, HOURS are FAR by what they are apart, ROADS 25 (0, 1), 100 (0, 2)
     * and 65 (1, 2), MEN 10 (0, 1), 30 (0, 2) and 20 (1, 2).
     */
    static final String HOUSE =
            "hours 3;road 0 0;road 3 4;road 10 0;man 20 1;man 30 1;man 50 2";
    static final String PLAIN = "road dx*dx+dy*dy;man dyears";

    /** By this LAW an ANSWER is FALSE just in the WORLDS that have the other one. */
    static final String SAME =
            "hour 0 if asked=seen;hour 1;road 0 if asked=seen;road 1;man 0 if asked=seen;man 1";
    /** By this LAW the greater number is nearer in every WORLD. */
    static final String GREATER = "hour 0-asked;road 0-asked;man 0-asked";

    private Courts() {
    }

    static WarmerColder of(String court, String... laws) {
        WarmerColder x = new WarmerColder();
        Due.court(x, court);
        for (String law : laws) {
            Due.is("law " + law, Due.law(x, law) >= 0, true);
        }
        return x;
    }

    static WarmerColder house() {
        return of(HOUSE, PLAIN);
    }

    /**
     * 0: HOUR 0 rather than 2, TRUE in HOURS 0 and 1. 1: ROAD 2 rather than 0, TRUE in 2 alone.
     * 2: MAN 0 rather than 2, TRUE in 0 and 1. 3: MAN 1 rather than 0, TRUE in 1 and 2.
     * So none is FALSE in WORLDS 7 and 16, (0, 2, 1) and (1, 2, 1).
     */
    static WarmerColder heard() {
        WarmerColder x = house();
        x.answer(0, 0, 0, 2);
        x.answer(1, 1, 2, 0);
        x.answer(2, 2, 0, 2);
        x.answer(0, 2, 1, 0);
        return x;
    }

    /** And 4: MAN 0 rather than 1, TRUE in 0 alone: it quarrels with 3. */
    static WarmerColder quarrelling() {
        WarmerColder x = heard();
        x.answer(1, 2, 0, 1);
        return x;
    }

    /** So many of each, all alike. */
    static String many(int hours, int roads, int men) {
        return "hours " + hours + ";road 1 1".repeat(roads) + ";man 1 1".repeat(men);
    }

    /** HOURS, ROADS and MEN on lines, one apart each. */
    static String lines(int hours, int roads, int men) {
        StringBuilder b = new StringBuilder("hours ").append(hours);
        for (int i = 0; i < roads; i++) {
            b.append(";road ").append(i).append(" 0");
        }
        for (int i = 0; i < men; i++) {
            b.append(";man ").append(i).append(" 0");
        }
        return b.toString();
    }
}
