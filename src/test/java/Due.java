/** What the tests have in common: answers held against what is due, and texts fed to an object. */
final class Due {
    private static int passed;
    private static int failed;

    private Due() {
    }

    static void is(String call, long got, long want) {
        if (got == want) {
            passed++;
        } else {
            failed++;
            System.out.println(call + " answered " + got + ", due is " + want);
        }
    }

    static void is(String call, boolean got, boolean want) {
        is(call, got ? 1 : 0, want ? 1 : 0);
    }

    static void same(String call, String got, String want) {
        is(call, got.equals(want), true);
        if (!got.equals(want)) {
            System.out.println("  is  " + got);
            System.out.println("  due " + want);
        }
    }

    /** All that an object can be asked for without a LAW, and of LAW 0 what tells of the rest. */
    static String state(WarmerColder x) {
        StringBuilder b = new StringBuilder("counts");
        for (int what = 0; what < 10; what++) {
            b.append(' ').append(x.count(what));
        }
        int first = x.only(WarmerColder.NONE);
        b.append(", first ").append(first).append(", things");
        x.only(first);
        for (int kind = 1; kind < 3; kind++) {
            for (int thing = 0; thing < x.count(kind); thing++) {
                b.append(' ').append(x.thing(kind, thing, 0)).append('/').append(x.thing(kind, thing, 1));
            }
        }
        b.append(", ANSWERS");
        for (int answer = 0; answer < x.count(4); answer++) {
            for (int what = 0; what < 5; what++) {
                b.append(what == 0 ? ' ' : '/').append(x.answers(answer, what));
            }
        }
        b.append(", VERDICTS");
        for (int verdict = 0; verdict < x.count(7); verdict++) {
            b.append(' ').append(x.old(0, 1, verdict, 0)).append('/').append(x.old(0, 1, verdict, 2));
        }
        return b.append(", KEPT ").append(x.kept(0, 0)).toString();
    }

    /** Tells how many passed; ends with 1 if one failed. */
    static void end(String of) {
        System.out.println(of + ": " + passed + " passed, " + failed + " failed");
        System.exit(failed == 0 ? 0 : 1);
    }

    /** The TAPE has just this text then (characters 0 to 255). */
    static void tape(WarmerColder x, String text) {
        x.end(0);
        for (int at = 0; at < text.length(); at += 20) {
            int[] n = new int[5];
            for (int i = 0; i < 20; i++) {
                n[i / 4] = n[i / 4] << 8 | (at + i < text.length() ? text.charAt(at + i) : 0);
            }
            x.feed(n[0], n[1], n[2], n[3], n[4]);
        }
        x.end(text.length());
    }

    static int court(WarmerColder x, String text) {
        tape(x, text);
        return x.court();
    }

    static int law(WarmerColder x, String text) {
        tape(x, text);
        return x.law();
    }

    /** What court() and law() answer to a FAULT. */
    static int fault(int place, int code) {
        return -2 - (1 + 8 * place + code);
    }
}
