/** Counts and prints the answers that are not the ones that are due. */
final class Due {
    private static int wrong = 0;
    private static volatile String test = "";

    private Due() {
    }

    /** What is printed from now on is of the test that is so named. */
    static void names(String name) {
        test = name.isEmpty() ? "" : name + ": ";
    }

    static String named() {
        return test;
    }

    static void is(String call, int got, int want) {
        if (got != want) {
            wrong++;
            System.out.println(test + call + " answered " + got + ", due is " + want);
        }
    }

    static void holds(String what, boolean it) {
        if (!it) {
            wrong++;
            System.out.println(test + "does not hold: " + what);
        }
    }

    /** Ends a test: exit code 1, if an answer was not as due. */
    static void end(String test) {
        System.out.println(test + ": " + (wrong == 0 ? "all as due" : wrong + " not as due"));
        if (wrong != 0) {
            System.exit(1);
        }
    }

    /** Feeds a text, byte by byte, to the tape of an object and cuts the rest off. */
    static void feedText(ThirstLead x, String text) {
        int before = x.count(8);
        int[] n = new int[3];
        int times = (text.length() + 11) / 12;
        for (int k = 0; k < times; k++) {
            for (int i = 0; i < 3; i++) {
                n[i] = 0;
                for (int j = 0; j < 4; j++) {
                    int at = 12 * k + 4 * i + j;
                    n[i] = n[i] << 8 | (at < text.length() ? text.charAt(at) & 255 : ' ');
                }
            }
            x.feed(n[0], n[1], n[2]);
        }
        x.trim(before + text.length());
    }

    /** What text() answers with just this on the tape. */
    static int textOf(ThirstLead x, String text) {
        x.trim(0);
        feedText(x, text);
        return x.text();
    }
}
