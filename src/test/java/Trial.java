import java.nio.charset.StandardCharsets;

/** What the tests by hand have in common: a herd to try, ways to bring rows and laws to it, and answers that are due. */
abstract class Trial {
    private static int wrong;

    protected BellHerd x = new BellHerd();
    /** Of what the document says the next answers are. */
    protected String about = "";

    protected final void due(String call, int got, int want) {
        if (got != want) {
            wrong++;
            System.out.println(about + ": " + call + " answered " + got + ", due is " + want);
        }
    }

    /** The end of a test: exit code 1, if an answer was not the one that is due. */
    protected static void end(String fine) {
        System.out.println(wrong == 0 ? fine : wrong + " answers are not as due");
        if (wrong != 0) {
            System.exit(1);
        }
    }

    /** The TAPE has these bytes alone then. */
    protected final void tape(byte[] bytes) {
        x.end(0);
        for (int from = 0; from < bytes.length; from += 20) {
            int[] five = new int[5];
            for (int i = 0; i < 20 && from + i < bytes.length; i++) {
                five[i / 4] |= (bytes[from + i] & 255) << 24 - i % 4 * 8;
            }
            x.feed(five[0], five[1], five[2], five[3], five[4]);
        }
        due("end(" + bytes.length + ")", x.end(bytes.length), bytes.length);
    }

    protected final void tape(String text) {
        tape(text.getBytes(StandardCharsets.ISO_8859_1));
    }

    protected final int row(int what, int of, int... bytes) {
        byte[] row = new byte[bytes.length];
        for (int i = 0; i < bytes.length; i++) {
            row[i] = (byte) bytes[i];
        }
        tape(row);
        return x.row(what, of);
    }

    protected final int law(String text) {
        tape(text);
        return x.law();
    }

    /** A LAW that can be, in FORCE in a herd that has room for it. */
    protected final void rule(String text) {
        int number = law(text);
        due("law() of " + text + ", fault " + x.fault(), number < 0 ? number : 0, 0);
        x.force(number);
    }

    protected final void faultOf(String text, int place) {
        x = new BellHerd();
        due("law() of " + text, law(text), place == -1 ? 0 : -6);
        due("fault() of " + text, x.fault(), place);
        due("count(6)", x.count(6), 0);
        due("count(1)", x.count(1), place == -1 ? 1 : 0);
    }

    protected static String times(String text, int n) {
        return text.repeat(n);
    }

    /** So many COWS with NOTES 5, 6 .. , PACE 1, and no WAY. */
    protected final void cows(int n) {
        x = new BellHerd();
        for (int i = 0; i < n; i++) {
            due("cow()", x.cow(5 + i, 1, 0, 10 + i), i);
        }
    }
}
