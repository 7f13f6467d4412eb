/** What the tests share: telling a text, and counting the answers that are not as due. */
final class Bench {
    private int asked;
    private int wrong;

    void due(String call, long got, long want) {
        asked++;
        if (got != want) {
            wrong++;
            System.out.println(call + " answered " + got + ", due is " + want);
        }
    }

    void due(String call, boolean got, boolean want) {
        due(call, got ? 1 : 0, want ? 1 : 0);
    }

    void refused(String call, RoofRegatta x, long got, long want, int why) {
        due(call, got, want);
        due(call + ", trouble()", x.trouble(), why);
    }

    void refused(String call, RoofRegatta x, boolean got, int why) {
        refused(call, x, got ? 1 : 0, 0, why);
    }

    void none(String call, RoofRegatta x, long got, int why) {
        refused(call, x, got, -1, why);
    }

    /** Feeds a text, blanks behind it up to a whole feed(). */
    static void feed(RoofRegatta x, String text) {
        StringBuilder padded = new StringBuilder(text);
        while (padded.length() % 20 != 0) {
            padded.append(' ');
        }
        for (int at = 0; at < padded.length(); at += 20) {
            x.feed(four(padded, at), four(padded, at + 4), four(padded, at + 8),
                four(padded, at + 12), four(padded, at + 16));
        }
    }

    private static int four(CharSequence text, int at) {
        return text.charAt(at) << 24 | text.charAt(at + 1) << 16 | text.charAt(at + 2) << 8 | text.charAt(at + 3);
    }

    static int tell(RoofRegatta x, String text) {
        feed(x, text);
        return x.regatta(text.length());
    }

    static RoofRegatta told(String text) {
        RoofRegatta x = new RoofRegatta();
        if (tell(x, text) < 0) {
            throw new IllegalStateException("fault " + x.fault() + " at " + x.where() + " of " + text);
        }
        return x;
    }

    void end() {
        System.out.println(asked + " answers, " + wrong + " not as due");
        if (wrong != 0 || asked == 0) {
            System.exit(1);
        }
    }
}
