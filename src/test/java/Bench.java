import java.util.NoSuchElementException;

/** What the tests share: telling a text, and counting the answers that are not as due. */
final class Bench {
    private static final int LED_THROWS = -1000;

    private String about = "";
    private int asked;
    private int wrong;

    /** What is asked from now on stands under this head. */
    void begin(String head) {
        about = head + ": ";
    }

    void due(String call, long got, long want) {
        asked++;
        if (got != want) {
            wrong++;
            System.out.println(about + call + " answered " + got + ", due is " + want);
        }
    }

    void due(String call, boolean got, boolean want) {
        due(call, got ? 1 : 0, want ? 1 : 0);
    }

    void refused(String call, RoofRegatta x, long got, long want, int why) {
        due(call, got, want);
        due(call + ", trouble()", x.trouble(), why);
    }

    void refused(String call, RoofRegatta x, boolean got, int why) {
        refused(call, x, got ? 1 : 0, 0, why);
    }

    void none(String call, RoofRegatta x, long got, int why) {
        refused(call, x, got, -1, why);
    }

    /** A call that was not refused: its answer, and no TROUBLE. */
    void granted(String call, RoofRegatta x, long got, long want) {
        refused(call, x, got, want, 0);
    }

    void granted(String call, RoofRegatta x, boolean got) {
        refused(call, x, got ? 1 : 0, 1, 0);
    }

    void ledThrows(RoofRegatta x, int i) {
        int got = LED_THROWS;
        try {
            got = x.led(i);
        } catch (NoSuchElementException none) {
            got = LED_THROWS;
        }
        due("led(" + i + ") throws (" + LED_THROWS + ")", got, LED_THROWS);
    }

    void faulty(int fault, int where, String text) {
        RoofRegatta x = new RoofRegatta();
        none("regatta of '" + text + "'", x, tell(x, text), 4);
        due("fault of '" + text + "'", x.fault(), fault);
        due("where of '" + text + "'", x.where(), where);
    }

    /** The FAULT is at the last token of the text. */
    void faultyLast(int fault, String before, String last) {
        faulty(fault, before.length(), before + last);
    }

    void good(int houses, String text) {
        RoofRegatta x = new RoofRegatta();
        granted("regatta of '" + text + "'", x, tell(x, text), houses);
        due("fault of '" + text + "'", x.fault(), 0);
        due("where of '" + text + "'", x.where(), -1);
    }

    /** Feeds a text, blanks behind it up to a whole feed(). */
    static void feed(RoofRegatta x, String text) {
        StringBuilder padded = new StringBuilder(text);
        while (padded.length() % 20 != 0) {
            padded.append(' ');
        }
        for (int at = 0; at < padded.length(); at += 20) {
            x.feed(four(padded, at), four(padded, at + 4), four(padded, at + 8),
                four(padded, at + 12), four(padded, at + 16));
        }
    }

    private static int four(CharSequence text, int at) {
        return text.charAt(at) << 24 | text.charAt(at + 1) << 16 | text.charAt(at + 2) << 8 | text.charAt(at + 3);
    }

    static int tell(RoofRegatta x, String text) {
        feed(x, text);
        return x.regatta(text.length());
    }

    static RoofRegatta told(String text) {
        RoofRegatta x = new RoofRegatta();
        if (tell(x, text) < 0) {
            throw new IllegalStateException("fault " + x.fault() + " at " + x.where() + " of " + text);
        }
        return x;
    }

    void end() {
        System.out.println(asked + " answers, " + wrong + " not as due");
        if (wrong != 0 || asked == 0) {
            System.exit(1);
        }
    }
}
