/** Promises 2 to 5: THE TAPE, the text of a REGATTA, its FAULTS and their places. */
public final class TextTest {
    private static final String HEAD = "regatta water 1 bridge 1 storey 0 rain 0 by 0;";
    private static final String BEND = "bend k long 1 left;";
    private static final String HOUSE_A = "house a pub left tiles 0 storeys 1;";
    private static final String HOUSE_B = "house b pub left tiles 0 storeys 2;";
    private static final String LODGERS = "lodger x weighs 0 rows 0;lodger y weighs 0 rows 0;";
    private static final String ALL = HEAD + BEND + HOUSE_A + HOUSE_B + LODGERS;

    private static final Bench BENCH = new Bench();

    private static void faulty(int fault, int where, String text) {
        BENCH.faulty(fault, where, text);
    }

    private static void faultyLast(int fault, String before, String last) {
        BENCH.faultyLast(fault, before, last);
    }

    private static void good(int houses, String text) {
        BENCH.good(houses, text);
    }

    public static void main(String[] args) {
        tape();
        numbersOfBytes();
        form();
        names();
        again();
        bounds();
        many();
        lacks();
        crowded();
        firstFromTheLeft();
        whatStays();
        BENCH.end();
    }

    private static void tape() {
        RoofRegatta x = new RoofRegatta();
        for (int i = 1; i <= 45; i++) {
            BENCH.due("feed " + i, x.feed(0, 0, 0, 0, 0), 20 * i);
        }
        BENCH.due("feed beyond 900", x.feed(0, 0, 0, 0, 0), -1);
        BENCH.due("size(13)", x.size(13), 900);
        BENCH.due("feed leaves trouble alone", x.trouble(), 0);
        BENCH.none("regatta(901)", x, x.regatta(901), 2);
        BENCH.due("feed does not touch trouble", x.feed(0, 0, 0, 0, 0), -1);
        BENCH.due("trouble()", x.trouble(), 2);
        BENCH.none("regatta(900) of zeros", x, x.regatta(900), 4);
        BENCH.due("where()", x.where(), 0);
        BENCH.due("size(13) behind regatta", x.size(13), 0);
    }

    private static void numbersOfBytes() {
        RoofRegatta x = new RoofRegatta();
        BENCH.none("regatta(0) of an empty tape", x, x.regatta(0), 4);
        BENCH.due("fault()", x.fault(), 1);
        BENCH.due("where()", x.where(), 0);
        Bench.feed(x, HEAD + HOUSE_A);
        BENCH.none("regatta(-1)", x, x.regatta(-1), 2);
        BENCH.due("fault() of the one before", x.fault(), 1);
        BENCH.due("where() by 2", x.where(), -1);
        BENCH.due("tape stays", x.size(13), 100);
        BENCH.none("regatta(101)", x, x.regatta(101), 2);
        BENCH.due("regatta of the first bytes", x.regatta((HEAD + HOUSE_A).length() - 1), 1);
        BENCH.due("fault() now", x.fault(), 0);
        BENCH.due("tape is empty", x.size(13), 0);
        // a byte above 127 begins no TOKEN, and the highest byte of a number comes first
        x.feed(0x72656761, 0x747461ff, 0, 0, 0);
        BENCH.none("regatta(20)", x, x.regatta(20), 4);
        BENCH.due("fault()", x.fault(), 1);
        BENCH.due("where()", x.where(), 7);
        BENCH.due("the regatta stays", x.size(6), 1);
    }

    private static void form() {
        faulty(1, 4, "    ");
        faultyLast(1, "", "ship");
        faultyLast(1, "", ";");
        faultyLast(1, "", "7");
        faultyLast(1, "", "regattas");
        faultyLast(1, "", "regattaaa");
        faultyLast(1, "", "megatta");
        faultyLast(1, HEAD, "raw");
        faultyLast(1, HEAD, "sawn");
        faultyLast(1, "", "Regatta");
        faultyLast(1, "regatta ", "bridge");
        faultyLast(1, "regatta water", "");
        faultyLast(1, "regatta water ", "1000");
        faultyLast(1, "regatta water ", "0001");
        faultyLast(1, "regatta water ", "w");
        faultyLast(1, "regatta water 1 bridge 1 storey 0 rain 0 by ", "00000");
        faultyLast(1, "regatta water 1 bridge 1 storey 0 rain 0 by 0 ", "0");
        faultyLast(1, HEAD, "");
        faultyLast(1, HEAD + "  ", "");
        faultyLast(1, HEAD, ";");
        faultyLast(1, HEAD + "bend ", "bend");
        faultyLast(1, HEAD + "bend ", "abcdefghi");
        faultyLast(1, HEAD + "bend ", "7");
        faultyLast(1, HEAD + "bend k ", "short");
        faultyLast(1, HEAD + "bend k long 1 ", "up");
        faultyLast(1, HEAD + "bend k long 1 left ", "left");
        faultyLast(1, HEAD + "bend k", "-");
        faultyLast(1, HEAD + "house a ", "hut");
        faultyLast(1, HEAD + "house a pub ", "tiles");
        faultyLast(1, HEAD + "house a pub left ", "storeys");
        faultyLast(1, HEAD + "house a pub left tiles 0 ", "storey");
        faultyLast(1, ALL + "lodger z ", "rows");
        faultyLast(1, ALL + "lodger z weighs 0 ", "weighs");
        faultyLast(1, ALL + "aboard ", "aboard");
        faultyLast(1, ALL + "aboard x ", ";");
        faultyLast(1, ALL + "friend ", "friend");
        faultyLast(1, ALL + "friend x ", "1");
        faultyLast(1, ALL + "prize ", "x");
        faultyLast(1, ALL + "saw ", "saw");
        faultyLast(1, ALL + "saw a ", "prize");
        faultyLast(1, ALL + "saw a b ", "bend");
        faultyLast(1, ALL + "saw a b k ", "k");
        good(2, ALL + "saw  a  b  k  ;  prize 1");
        good(1, "regatta water1bridge1storey0rain0by0;house a pub left tiles0storeys1");
        good(1, "  regatta water 020 bridge 006 storey 030 rain 100 by 009 ; house abcdefgh pub left tiles 50 storeys 6  ");
        // the small words of LINES are NAMES as good as others
        good(1, HEAD + "bend left long 30 right;house water cottage left tiles 0 storeys 1");
    }

    private static void names() {
        faultyLast(2, ALL + "aboard ", "z");
        faultyLast(2, ALL + "aboard ", "a");
        faultyLast(2, ALL + "aboard x ", "y");
        faultyLast(2, ALL + "aboard x ", "c");
        faultyLast(2, ALL + "friend ", "k");
        faultyLast(2, ALL + "friend x ", "a");
        faultyLast(2, ALL + "friend x ", "z");
        faultyLast(2, ALL + "saw ", "x");
        faultyLast(2, ALL + "saw a ", "k");
        faultyLast(2, ALL + "saw a b ", "b");
        faultyLast(2, ALL + "saw a b ", "ka");
    }

    private static void again() {
        faultyLast(3, HEAD, "regatta");
        faultyLast(3, ALL + "bend ", "k");
        faultyLast(3, ALL + "bend ", "a");
        faultyLast(3, ALL + "house ", "x");
        faultyLast(3, ALL + "lodger ", "b");
        faultyLast(3, ALL + "aboard x a;aboard ", "x");
        faultyLast(3, ALL + "friend x ", "x");
        faultyLast(3, ALL + "friend x y;friend x ", "y");
        faultyLast(3, ALL + "friend x y;friend y ", "x");
        faultyLast(3, ALL + "saw a ", "a");
        good(2, ALL + "saw a b k;saw a b k;saw b a k");
    }

    private static void bound(String before, int least, int most, String behind) {
        if (least > 0) {
            faultyLast(4, before, Integer.toString(least - 1));
        }
        faultyLast(4, before, Integer.toString(most + 1));
        faulty(4, before.length(), before + "999" + behind);
        RoofRegatta x = new RoofRegatta();
        BENCH.due("least of " + before, Bench.tell(x, before + least + behind) > 0, true);
        BENCH.due("most of " + before, Bench.tell(x, before + most + behind) > 0, true);
    }

    private static void bounds() {
        String house = ";" + HOUSE_A.substring(0, HOUSE_A.length() - 1);
        bound("regatta water ", 1, 20, " bridge 1 storey 0 rain 0 by 0" + house);
        bound("regatta water 1 bridge ", 1, 6, " storey 0 rain 0 by 0" + house);
        bound("regatta water 1 bridge 1 storey ", 0, 30, " rain 0 by 0" + house);
        bound("regatta water 1 bridge 1 storey 0 rain ", 0, 100, " by 0" + house);
        bound("regatta water 1 bridge 1 storey 0 rain 0 by ", 0, 9, house);
        bound(HEAD + "bend k long ", 1, 30, " right" + house);
        bound(HEAD + "house q villa left tiles ", 0, 50, " storeys 1");
        bound(HEAD + "house q villa left tiles 1 storeys ", 1, 6, "");
        bound(ALL + "lodger z weighs ", 0, 30, " rows 1");
        bound(ALL + "lodger z weighs 1 rows ", 0, 9, "");
        bound(ALL + "prize ", 0, 99, "");
    }

    private static String lines(int count, String before, String behind) {
        StringBuilder text = new StringBuilder();
        for (int i = 0; i < count; i++) {
            text.append(before).append((char) ('e' + i)).append(behind).append(';');
        }
        return text.toString();
    }

    private static void many() {
        String house = HEAD + HOUSE_A;
        faulty(5, (house + lines(4, "bend ", " long 1 left")).length(), house + lines(5, "bend ", " long 1 left"));
        good(1, house + lines(3, "bend ", " long 1 left") + "bend z long 1 left");
        faultyLast(5, HEAD + lines(4, "house ", " pub left tiles 0 storeys 1"), "house");
        good(4, HEAD + lines(3, "house ", " pub left tiles 0 storeys 1") + "house z pub left tiles 0 storeys 1");
        String five = house + lines(5, "lodger ", " weighs 0 rows 0");
        faultyLast(5, five, "lodger");
        String six = five + "friend e f;friend e g;friend e h;friend e i;friend f g;friend f h;";
        faultyLast(5, six, "friend");
        faultyLast(5, house + "prize 0;prize 0;prize 0;prize 0;", "prize");
        good(1, house + "prize 0;prize 0;prize 0;prize 0");
        String saw = ALL + "saw a b k;saw a b k;saw a b k;saw a b k;saw a b k";
        good(2, saw);
        faultyLast(5, saw + ";", "saw");
        // of who is aboard there is no number of LINES: a sixth LINE has a lodger who is aboard already
        String roomy = HEAD + "house a pub left tiles 0 storeys 6;" + lines(5, "lodger ", " weighs 0 rows 0")
            + "aboard e a;aboard f a;aboard g a;aboard h a;aboard i a;";
        faultyLast(3, roomy + "aboard ", "e");
    }

    private static void lacks() {
        for (String word : new String[] {"bend", "house", "lodger", "aboard", "friend", "prize", "saw"}) {
            faultyLast(6, " ", word);
        }
        faultyLast(6, HEAD.substring(0, HEAD.length() - 1), "");
        faultyLast(6, HEAD + "prize 1  ", "");
        faulty(6, 0, "bend k long 31 up");
    }

    private static void crowded() {
        faultyLast(7, ALL + "aboard x a;aboard y ", "a");
        good(2, ALL + "aboard x b;aboard y b");
    }

    private static void firstFromTheLeft() {
        faulty(4, 14, "regatta water 0 bridge 7 !");
        faulty(3, (ALL + "house ").length(), ALL + "house x hut");
        faulty(2, (ALL + "aboard ").length(), ALL + "aboard z z");
        faulty(1, (ALL + "aboard ").length(), ALL + "aboard ! z");
    }

    private static void whatStays() {
        RoofRegatta x = Bench.told(ALL + "aboard x b");
        x.light(1, true);
        x.image();
        BENCH.none("a faulty regatta", x, Bench.tell(x, ALL + "saw"), 4);
        BENCH.due("houses stay", x.size(6), 2);
        BENCH.due("acts stay", x.size(11), 1);
        BENCH.due("images stay", x.size(12), 1);
        BENCH.due("lit stays", x.house(1, 7), 1);
        BENCH.due("where() behind a call that was not refused", x.where(), -1);
        BENCH.due("fault() stays", x.fault(), 1);
        BENCH.due("a new one", Bench.tell(x, HEAD + HOUSE_A.substring(0, HOUSE_A.length() - 1)), 1);
        BENCH.due("nothing lit", x.house(0, 7), 0);
        BENCH.due("no bends", x.size(5), 0);
        BENCH.due("no lodgers", x.size(7), 0);
        BENCH.due("nothing to undo", x.size(11), 0);
        BENCH.due("no images", x.size(12), 0);
        BENCH.due("fault() of a good one", x.fault(), 0);
    }
}
