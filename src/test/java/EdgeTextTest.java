import java.lang.reflect.InvocationTargetException;
import java.lang.reflect.Method;
import java.lang.reflect.Modifier;
import java.util.List;

/** Promises 1 to 5, and what the document says of THE TAPE and the text: each boundary in a case of its own. */
public final class EdgeTextTest {
    private static final String HEAD = "regatta water 1 bridge 1 storey 0 rain 0 by 0;";
    private static final String BEND = "bend k long 1 left;";
    private static final String HOUSE = "house a pub left tiles 0 storeys 1";
    private static final String ONE = HEAD + HOUSE;
    private static final String ALL = HEAD + BEND + HOUSE + ";house b pub left tiles 0 storeys 2;"
        + "lodger x weighs 0 rows 0;lodger y weighs 0 rows 0;";
    private static final String[] LINE_WORDS = {"regatta", "bend", "house", "lodger", "aboard", "friend", "prize", "saw"};
    private static final List<String> NEVER_REFUSED = List.of("feed", "fault", "where", "led", "size", "trouble");

    private static final Bench BENCH = new Bench();

    public static void main(String[] args) throws IllegalAccessException {
        Cases.run(EdgeTextTest.class, BENCH, 1, 5);
    }

    private static void due(String call, long got, long want) {
        BENCH.due(call, got, want);
    }

    private static String blanks(int count) {
        return " ".repeat(count);
    }

    // ---- ahead of all

    private static void h_the512thCallIsAnsweredLikeTheFirst() {
        RoofRegatta x = new RoofRegatta();
        Bench.feed(x, ONE + blanks(100 - ONE.length()));
        x.regatta(100);
        for (int call = 7; call <= 511; call++) {
            x.cross(0);
        }
        due("call 512", x.house(0, 3), 1);
    }

    // ---- TERMS I: TOKENS

    private static void t1_blanksPartTokensAndMeanNothingElse() {
        BENCH.good(1, ONE.replace(" ", "   ").replace(";", "  ;  "));
        BENCH.good(1, blanks(20) + ONE + blanks(20));
    }

    private static void t1_noBlankIsNeededBesideASemicolonOrBetweenLettersAndDigits() {
        BENCH.good(1, "regatta water1bridge1storey0rain0by0;house a pub left tiles0storeys1");
    }

    private static void t1_aBlankWithinAWordPartsIt() {
        BENCH.faulty(1, 0, "re gatta water 1");
        BENCH.faulty(1, "regatta water 1 ".length(), "regatta water 1 0 bridge 1");
    }

    private static void t1_otherBytesBeginNoToken() {
        for (int sign : new int[] {0, 9, 10, 13, 31, 33, 44, 46, 47, 58, 60, 64, 65, 90, 91, 95, 96, 123, 127, 128, 160, 255}) {
            BENCH.faultyLast(1, "", "" + (char) sign);
            BENCH.faultyLast(1, "regatta water ", "" + (char) sign);
            BENCH.faultyLast(1, "regatta water 1", "" + (char) sign);
            BENCH.faultyLast(1, ONE, "" + (char) sign);
        }
    }

    private static void t1_lettersAtoZAndDigits0to9() {
        BENCH.good(2, HEAD + "house az pub left tiles 09 storeys 1;house za pub left tiles 0 storeys 1");
    }

    private static void t1_aWordOf1Letter() {
        BENCH.good(1, HEAD + "house a pub left tiles 0 storeys 1");
    }

    private static void t1_aWordOf8Letters() {
        BENCH.good(1, HEAD + "house abcdefgh pub left tiles 0 storeys 1");
    }

    private static void t1_ofMoreLettersTheFirst() {
        BENCH.faultyLast(1, HEAD + "house ", "abcdefghi");
        BENCH.faultyLast(1, HEAD + "house ", "abcdefghijklmnopqrstuvwxyz");
        BENCH.faultyLast(1, "", "regattareg");
        BENCH.faultyLast(1, "regatta ", "waterwater");
    }

    private static void t1_namesAreAllTheirLetters() {
        BENCH.good(2, HEAD + "house abcdefgh pub left tiles 0 storeys 1;house abcdefgi pub left tiles 0 storeys 1");
        BENCH.good(2, HEAD + "house ab pub left tiles 0 storeys 1;house a pub left tiles 0 storeys 1");
        BENCH.good(2, HEAD + "house a pub left tiles 0 storeys 1;house ab pub left tiles 0 storeys 1");
        BENCH.faultyLast(3, HEAD + "house abcdefgh pub left tiles 0 storeys 1;house ", "abcdefgh");
    }

    private static void t1_aWholeOf1Digit() {
        BENCH.good(1, HEAD + "house a pub left tiles 0 storeys 6");
    }

    private static void t1_aWholeOf3Digits() {
        BENCH.good(1, "regatta water 020 bridge 006 storey 030 rain 100 by 009;house a pub left tiles 050 storeys 001");
        BENCH.good(1, "regatta water 001 bridge 001 storey 000 rain 000 by 000;house a pub left tiles 000 storeys 001");
    }

    private static void t1_ofMoreDigitsTheFirst() {
        BENCH.faultyLast(1, "regatta water ", "0001");
        BENCH.faultyLast(1, "regatta water ", "1000");
        BENCH.faultyLast(1, "regatta water ", "99999999999999999999");
        BENCH.faultyLast(1, ALL + "prize ", "0000");
    }

    private static void t1_theTapeIsReadUpToItsLastByte() {
        String text = ONE.substring(0, ONE.length() - 1);
        RoofRegatta x = new RoofRegatta();
        Bench.feed(x, text + blanks(899 - text.length()) + "6");
        BENCH.granted("regatta(900)", x, x.regatta(900), 1);
        due("storeys", x.house(0, 2), 6);
        Bench.feed(x, blanks(880) + blanks(19) + "b");
        BENCH.none("regatta(900)", x, x.regatta(900), 4);
        due("where() the last byte", x.where(), 899);
        Bench.feed(x, blanks(900));
        BENCH.none("regatta(900) of blanks", x, x.regatta(900), 4);
        due("where() the end of a full tape", x.where(), 900);
    }

    // ---- TERMS I: LINES, each WHOLE at its least and most, below and above

    private static void bounds(String before, int least, int most, String behind) {
        if (least > 0) {
            BENCH.faultyLast(4, before, "" + (least - 1));
            BENCH.faulty(4, before.length(), before + "000" + behind);
        }
        BENCH.faultyLast(4, before, "" + (most + 1));
        BENCH.faulty(4, before.length(), before + "999" + behind);
        BENCH.good(1, before + least + behind);
        BENCH.good(1, before + most + behind);
    }

    private static void t1_water1to20() {
        bounds("regatta water ", 1, 20, " bridge 1 storey 0 rain 0 by 0;" + HOUSE);
    }

    private static void t1_bridge1to6() {
        bounds("regatta water 1 bridge ", 1, 6, " storey 0 rain 0 by 0;" + HOUSE);
    }

    private static void t1_storey0to30() {
        bounds("regatta water 1 bridge 1 storey ", 0, 30, " rain 0 by 0;" + HOUSE);
    }

    private static void t1_rain0to100() {
        bounds("regatta water 1 bridge 1 storey 0 rain ", 0, 100, " by 0;" + HOUSE);
    }

    private static void t1_by0to9() {
        bounds("regatta water 1 bridge 1 storey 0 rain 0 by ", 0, 9, ";" + HOUSE);
    }

    private static void t1_long1to30() {
        bounds(ONE + ";bend k long ", 1, 30, " right");
    }

    private static void t1_tiles0to50() {
        bounds(HEAD + "house a villa right tiles ", 0, 50, " storeys 1");
    }

    private static void t1_storeys1to6() {
        bounds(HEAD + "house a terrace right tiles 0 storeys ", 1, 6, "");
    }

    private static void t1_weighs0to30() {
        bounds(ONE + ";lodger x weighs ", 0, 30, " rows 0");
    }

    private static void t1_rows0to9() {
        bounds(ONE + ";lodger x weighs 0 rows ", 0, 9, "");
    }

    private static void t1_prize0to99() {
        bounds(ONE + ";prize ", 0, 99, "");
    }

    // ---- TERMS I: up to so many LINES of a sort

    private static void upTo(int most, String before, String[] lines) {
        StringBuilder text = new StringBuilder(before);
        for (int i = 0; i < most; i++) {
            text.append(';').append(lines[i]);
        }
        RoofRegatta x = new RoofRegatta();
        BENCH.due("as many as there is room for", Bench.tell(x, text.toString()) > 0, true);
        text.append(';');
        BENCH.faulty(5, text.length(), text + lines[most]);
        BENCH.faulty(5, text.length(), text + lines[most].split(" ")[0] + " ! wrong");
    }

    private static String[] named(String before, String behind) {
        String[] lines = new String[6];
        for (int i = 0; i < lines.length; i++) {
            lines[i] = before + (char) ('e' + i) + behind;
        }
        return lines;
    }

    private static void t1_upTo4Bends() {
        upTo(4, ONE, named("bend ", " long 1 left"));
    }

    private static void t1_upTo4Houses() {
        upTo(4, HEAD.substring(0, HEAD.length() - 1), named("house ", " pub left tiles 0 storeys 1"));
    }

    private static void t1_upTo5Lodgers() {
        upTo(5, ONE, named("lodger ", " weighs 0 rows 0"));
    }

    private static void t1_upTo6Friends() {
        String five = ONE + ";" + String.join(";", named("lodger ", " weighs 0 rows 0")).replaceAll(";lodger j.*", "");
        upTo(6, five, new String[] {"friend e f", "friend g e", "friend e h", "friend i e", "friend f g", "friend h f",
            "friend g h"});
    }

    private static void t1_upTo4Prizes() {
        upTo(4, ONE, new String[] {"prize 9", "prize 0", "prize 0", "prize 99", "prize 1"});
    }

    private static void t1_upTo5Seen() {
        upTo(5, ALL.substring(0, ALL.length() - 1), new String[] {"saw a b k", "saw a b k", "saw b a k", "saw b a k",
            "saw a b k", "saw a b k"});
    }

    private static void t1_noneOfTheOthersIsNeeded() {
        BENCH.good(1, ONE);
    }

    private static void t1_linesComeInWhateverOrderBehindTheRegatta() {
        BENCH.good(1, HEAD + "prize 1;lodger x weighs 0 rows 0;" + HOUSE + ";aboard x a;prize 2;" + BEND + "prize 3");
    }

    // ---- TERMS I: NAMES

    private static void t1_wordsOfLinesAreNoNames() {
        for (String word : LINE_WORDS) {
            BENCH.faultyLast(1, HEAD + "bend ", word);
            BENCH.faultyLast(1, HEAD + "house ", word);
            BENCH.faultyLast(1, HEAD + "lodger ", word);
            BENCH.faultyLast(1, ALL + "aboard ", word);
            BENCH.faultyLast(1, ALL + "aboard x ", word);
            BENCH.faultyLast(1, ALL + "friend ", word);
            BENCH.faultyLast(1, ALL + "friend x ", word);
            BENCH.faultyLast(1, ALL + "saw ", word);
            BENCH.faultyLast(1, ALL + "saw a ", word);
            BENCH.faultyLast(1, ALL + "saw a b ", word);
        }
    }

    private static void t1_otherWordsOfTheTextAreNames() {
        for (String word : new String[] {"water", "bridge", "storey", "rain", "by", "long", "left", "right", "cottage",
            "terrace", "villa", "pub", "tiles", "storeys", "weighs", "rows"}) {
            BENCH.good(1, HEAD + "house " + word + " pub left tiles 0 storeys 1");
            BENCH.good(1, ONE + ";bend " + word + " long 1 left");
            BENCH.good(1, ONE + ";lodger " + word + " weighs 0 rows 0;aboard " + word + " a");
        }
    }

    private static void t1_aNameIsToldOnceAmongAllSorts() {
        for (String name : new String[] {"k", "a", "x"}) {
            BENCH.faultyLast(3, ALL + "bend ", name);
            BENCH.faultyLast(3, ALL + "house ", name);
            BENCH.faultyLast(3, ALL + "lodger ", name);
        }
    }

    private static void t1_aNameIsToldAheadOfItsUse() {
        String late = ";lodger z weighs 0 rows 0;house c pub left tiles 0 storeys 1;bend m long 1 left";
        String all = ALL.substring(0, ALL.length() - 1);
        BENCH.faulty(2, (ALL + "aboard ").length(), ALL + "aboard z a" + late);
        BENCH.faulty(2, (ALL + "aboard x ").length(), ALL + "aboard x c" + late);
        BENCH.faulty(2, (ALL + "friend ").length(), ALL + "friend z x" + late);
        BENCH.faulty(2, (ALL + "friend x ").length(), ALL + "friend x z" + late);
        BENCH.faulty(2, (ALL + "saw ").length(), ALL + "saw c a k" + late);
        BENCH.faulty(2, (ALL + "saw a ").length(), ALL + "saw a c k" + late);
        BENCH.faulty(2, (ALL + "saw a b ").length(), ALL + "saw a b m" + late);
        BENCH.good(3, all + late + ";aboard z c;friend z x;saw c a m");
    }

    private static void t1_aNameOfAnotherSort() {
        for (String lodger : new String[] {"a", "k"}) {
            BENCH.faultyLast(2, ALL + "aboard ", lodger);
            BENCH.faultyLast(2, ALL + "friend ", lodger);
            BENCH.faultyLast(2, ALL + "friend x ", lodger);
        }
        for (String house : new String[] {"x", "k"}) {
            BENCH.faultyLast(2, ALL + "aboard x ", house);
            BENCH.faultyLast(2, ALL + "saw ", house);
            BENCH.faultyLast(2, ALL + "saw a ", house);
        }
        for (String bend : new String[] {"a", "x"}) {
            BENCH.faultyLast(2, ALL + "saw a b ", bend);
        }
    }

    // ---- TERMS I: FAULTS

    private static void t1_form_aTokenWithWhichNoRegattaGoesOn() {
        String[] tokens = ("regatta water 1 bridge 1 storey 0 rain 0 by 0 ; bend k long 1 left ; house a pub right tiles 0 "
            + "storeys 1 ; house b villa left tiles 0 storeys 1 ; lodger x weighs 0 rows 0 ; lodger y weighs 0 rows 0 ; "
            + "aboard x a ; friend x y ; prize 0 ; saw a b k").split(" ");
        StringBuilder before = new StringBuilder();
        for (String token : tokens) {
            if (!token.equals(";")) {
                BENCH.faultyLast(1, before.toString(), ";");
            } else {
                BENCH.faultyLast(1, before.toString(), "left");
            }
            BENCH.faultyLast(1, before.toString(), token.matches("\\d+") ? "x" : "7");
            before.append(token).append(' ');
        }
        BENCH.good(2, before.toString());
    }

    private static void t1_form_theEndWithinALine() {
        endsWithin("", "regatta water 1 bridge 1 storey 0 rain 0 by 0");
        endsWithin(HEAD, "bend k long 1 left");
        endsWithin(HEAD, "house a pub right tiles 0 storeys 1");
        endsWithin(HEAD, "lodger x weighs 0 rows 0");
        endsWithin(ALL, "aboard x a");
        endsWithin(ALL, "friend x y");
        endsWithin(ALL, "prize 0");
        endsWithin(ALL, "saw a b k");
    }

    private static void endsWithin(String ahead, String line) {
        String[] tokens = line.split(" ");
        StringBuilder text = new StringBuilder(ahead);
        for (int i = 0; i + 1 < tokens.length; i++) {
            text.append(tokens[i]);
            BENCH.faultyLast(1, text.toString(), "");
            text.append(' ');
            BENCH.faultyLast(1, text.toString(), "");
        }
    }

    private static void t1_form_theEndBehindASemicolon() {
        BENCH.faultyLast(1, ONE + ";", "");
        BENCH.faultyLast(1, ONE + " ;   ", "");
        BENCH.faultyLast(1, HEAD, "");
    }

    private static void t1_form_theEndOfAnEmptyText() {
        BENCH.faultyLast(1, "", "");
        BENCH.faultyLast(1, " ", "");
    }

    private static void t1_form_anEmptyLine() {
        BENCH.faultyLast(1, "", ";");
        BENCH.faulty(1, HEAD.length(), HEAD + ";" + HOUSE);
    }

    private static void t1_form_whatBeginsNoLine() {
        for (String token : new String[] {"water", "ship", "a", "0", "regattas", "bends", "hous", "saws"}) {
            BENCH.faultyLast(1, "", token);
            BENCH.faultyLast(1, ALL, token);
        }
    }

    private static void t1_form_aWordOneLetterOff() {
        for (String word : LINE_WORDS) {
            BENCH.faultyLast(1, ALL, "z" + word.substring(1));
            BENCH.faultyLast(1, ALL, word.substring(0, word.length() - 1) + "z");
            BENCH.faultyLast(1, ALL, word.substring(1));
            BENCH.faultyLast(1, ALL, word.substring(0, word.length() - 1));
            BENCH.faultyLast(1, ALL, word + "z");
        }
        BENCH.faultyLast(1, "regatta ", "hater");
        BENCH.faultyLast(1, "regatta ", "watef");
    }

    private static void t1_form_noSuchKindOrSide() {
        for (String word : new String[] {"left", "pubs", "hut", "house", "villas"}) {
            BENCH.faultyLast(1, HEAD + "house a ", word);
        }
        for (String word : new String[] {"lef", "lefts", "up", "pub", "rights", "inside"}) {
            BENCH.faultyLast(1, HEAD + "house a pub ", word);
            BENCH.faultyLast(1, HEAD + "bend k long 1 ", word);
        }
    }

    private static void t1_again_aLodgerAboardAlready() {
        BENCH.faultyLast(3, ALL + "aboard x a;aboard ", "x");
        BENCH.faultyLast(3, ALL + "aboard x b;aboard y b;aboard ", "y");
        BENCH.faulty(3, (ALL + "aboard x a;aboard ").length(), ALL + "aboard x a;aboard x a");
        BENCH.faulty(3, (ALL + "aboard x a;aboard ").length(), ALL + "aboard x a;aboard x b");
    }

    private static void t1_again_aSecondLodgerWhoIsTheFirst() {
        BENCH.faultyLast(3, ALL + "friend x ", "x");
        BENCH.faultyLast(3, ALL + "friend y ", "y");
    }

    private static void t1_again_aSecondHouseThatIsTheFirst() {
        BENCH.faultyLast(3, ALL + "saw a ", "a");
        BENCH.faultyLast(3, ALL + "saw b ", "b");
    }

    private static void t1_again_aFriendAlreadyInWhateverOrder() {
        BENCH.faultyLast(3, ALL + "friend x y;friend x ", "y");
        BENCH.faultyLast(3, ALL + "friend x y;friend y ", "x");
        BENCH.faultyLast(3, ALL + "friend y x;friend x ", "y");
        BENCH.good(2, ALL + "lodger z weighs 0 rows 0;friend x y;friend y z;friend z x");
    }

    private static void t1_again_aSecondRegatta() {
        BENCH.faultyLast(3, HEAD, "regatta");
        BENCH.faultyLast(3, ALL, "regatta");
        BENCH.faulty(3, HEAD.length(), HEAD + "regatta !");
    }

    private static void t1_sawMayBeToldAgain() {
        BENCH.good(2, ALL + "saw a b k;saw a b k");
    }

    private static void t1_lacks_anyLineAheadOfTheRegatta() {
        for (String word : LINE_WORDS) {
            if (!word.equals("regatta")) {
                BENCH.faulty(6, 0, word);
                BENCH.faulty(6, 3, "   " + word + " ! ");
                BENCH.faulty(6, 0, word + " k long 1 left;" + ONE);
            }
        }
    }

    private static void t1_lacks_noHouseAtTheEnd() {
        String head = HEAD.substring(0, HEAD.length() - 1);
        BENCH.faultyLast(6, head, "");
        BENCH.faultyLast(6, head + "  ", "");
        BENCH.faultyLast(6, HEAD + "bend k long 1 left;lodger x weighs 0 rows 0;prize 1", "");
    }

    private static void t1_full_asManyAsItHasStoreys() {
        String lodgers = "";
        String aboard = "";
        for (char l = 'p'; l <= 't'; l++) {
            lodgers += ";lodger " + l + " weighs 0 rows 0";
        }
        for (int storeys = 1; storeys <= 6; storeys++) {
            String house = HEAD + "house a pub left tiles 0 storeys " + storeys + lodgers;
            if (storeys < 5) {
                aboard += ";aboard " + (char) ('o' + storeys) + " a";
                BENCH.good(1, house + aboard);
                BENCH.faultyLast(7, house + aboard + ";aboard t ", "a");
            } else {
                BENCH.good(1, house + ";aboard p a;aboard q a;aboard r a;aboard s a;aboard t a");
            }
        }
    }

    private static void t1_theFirstFromTheLeft() {
        BENCH.faulty(4, 14, "regatta water 0 bridge 7 storey 31 !");
        BENCH.faulty(1, 14, "regatta water ! bridge 7");
        BENCH.faulty(3, (ALL + "house ").length(), ALL + "house x hut up");
        BENCH.faulty(2, (ALL + "friend ").length(), ALL + "friend z z");
        BENCH.faulty(2, (ALL + "saw ").length(), ALL + "saw x x x");
        BENCH.faulty(3, (ALL + "saw a ").length(), ALL + "saw a a z");
        BENCH.faulty(3, (ALL + "aboard x a;aboard ").length(), ALL + "aboard x a;aboard x a !");
        BENCH.faulty(7, (ALL + "aboard x a;aboard y ").length(), ALL + "aboard x a;aboard y a ; !");
        BENCH.faulty(4, (HEAD + "bend k long ").length(), HEAD + "bend k long 31");
        BENCH.faulty(6, 0, "prize 100");
    }

    private static void t1_ofOnePlaceTheLeastNumber() {
        // 1, not 4: four digits, though out of bounds; 1, not 6: the end lacks a house, too
        BENCH.faultyLast(1, "regatta water ", "9999");
        BENCH.faultyLast(1, "regatta water 1 bridge 1 storey 0 rain 0 by", "");
        BENCH.faultyLast(1, HEAD + "bend k long 1", "");
        // 1, not 6: begins no LINE, ahead of the regatta; 1, not 2 or 3: no NAME
        BENCH.faultyLast(1, "", "tiles");
        BENCH.faultyLast(1, ALL + "aboard ", "regatta");
    }

    // ---- promise 1

    private static void p01_noRegatta_sizes() {
        RoofRegatta x = new RoofRegatta();
        for (int what = 0; what < 14; what++) {
            due("size(" + what + ")", x.size(what), 0);
        }
    }

    private static void p01_noRegatta_noTroubleNoFault() {
        RoofRegatta x = new RoofRegatta();
        due("trouble()", x.trouble(), 0);
        due("fault()", x.fault(), 0);
        due("where()", x.where(), -1);
    }

    /** Every call that may be refused is, its numbers being 0. */
    private static void p01_noRegatta_everyCallIsRefused() throws IllegalAccessException {
        int calls = 0;
        for (Method method : RoofRegatta.class.getDeclaredMethods()) {
            String name = method.getName();
            if (!Modifier.isPublic(method.getModifiers()) || NEVER_REFUSED.contains(name)) {
                continue;
            }
            RoofRegatta x = new RoofRegatta();
            calls++;
            long want = method.getReturnType() == boolean.class ? 0 : name.equals("weir") ? -100 : -1;
            int why = name.equals("undo") ? 6 : name.equals("regatta") ? 4 : 1;
            BENCH.refused(name, x, withZeros(x, method), want, why);
        }
        due("calls that may be refused", calls, 53);
        BENCH.ledThrows(new RoofRegatta(), 0);
    }

    private static long withZeros(RoofRegatta x, Method method) throws IllegalAccessException {
        Class<?>[] types = method.getParameterTypes();
        Object[] zeros = new Object[types.length];
        for (int i = 0; i < types.length; i++) {
            zeros[i] = types[i] == boolean.class ? (Object) false : (Object) 0;
        }
        try {
            Object got = method.invoke(x, zeros);
            return got instanceof Boolean ? ((Boolean) got ? 1 : 0) : ((Number) got).longValue();
        } catch (InvocationTargetException thrown) {
            throw new IllegalStateException(method.getName(), thrown.getCause());
        }
    }

    private static void p01_noRegatta_noneSuchAheadOfAWrongNumber() {
        RoofRegatta x = new RoofRegatta();
        BENCH.none("leastFor(0, -1)", x, x.leastFor(0, -1), 1);
        BENCH.none("waterFor(0, 30001)", x, x.waterFor(0, 30001), 1);
        BENCH.none("wins(0, -1, 61)", x, x.wins(0, -1, 61), 1);
        BENCH.none("record(-1, 0)", x, x.record(-1, 0), 1);
        BENCH.refused("weir(10, ..)", x, x.weir(10, false, false, false), -100, 1);
        BENCH.none("rests(10)", x, x.rests(10), 1);
        BENCH.none("rest(-1)", x, x.rest(-1), 1);
        BENCH.refused("raise(0)", x, x.raise(0), 1);
    }

    // ---- promise 2

    private static void p02_twentyBytesEach() {
        RoofRegatta x = new RoofRegatta();
        for (int i = 1; i <= 45; i++) {
            due("feed " + i, x.feed(i, -i, 0, Integer.MAX_VALUE, Integer.MIN_VALUE), 20 * i);
            due("size(13)", x.size(13), 20 * i);
        }
    }

    private static void p02_noneComesIfThereWouldBeMoreThan900() {
        String text = ONE.substring(0, ONE.length() - 1);
        RoofRegatta x = new RoofRegatta();
        Bench.feed(x, text + blanks(899 - text.length()) + "5");
        due("feed beyond 900", x.feed(0, 0, 0, 0, 0), -1);
        due("size(13)", x.size(13), 900);
        due("again", x.feed(-1, -1, -1, -1, -1), -1);
        BENCH.granted("the bytes are as they were", x, x.regatta(900), 1);
        due("storeys", x.house(0, 2), 5);
    }

    private static void p02_ofEachNumberTheHighestFirst() {
        // regatta water 1 brid: its numbers one by one
        RoofRegatta x = new RoofRegatta();
        x.feed(0x72656761, 0x74746120, 0x77617465, 0x72203120, 0x62726964);
        x.feed(0x67652021, 0, 0, 0, 0);
        BENCH.none("regatta(40)", x, x.regatta(40), 4);
        due("where(), the first byte that is none of a text", x.where(), 23);
    }

    private static void p02_bytesAbove127() {
        for (int i = 0; i < 4; i++) {
            RoofRegatta x = new RoofRegatta();
            x.feed(0x20202020 | 0xff << 8 * (3 - i), 0, 0, 0, 0);
            x.regatta(20);
            due("where() of 255", x.where(), i);
        }
    }

    private static void p02_isNoCallThatMayBeRefused() {
        RoofRegatta x = new RoofRegatta();
        x.total(0);
        x.feed(0, 0, 0, 0, 0);
        due("trouble() behind a feed", x.trouble(), 1);
        Bench.feed(x, blanks(880));
        due("refused", x.feed(0, 0, 0, 0, 0), -1);
        due("trouble() behind a feed for which there is no room", x.trouble(), 1);
    }

    private static void p02_roomAgainBehindARegatta() {
        RoofRegatta x = new RoofRegatta();
        Bench.feed(x, blanks(900));
        x.regatta(901);
        due("refused by 2: the tape stays full", x.feed(0, 0, 0, 0, 0), -1);
        x.regatta(0);
        due("feed", x.feed(0, 0, 0, 0, 0), 20);
    }

    // ---- promise 3

    private static RoofRegatta acted() {
        RoofRegatta x = Bench.told(ALL + "aboard x b;friend x y;prize 9;saw a b k");
        x.light(1, true);
        x.cross(0);
        x.raise(7);
        x.board(1, 1);
        x.image();
        return x;
    }

    private static void stays(RoofRegatta x) {
        int[] sizes = {7, 1, 0, 0, 0, 1, 2, 2, 1, 1, 1, 4, 1};
        for (int what = 0; what < sizes.length; what++) {
            due("size(" + what + ")", x.size(what), sizes[what]);
        }
        due("lit", x.house(1, 7), 1);
        due("lane", x.house(0, 3), 1);
        due("aboard", x.house(1, 6), 3);
        due("storeys", x.house(1, 2), 2);
    }

    private static void p03_moreThanTheTapeHas() {
        RoofRegatta x = acted();
        for (int n : new int[] {1, 20, 900, 901, Integer.MAX_VALUE}) {
            BENCH.none("regatta(" + n + ") of an empty tape", x, x.regatta(n), 2);
        }
        Bench.feed(x, ONE);
        due("size(13)", x.size(13), 80);
        for (int n : new int[] {81, 900, Integer.MAX_VALUE}) {
            BENCH.none("regatta(" + n + ")", x, x.regatta(n), 2);
            due("the tape stays", x.size(13), 80);
            stays(x);
        }
        BENCH.granted("regatta(80), as many as it has", x, x.regatta(80), 1);
    }

    private static void p03_lessThan0() {
        RoofRegatta x = acted();
        Bench.feed(x, ONE);
        for (int n : new int[] {-1, -80, Integer.MIN_VALUE}) {
            BENCH.none("regatta(" + n + ")", x, x.regatta(n), 2);
            due("the tape stays", x.size(13), 80);
            stays(x);
        }
        BENCH.granted("regatta", x, x.regatta(ONE.length()), 1);
    }

    private static void p03_0ofAFullTape() {
        RoofRegatta x = acted();
        Bench.feed(x, ONE);
        BENCH.none("regatta(0)", x, x.regatta(0), 4);
        due("where()", x.where(), 0);
        due("the tape is empty", x.size(13), 0);
        stays(x);
    }

    private static void p03_onlyTheFirstBytes() {
        RoofRegatta x = new RoofRegatta();
        Bench.feed(x, ONE + ";;;!");
        BENCH.granted("regatta", x, x.regatta(ONE.length()), 1);
        Bench.feed(x, ONE + "0");
        BENCH.granted("storeys 10 cut to 1", x, x.regatta(ONE.length()), 1);
        due("storeys", x.house(0, 2), 1);
        Bench.feed(x, ONE);
        BENCH.none("one byte less", x, x.regatta(ONE.length() - 1), 4);
        due("where()", x.where(), ONE.length() - 1);
    }

    private static void p03_theTapeIsEmptyThen() {
        RoofRegatta x = new RoofRegatta();
        Bench.feed(x, ONE + blanks(100));
        x.regatta(ONE.length());
        due("size(13)", x.size(13), 0);
        BENCH.none("regatta(1)", x, x.regatta(1), 2);
        Bench.feed(x, "!" + blanks(99));
        x.regatta(1);
        due("size(13) behind a FAULT", x.size(13), 0);
        BENCH.none("regatta(1)", x, x.regatta(1), 2);
    }

    private static void p03_by4TheRegattaStays() {
        RoofRegatta x = acted();
        for (String text : new String[] {"", "!", HEAD, ONE + ";", "regatta water 20 bridge 6 storey 30 rain 100 by 9;house q "
            + "villa right tiles 50 storeys 6;bend m long 30 right;lodger p weighs 30 rows 9;aboard p q;prize 100"}) {
            BENCH.none("regatta of '" + text + "'", x, Bench.tell(x, text), 4);
            stays(x);
        }
        BENCH.granted("undo()", x, x.undo());
        BENCH.granted("back(0)", x, x.back(0));
    }

    private static void p03_nothingLitNothingToUndoNoImages() {
        RoofRegatta x = acted();
        BENCH.granted("regatta", x, Bench.tell(x, ALL + "prize 1"), 2);
        due("lit", x.house(1, 7), 0);
        due("lane as told", x.house(0, 3), 0);
        due("water as told", x.size(0), 1);
        due("nobody aboard", x.house(1, 6), 0);
        due("size(11)", x.size(11), 0);
        due("size(12)", x.size(12), 0);
        BENCH.refused("undo()", x, x.undo(), 6);
        BENCH.refused("back(0)", x, x.back(0), 1);
    }

    private static void p03_nobodyOfTheOneBeforeIsAboard() {
        String houses = "";
        String lodgers = "";
        String aboard = "";
        for (int h = 0; h < 4; h++) {
            char house = (char) ('a' + h);
            char lodger = (char) ('p' + h);
            houses += ";house " + house + " cottage right tiles 0 storeys 1";
            lodgers += ";lodger " + lodger + " weighs 0 rows 0";
            aboard += ";aboard " + lodger + " " + house;
        }
        String head = HEAD.substring(0, HEAD.length() - 1);
        RoofRegatta x = Bench.told(head + houses + lodgers + aboard);
        due("full()", x.full(), 15);
        Bench.tell(x, head + houses.replace("right", "left") + lodgers);
        for (int h = 0; h < 4; h++) {
            due("house(" + h + ", 6)", x.house(h, 6), 0);
            due("house(" + h + ", 3)", x.house(h, 3), 0);
            due("lodger(" + h + ", 2)", x.lodger(h, 2), -2);
        }
    }

    private static void p03_nothingOfTheOneBeforeIsLeft() {
        RoofRegatta x = acted();
        BENCH.granted("regatta", x, Bench.tell(x, HEAD + HOUSE + ";lodger z weighs 1 rows 1"), 1);
        int[] sizes = {1, 1, 0, 0, 0, 0, 1, 1, 0, 0, 0, 0, 0, 0};
        for (int what = 0; what < sizes.length; what++) {
            due("size(" + what + ")", x.size(what), sizes[what]);
        }
        due("friends", x.lodger(0, 3), 0);
        due("prize", x.prize(0), 0);
        due("judge()", x.judge(), -2);
        BENCH.none("the second house", x, x.total(1), 1);
        BENCH.none("the bend", x, x.bend(0, 0), 1);
        // NAMES of the one before are free again, and untold
        BENCH.granted("regatta", x, Bench.tell(x, HEAD + "bend a long 1 left;house k pub left tiles 0 storeys 1"), 1);
        BENCH.none("regatta", x, Bench.tell(x, HEAD + "house q pub left tiles 0 storeys 1;saw a k k"), 4);
        due("fault()", x.fault(), 2);
    }

    private static void p03_loadsAreFoundAnewForANewRegatta() {
        String two = "regatta water 10 bridge 6 storey 0 rain 0 by 0;bend k long 10 left;house a pub left tiles 1 storeys 1;"
            + "house b pub left tiles 2 storeys 1;lodger x weighs 2 rows 0";
        RoofRegatta x = Bench.told(two);
        due("bestRank(1)", x.bestRank(1), 0);
        due("friendly()", x.friendly(), 0);
        Bench.tell(x, two.replace("weighs 2", "weighs 1"));
        due("bestRank(1) of the new one", x.bestRank(1), 1);
        String friends = two.replace("storeys 1", "storeys 2") + ";lodger y weighs 0 rows 0";
        Bench.tell(x, friends);
        due("friendly()", x.friendly(), 0);
        Bench.tell(x, friends + ";friend x y");
        due("friendly() of the new one", x.friendly(), 1);
    }

    private static void p03_howManyHouses() {
        StringBuilder text = new StringBuilder(HEAD.substring(0, HEAD.length() - 1));
        for (int h = 1; h <= 4; h++) {
            text.append(";house ").append((char) ('m' + h)).append(" pub left tiles 0 storeys 1");
            BENCH.good(h, text.toString());
        }
    }

    // ---- promise 4

    private static void p04_0withoutARegatta() {
        due("fault()", new RoofRegatta().fault(), 0);
    }

    private static void p04_ofTheLatestNotRefusedBy2() {
        RoofRegatta x = new RoofRegatta();
        x.regatta(1);
        due("fault() behind a first one refused by 2", x.fault(), 0);
        Bench.tell(x, HEAD + "prize 100");
        due("fault()", x.fault(), 4);
        x.regatta(1);
        due("fault() behind one refused by 2", x.fault(), 4);
        x.regatta(-1);
        due("fault() behind another", x.fault(), 4);
        Bench.tell(x, "!");
        due("fault() of the next", x.fault(), 1);
        Bench.tell(x, ONE);
        due("fault() of a good one", x.fault(), 0);
        x.regatta(1);
        due("fault() behind one refused by 2", x.fault(), 0);
    }

    private static void p04_othersLeaveIt() {
        RoofRegatta x = Bench.told(ONE);
        Bench.tell(x, "saw");
        x.total(0);
        x.total(9);
        x.image();
        x.back(0);
        x.cross(0);
        x.undo();
        due("fault()", x.fault(), 6);
    }

    private static void p04_eachOfThem() {
        String[] texts = {"!", ALL + "aboard z a", ALL + "house a", "regatta water 21", ALL + "prize 1;prize 1;prize 1;prize 1;prize 1",
            "bend", ALL + "aboard x a;aboard y a"};
        RoofRegatta x = new RoofRegatta();
        for (int fault = 1; fault <= 7; fault++) {
            Bench.tell(x, texts[fault - 1]);
            due("fault()", x.fault(), fault);
        }
    }

    // ---- promise 5

    private static void p05_noneAtFirst() {
        due("where()", new RoofRegatta().where(), -1);
    }

    private static void p05_noneBehindACallThatWasRefusedByAnother() {
        RoofRegatta x = new RoofRegatta();
        Bench.tell(x, "regatta !");
        due("where()", x.where(), 8);
        x.total(0);
        due("where() behind 1", x.where(), -1);
        Bench.tell(x, "regatta !");
        x.regatta(1);
        due("where() behind 2", x.where(), -1);
        Bench.tell(x, "regatta !");
        x.undo();
        due("where() behind 6", x.where(), -1);
    }

    private static void p05_noneBehindACallThatWasNotRefused() {
        RoofRegatta x = Bench.told(ONE);
        due("where() of a good one", x.where(), -1);
        Bench.tell(x, "regatta !");
        due("where()", x.where(), 8);
        x.total(0);
        due("where() behind total(0)", x.where(), -1);
        Bench.tell(x, "regatta !");
        x.odds(0, 0, false);
        due("where() behind odds", x.where(), -1);
        Bench.tell(x, "regatta !");
        x.weir(0, false, false, false);
        due("where() behind weir", x.where(), -1);
        Bench.tell(x, "regatta !");
        x.light(0, true);
        due("where() behind light", x.where(), -1);
    }

    private static void p05_staysBehindCallsThatMayNotBeRefused() {
        RoofRegatta x = Bench.told(ONE + ";lodger x weighs 0 rows 0");
        Bench.tell(x, "regatta !");
        x.feed(0, 0, 0, 0, 0);
        x.fault();
        x.where();
        x.size(0);
        x.size(-1);
        x.trouble();
        x.led(0);
        BENCH.ledThrows(x, 1);
        due("where()", x.where(), 8);
    }

    private static void p05_place0() {
        RoofRegatta x = new RoofRegatta();
        Bench.tell(x, "saw");
        due("where()", x.where(), 0);
    }
}
