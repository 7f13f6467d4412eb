/** Promises 35 to 41, and what the document says of FIRES under III: each boundary in a case of its own. */
public final class EdgeFiresTest {
    /** A pub takes 10 and its tiles for the bend, a tenth less if it is LIT. */
    private static final String EVEN = "regatta water 10 bridge 6 storey 0 rain 0 by 0;bend k long 10 left";

    private static final Bench BENCH = new Bench();

    public static void main(String[] args) throws IllegalAccessException {
        Cases.run(EdgeFiresTest.class, BENCH, 35, 41);
    }

    private static void due(String call, long got, long want) {
        BENCH.due(call, got, want);
    }

    private static String pubs(int... tiles) {
        StringBuilder text = new StringBuilder(EVEN);
        for (int h = 0; h < tiles.length; h++) {
            text.append(";house ").append((char) ('a' + h)).append(" pub left tiles ").append(tiles[h]).append(" storeys 1");
        }
        return text.toString();
    }

    private static void sets(RoofRegatta x, int... want) {
        BENCH.granted("fires()", x, x.fires(), want.length);
        for (int i = 0; i < want.length; i++) {
            BENCH.granted("fireAt(" + i + ")", x, x.fireAt(i), want[i]);
        }
        BENCH.none("fireAt(" + want.length + ")", x, x.fireAt(want.length), 1);
    }

    // ---- TERMS III: FIRES

    private static void t3_theOthersWerent() {
        // a must be lit, and b not
        sets(Bench.told(pubs(0, 0) + ";saw a b k"), 1);
    }

    private static void t3_allThatWasSeenIsSo() {
        sets(Bench.told(pubs(0, 0, 0) + ";saw a b k;saw c b k"), 5);
        sets(Bench.told(pubs(0, 0, 0) + ";saw a b k;saw b c k"));
    }

    private static void t3_seenTwiceIsNoMore() {
        sets(Bench.told(pubs(0, 0) + ";saw a b k;saw a b k"), 1);
    }

    private static void t3_likeTimesAreNotAhead() {
        // 10 or 9 against 11 or 10: not so with b lit alone
        sets(Bench.told(pubs(0, 1) + ";saw a b k"), 0, 1, 3);
    }

    private static void t3_whoIsLitNowDoesNotMatter() {
        RoofRegatta x = Bench.told(pubs(0, 0) + ";saw a b k");
        x.light(1, true);
        sets(x, 1);
        due("house(1, 7) stays", x.house(1, 7), 1);
        due("house(0, 7) stays", x.house(0, 7), 0);
    }

    private static void t3_allElseIsAsNow() {
        RoofRegatta x = Bench.told(pubs(0, 0) + ";lodger p weighs 1 rows 0;saw a b k");
        sets(x, 1);
        x.board(0, 1);
        sets(x, 0, 1, 3);
        x.raise(20);
        // 5 against 6, of which there is no tenth
        sets(x, 0, 1, 2, 3);
        x.board(0, 0);
        sets(x);
        x.undo();
        x.undo();
        sets(x, 0, 1, 3);
    }

    private static void t3_behindThatBendTheBridgeToo() {
        String text = "regatta water 10 bridge 1 storey 1 rain 0 by 0;bend k long 10 left;bend m long 10 left;"
            + "house a pub left tiles 0 storeys 3;house b pub left tiles 1 storeys 1;saw a b ";
        // 12 or 11 against 11 or 10; 22 or 20 against 22 or 20
        sets(Bench.told(text + "k"));
        sets(Bench.told(text + "m"), 1);
    }

    // ---- promise 35

    private static void p35_nothingSeenFitsAll() {
        int[] tiles = {};
        for (int houses = 1; houses <= 4; houses++) {
            tiles = java.util.Arrays.copyOf(tiles, houses);
            int[] all = new int[1 << houses];
            for (int i = 0; i < all.length; i++) {
                all[i] = i;
            }
            sets(Bench.told(pubs(tiles)), all);
        }
    }

    private static void p35_noneFits() {
        RoofRegatta x = Bench.told(pubs(20, 0) + ";saw a b k");
        BENCH.granted("fires()", x, x.fires(), 0);
    }

    private static void p35_withoutABend() {
        RoofRegatta x = Bench.told(pubs(0).replace("bend k long 10 left;", ""));
        BENCH.granted("fires()", x, x.fires(), 2);
    }

    // ---- promise 36

    private static void p36_noSuch() {
        RoofRegatta x = Bench.told(pubs(0, 0, 0, 0));
        for (int i : new int[] {-1, -2, 16, 17, Integer.MAX_VALUE, Integer.MIN_VALUE}) {
            BENCH.none("fireAt(" + i + ")", x, x.fireAt(i), 1);
        }
        BENCH.granted("fireAt(0)", x, x.fireAt(0), 0);
        BENCH.granted("fireAt(15)", x, x.fireAt(15), 15);
    }

    private static void p36_noneAtAll() {
        RoofRegatta x = Bench.told(pubs(20, 0) + ";saw a b k");
        BENCH.none("fireAt(0)", x, x.fireAt(0), 1);
        BENCH.none("fireAt(-1)", x, x.fireAt(-1), 1);
    }

    private static void p36_onlySoManyAsThereAre() {
        RoofRegatta x = Bench.told(pubs(0, 0, 0, 0));
        due("fireAt(9)", x.fireAt(9), 9);
        x = Bench.told(pubs(0, 0) + ";saw a b k");
        BENCH.none("fireAt(1)", x, x.fireAt(1), 1);
    }

    private static void p36_byBits() {
        sets(Bench.told(pubs(0, 0, 0, 0) + ";saw b a k"), 2, 6, 10, 14);
    }

    // ---- promises 37 and 38

    private static void p37_noSet() {
        RoofRegatta x = Bench.told(pubs(20, 0) + ";saw a b k");
        BENCH.granted("could()", x, x.could(), 0);
    }

    /** 12 and 30 against 11 and 31: whoever is lit, one of both is not so any more. */
    private static RoofRegatta noneWasLit() {
        return Bench.told("regatta water 10 bridge 1 storey 2 rain 0 by 0;bend k long 10 left;bend l long 18 left;"
            + "house a pub left tiles 0 storeys 2;house b pub left tiles 1 storeys 1;saw b a k;saw a b l");
    }

    private static void p37_onlyTheEmptySet() {
        sets(noneWasLit(), 0);
        RoofRegatta x = noneWasLit();
        BENCH.granted("could()", x, x.could(), 0);
    }

    private static void p37_oneSet() {
        RoofRegatta x = Bench.told(pubs(0, 0) + ";saw a b k");
        BENCH.granted("could()", x, x.could(), 1);
    }

    private static void p37_inSome() {
        RoofRegatta x = Bench.told(pubs(0, 0, 0, 0) + ";saw b a k");
        BENCH.granted("could()", x, x.could(), 14);
    }

    private static void p37_all() {
        RoofRegatta x = Bench.told(pubs(0, 0, 0, 0));
        BENCH.granted("could()", x, x.could(), 15);
    }

    private static void p38_0withoutASet() {
        RoofRegatta x = Bench.told(pubs(20, 0) + ";saw a b k");
        BENCH.granted("surely()", x, x.surely(), 0);
    }

    private static void p38_onlyTheEmptySet() {
        RoofRegatta x = noneWasLit();
        BENCH.granted("surely()", x, x.surely(), 0);
    }

    private static void p38_noneIfTheEmptySetFits() {
        RoofRegatta x = Bench.told(pubs(0, 1) + ";saw a b k");
        BENCH.granted("surely()", x, x.surely(), 0);
    }

    private static void p38_inAll() {
        RoofRegatta x = Bench.told(pubs(0, 0, 0, 0) + ";saw a c k;saw b c k");
        sets(x, 3, 11);
        BENCH.granted("surely()", x, x.surely(), 3);
        BENCH.granted("could()", x, x.could(), 11);
    }

    private static void p38_onlyHousesThatAreTold() {
        RoofRegatta x = Bench.told(pubs(0, 0) + ";saw a b k");
        BENCH.granted("surely()", x, x.surely(), 1);
    }

    private static void p38_threeOfFour() {
        RoofRegatta x = Bench.told(pubs(0, 0, 0, 0) + ";saw b a k;saw c a k;saw d a k");
        sets(x, 14);
        BENCH.granted("surely()", x, x.surely(), 14);
    }

    // ---- promises 39 and 40

    private static void asks(RoofRegatta x, int house, int leaves) {
        BENCH.granted("ask()", x, x.ask(), house);
        BENCH.granted("askLeaves()", x, x.askLeaves(), leaves);
    }

    private static void p39_noSetFits() {
        asks(Bench.told(pubs(20, 0) + ";saw a b k"), -2, -2);
    }

    private static void p39_oneSet() {
        asks(Bench.told(pubs(0, 0) + ";saw b a k"), 0, 1);
    }

    private static void p39_onlyTheEmptySet() {
        asks(noneWasLit(), 0, 1);
    }

    private static void p39_theFirstSuch() {
        asks(Bench.told(pubs(0, 0, 0, 0)), 0, 8);
        // 0, 1, 3: a halves them no better than b
        asks(Bench.told(pubs(0, 1) + ";saw a b k"), 0, 2);
    }

    private static void p39_theSecond() {
        RoofRegatta x = Bench.told(pubs(0, 0, 0) + ";saw a c k");
        sets(x, 1, 3);
        asks(x, 1, 1);
    }

    private static void p39_theLast() {
        asks(Bench.told(pubs(0, 0, 0, 0) + ";saw a c k;saw b c k"), 3, 1);
    }

    private static void p39_atMostNotAtLeast() {
        // 0, 1, 3, 4, 5, 7: a is in four, b in two, c in three of six
        asks(Bench.told(pubs(0, 1, 9) + ";saw a b k"), 2, 3);
    }

    private static void p40_askedByItself() {
        RoofRegatta x = Bench.told(pubs(0, 0, 0, 0));
        BENCH.granted("askLeaves()", x, x.askLeaves(), 8);
        RoofRegatta one = Bench.told(pubs(0, 0) + ";saw a b k");
        BENCH.granted("askLeaves()", one, one.askLeaves(), 1);
    }

    private static void p40_oneHouse() {
        asks(Bench.told(pubs(0)), 0, 1);
    }

    private static void p40_moreWithoutThanWith() {
        // a is in one of three, so that at most two are left
        RoofRegatta x = Bench.told(pubs(1, 0) + ";saw b a k");
        sets(x, 0, 2, 3);
        asks(x, 0, 2);
    }

    // ---- promise 41

    private static void p41_nothingSeen() {
        RoofRegatta x = Bench.told(pubs(0, 0));
        BENCH.granted("judge()", x, x.judge(), -2);
    }

    private static void p41_allIsSo() {
        RoofRegatta x = Bench.told(pubs(0, 1, 2) + ";saw a b k;saw b c k;saw a c k");
        BENCH.granted("judge()", x, x.judge(), -2);
    }

    private static void p41_theFirstNotSo() {
        RoofRegatta x = Bench.told(pubs(0, 1, 2) + ";saw b a k;saw c a k");
        BENCH.granted("judge()", x, x.judge(), 0);
        x = Bench.told(pubs(0, 1, 2) + ";saw a b k;saw c a k;saw c b k");
        BENCH.granted("judge()", x, x.judge(), 1);
    }

    private static void p41_theLastNotSo() {
        RoofRegatta x = Bench.told(pubs(0, 1, 2) + ";saw a b k;saw a b k;saw a b k;saw a b k;saw b a k");
        BENCH.granted("judge()", x, x.judge(), 4);
    }

    private static void p41_likeTimesAreNotSo() {
        RoofRegatta x = Bench.told(pubs(0, 0) + ";saw a b k");
        BENCH.granted("judge()", x, x.judge(), 0);
    }

    private static void p41_now() {
        RoofRegatta x = Bench.told(pubs(0, 0) + ";saw a b k");
        x.light(0, true);
        BENCH.granted("lit", x, x.judge(), -2);
        x.light(1, true);
        BENCH.granted("both lit", x, x.judge(), 0);
    }
}
