/** Promises 6 to 23, and what the document says under II: each boundary in a case of its own. */
public final class EdgeNowTest {
    /** A pub takes 10 and its tiles for the bend: the water is 10, and the bend 10 long. */
    private static final String EVEN = "regatta water 10 bridge 6 storey 0 rain 0 by 0;bend k long 10 left";
    private static final String NO_BEND = "regatta water 1 bridge 1 storey 30 rain 0 by 0;house a cottage left tiles 5 storeys 6";
    private static final int[] WRONG = {-1, -2, 4, 5, 31, 32, 64, Integer.MAX_VALUE, Integer.MIN_VALUE};

    private static final Bench BENCH = new Bench();

    public static void main(String[] args) throws IllegalAccessException {
        Cases.run(EdgeNowTest.class, BENCH, 6, 23);
    }

    private static void due(String call, long got, long want) {
        BENCH.due(call, got, want);
    }

    /** Pubs a, b .. of one storey with so many tiles each. */
    private static String pubs(int... tiles) {
        StringBuilder text = new StringBuilder(EVEN);
        for (int h = 0; h < tiles.length; h++) {
            text.append(";house ").append((char) ('a' + h)).append(" pub left tiles ").append(tiles[h]).append(" storeys 1");
        }
        return text.toString();
    }

    private static RoofRegatta four() {
        return Bench.told(pubs(3, 1, 2, 0));
    }

    private static RoofRegatta oneHouse(String kind, String house, String lodgers) {
        return Bench.told("regatta water 10 bridge 6 storey 0 rain 0 by 0;bend k long 10 left;house a " + kind + " " + house
            + lodgers);
    }

    private static String crew(int count, int weighs, int rows) {
        StringBuilder text = new StringBuilder();
        for (int l = 0; l < count; l++) {
            char name = (char) ('p' + l);
            text.append(";lodger ").append(name).append(" weighs ").append(weighs).append(" rows ").append(rows)
                .append(";aboard ").append(name).append(" a");
        }
        return text.toString();
    }

    // ---- TERMS II

    private static void t2_aVillasTilesAreHalvedDownwards() {
        int[] tiles = {0, 1, 2, 3, 49, 50};
        int[] weights = {0, 0, 1, 1, 24, 25};
        for (int i = 0; i < tiles.length; i++) {
            due("villa of " + tiles[i], oneHouse("villa", "left tiles " + tiles[i] + " storeys 1", "").house(0, 4), weights[i]);
        }
    }

    private static void t2_aVillasLodgersWeighWholly() {
        due("1 and 3", oneHouse("villa", "left tiles 3 storeys 1", crew(1, 3, 0)).house(0, 4), 4);
    }

    private static void t2_othersTilesAreWhole() {
        for (String kind : new String[] {"cottage", "terrace", "pub"}) {
            due(kind, oneHouse(kind, "left tiles 49 storeys 1", "").house(0, 4), 49);
        }
    }

    private static void t2_theGreatestWeight() {
        due("50 and 5 times 30", oneHouse("pub", "left tiles 50 storeys 6", crew(5, 30, 0)).house(0, 4), 200);
    }

    private static void t2_whoIsAshoreOrElsewhereDoesNotCount() {
        RoofRegatta x = Bench.told(pubs(1, 2) + ";lodger p weighs 30 rows 9;lodger q weighs 30 rows 9;aboard p b");
        due("weight", x.house(0, 4), 1);
        due("power", x.house(0, 5), 10);
        due("weight", x.house(1, 4), 32);
        due("power", x.house(1, 5), 19);
    }

    private static void t2_aTerraceWithOneAboardRowsOnce() {
        due("power", oneHouse("terrace", "left tiles 0 storeys 6", crew(1, 0, 9)).house(0, 5), 19);
    }

    private static void t2_aTerraceWithTwoAboardRowsTwice() {
        due("power", oneHouse("terrace", "left tiles 0 storeys 6", crew(2, 0, 9)).house(0, 5), 46);
    }

    private static void t2_aTerraceWithMoreAboardRowsTwice() {
        for (int count = 3; count <= 5; count++) {
            due("power", oneHouse("terrace", "left tiles 0 storeys 6", crew(count, 0, 9)).house(0, 5), 10 + 18 * count);
        }
    }

    private static void t2_aTerraceWithNobodyAboard() {
        due("power", oneHouse("terrace", "left tiles 0 storeys 6", "").house(0, 5), 10);
    }

    private static void t2_twoAboardOfWhomOneRows() {
        RoofRegatta x = oneHouse("terrace", "left tiles 0 storeys 6", crew(1, 0, 0) + ";lodger z weighs 0 rows 4;aboard z a");
        due("power", x.house(0, 5), 18);
    }

    private static void t2_othersWithTwoAboardRowOnce() {
        for (String kind : new String[] {"cottage", "villa", "pub"}) {
            due(kind, oneHouse(kind, "left tiles 0 storeys 6", crew(2, 0, 9)).house(0, 5), 28);
        }
    }

    private static void t2_theLeastPowerIs1() {
        RoofRegatta x = Bench.told("regatta water 1 bridge 6 storey 0 rain 0 by 0;bend k long 1 left;house a pub left tiles 0 "
            + "storeys 1" + crew(1, 0, 0));
        due("power", x.house(0, 5), 1);
        due("time", x.time(0, 0), 10);
    }

    private static void t2_theWaterNow() {
        RoofRegatta x = four();
        x.raise(13);
        due("power", x.house(0, 5), 13);
        due("time", x.time(0, 0), 10);
        x.undo();
        due("power", x.house(0, 5), 10);
        due("time", x.time(0, 0), 13);
    }

    private static void t2_theTimeIsUpwards() {
        // 3 times (tiles and 10) by 10: 30 by 10, 33 by 10, 57 by 10, 60 by 10
        int[] tiles = {0, 1, 9, 10};
        int[] times = {3, 4, 6, 6};
        for (int i = 0; i < tiles.length; i++) {
            RoofRegatta x = Bench.told("regatta water 10 bridge 6 storey 0 rain 0 by 0;bend k long 3 left;house a pub left tiles "
                + tiles[i] + " storeys 1");
            due("tiles " + tiles[i], x.time(0, 0), times[i]);
        }
    }

    private static void t2_eachTimeIsUpwardsByItself() {
        RoofRegatta x = Bench.told("regatta water 10 bridge 6 storey 0 rain 0 by 0;bend k long 1 left;bend m long 1 left;"
            + "house a pub left tiles 1 storeys 1");
        due("11 by 10, twice", x.total(0), 4);
    }

    private static void t2_twoMoreIfItsLaneIsntTheInside() {
        for (String kind : new String[] {"cottage", "terrace", "villa"}) {
            RoofRegatta x = Bench.told(EVEN + ";bend m long 10 right;house a " + kind + " left tiles 0 storeys 1;house b " + kind
                + " right tiles 0 storeys 1");
            due("left on left", x.time(0, 0), 10);
            due("left on right", x.time(0, 1), 12);
            due("right on left", x.time(1, 0), 12);
            due("right on right", x.time(1, 1), 10);
        }
    }

    private static void t2_aPubNever() {
        RoofRegatta x = Bench.told(EVEN + ";bend m long 10 right;house a pub left tiles 0 storeys 1;house b pub right tiles 0 "
            + "storeys 1");
        due("total(0)", x.total(0), 20);
        due("total(1)", x.total(1), 20);
    }

    private static void t2_theLaneNow() {
        RoofRegatta x = oneHouse("cottage", "left tiles 0 storeys 1", "");
        due("told", x.time(0, 0), 10);
        x.cross(0);
        due("crossed", x.time(0, 0), 12);
        x.cross(0);
        due("crossed back", x.time(0, 0), 10);
    }

    private static void t2_litATenthLessDownwards() {
        // tiles so that unlit it takes 10, 19, 20, 29, 30; and 9 by a bend of 9
        int[] tiles = {0, 9, 10, 19, 20};
        int[] lit = {9, 18, 18, 27, 27};
        for (int i = 0; i < tiles.length; i++) {
            RoofRegatta x = Bench.told(pubs(tiles[i]));
            x.light(0, true);
            due("lit with tiles " + tiles[i], x.time(0, 0), lit[i]);
        }
        RoofRegatta nine = Bench.told(pubs(0).replace("long 10", "long 9"));
        nine.light(0, true);
        due("a tenth of 9 is none", nine.time(0, 0), 9);
    }

    private static void t2_litEachBendByItself() {
        RoofRegatta x = Bench.told(pubs(9).replace(";house", ";bend m long 10 left;house"));
        x.light(0, true);
        due("18 and 18, not 38 less 3", x.total(0), 36);
    }

    private static void t2_theBridgeIsNotLessForALitHouse() {
        RoofRegatta x = Bench.told("regatta water 10 bridge 1 storey 30 rain 0 by 0;bend k long 10 left;house a pub left tiles 0 "
            + "storeys 6");
        due("unlit", x.total(0), 160);
        x.light(0, true);
        due("lit", x.total(0), 159);
    }

    private static void t2_theBridgeForEachStoreyMore() {
        for (int bridge = 1; bridge <= 6; bridge++) {
            for (int storeys = 1; storeys <= 6; storeys++) {
                RoofRegatta x = Bench.told("regatta water 10 bridge " + bridge + " storey 7 rain 0 by 0;bend k long 10 left;"
                    + "house a pub left tiles 0 storeys " + storeys);
                int more = storeys > bridge ? storeys - bridge : 0;
                due("bridge " + bridge + " storeys " + storeys, x.total(0), 10 + 7 * more);
            }
        }
    }

    private static void t2_theBridgeOnceBehindTheFirstBend() {
        RoofRegatta x = Bench.told("regatta water 10 bridge 1 storey 30 rain 0 by 0;bend k long 10 left;bend m long 10 left;"
            + "bend n long 10 left;house a pub left tiles 0 storeys 2");
        due("soFar(0, 0)", x.soFar(0, 0), 40);
        due("soFar(0, 1)", x.soFar(0, 1), 50);
        due("soFar(0, 2)", x.soFar(0, 2), 60);
        due("total(0)", x.total(0), 60);
        due("time(0, 0)", x.time(0, 0), 10);
    }

    private static void t2_noBridgeWithoutABend() {
        RoofRegatta x = Bench.told(NO_BEND);
        due("total(0)", x.total(0), 0);
    }

    private static void t2_theGreatestTotal() {
        RoofRegatta x = Bench.told("regatta water 1 bridge 1 storey 30 rain 0 by 0;bend k long 30 left;bend l long 30 left;"
            + "bend m long 30 left;bend n long 30 left;house a cottage right tiles 50 storeys 6" + crew(5, 30, 0));
        due("32 times 210", x.time(0, 3), 6720);
        due("4 of them and 150", x.total(0), 27030);
        due("leastFor(0, 30000)", x.leastFor(0, 30000), 0);
    }

    private static void t2_theLeastTotalWithABend() {
        RoofRegatta x = Bench.told("regatta water 20 bridge 6 storey 0 rain 0 by 0;bend k long 1 left;house a terrace left tiles 0 "
            + "storeys 6" + crew(5, 0, 9));
        due("10 by 110", x.total(0), 1);
        x.light(0, true);
        due("lit", x.total(0), 1);
    }

    private static void t2_rankOfLikeTotalsByNumbers() {
        RoofRegatta x = Bench.told(pubs(1, 0, 1, 0));
        int[] ranks = {2, 0, 3, 1};
        for (int h = 0; h < 4; h++) {
            due("rank(" + h + ")", x.rank(h), ranks[h]);
        }
    }

    private static void t2_litWithTheLeastTotalIsNotOut() {
        RoofRegatta x = Bench.told(pubs(1, 0));
        x.light(1, true);
        due("out(1)", x.out(1), 0);
        due("rank(1)", x.rank(1), 0);
    }

    private static void t2_litWithoutTheLeastTotalIsOut() {
        RoofRegatta x = Bench.told(pubs(2, 0, 9));
        x.light(0, true);
        // 12 less 1 is 11: not so little as 10
        due("out(0)", x.out(0), 1);
        due("behind all that aren't", x.rank(0), 2);
    }

    private static void t2_litAndLikeButNotTheFirstIsOut() {
        RoofRegatta x = Bench.told(pubs(0, 1));
        x.light(1, true);
        due("like totals", x.total(1), x.total(0));
        due("out(1)", x.out(1), 1);
    }

    private static void t2_litAndLikeAndTheFirstIsNotOut() {
        RoofRegatta x = Bench.told(pubs(1, 0));
        x.light(0, true);
        due("like totals", x.total(0), x.total(1));
        due("out(0)", x.out(0), 0);
        due("rank(0)", x.rank(0), 0);
    }

    private static void t2_theLeastTotalMayBeThatOfALitHouse() {
        RoofRegatta x = Bench.told(pubs(0, 1, 0));
        x.light(0, true);
        x.light(1, true);
        x.light(2, true);
        due("9", x.total(0), 9);
        due("10", x.total(1), 10);
        due("out(0)", x.out(0), 0);
        due("out(1)", x.out(1), 1);
        due("out(2), 9 but not the first", x.out(2), 1);
        due("rank(2), ahead of 10 among those out", x.rank(2), 1);
        due("rank(1)", x.rank(1), 2);
    }

    private static void t2_thoseOutAmongThemselvesLikewise() {
        RoofRegatta x = Bench.told(pubs(30, 20, 20, 0));
        x.light(0, true);
        x.light(1, true);
        x.light(2, true);
        int[] ranked = {3, 1, 2, 0};
        for (int r = 0; r < 4; r++) {
            due("ranked(" + r + ")", x.ranked(r), ranked[r]);
        }
    }

    private static void t2_aHouseAloneIsNeverOut() {
        RoofRegatta x = Bench.told(pubs(50));
        x.light(0, true);
        due("out(0)", x.out(0), 0);
        RoofRegatta still = Bench.told(NO_BEND);
        still.light(0, true);
        due("out(0) without a bend", still.out(0), 0);
    }

    private static void t2_withoutABendAllAreAlike() {
        RoofRegatta x = Bench.told(pubs(9, 0).replace("bend k long 10 left;", ""));
        x.light(1, true);
        due("rank(0)", x.rank(0), 0);
        due("rank(1)", x.rank(1), 1);
        due("out(1)", x.out(1), 1);
        x.light(0, true);
        due("out(0)", x.out(0), 0);
    }

    private static void t2_aheadIsLessNotAlike() {
        RoofRegatta x = Bench.told(pubs(0, 0, 1));
        due("ahead(0, 1)", x.ahead(0, 1), -2);
        due("ahead(1, 0)", x.ahead(1, 0), -2);
        due("ahead(1, 2)", x.ahead(1, 2), 0);
        due("ahead(2, 1)", x.ahead(2, 1), -2);
    }

    private static void t2_aheadWithTheBridgeBehindTheFirst() {
        RoofRegatta x = Bench.told("regatta water 10 bridge 1 storey 1 rain 0 by 0;bend k long 10 left;house a pub left tiles 0 "
            + "storeys 3;house b pub left tiles 1 storeys 1");
        due("12 against 11", x.ahead(1, 0), 0);
        due("ahead(0, 1)", x.ahead(0, 1), -2);
    }

    // ---- promise 6

    private static void p06_noSuchHouse() {
        RoofRegatta x = four();
        for (int h : WRONG) {
            for (int what = 0; what < 8; what++) {
                BENCH.none("house(" + h + ", " + what + ")", x, x.house(h, what), 1);
            }
        }
    }

    private static void p06_asManyHousesAsTold() {
        RoofRegatta x = Bench.told(pubs(0, 0));
        BENCH.granted("house(1, 1)", x, x.house(1, 1), 0);
        BENCH.none("house(2, 1)", x, x.house(2, 1), 1);
    }

    private static void p06_noSuchWhat() {
        RoofRegatta x = four();
        for (int what : new int[] {-1, 8, 9, 32, Integer.MAX_VALUE, Integer.MIN_VALUE}) {
            BENCH.none("house(0, " + what + ")", x, x.house(0, what), 1);
        }
    }

    private static void p06_kinds() {
        RoofRegatta x = Bench.told(EVEN + ";house a pub left tiles 0 storeys 1;house b villa left tiles 0 storeys 1;"
            + "house c terrace left tiles 0 storeys 1;house d cottage left tiles 0 storeys 1");
        for (int h = 0; h < 4; h++) {
            BENCH.granted("house(" + h + ", 0)", x, x.house(h, 0), 3 - h);
        }
    }

    private static void p06_tilesAreAsToldForAVilla() {
        due("house(0, 1)", oneHouse("villa", "left tiles 49 storeys 6", "").house(0, 1), 49);
        due("house(0, 2)", oneHouse("villa", "left tiles 49 storeys 6", "").house(0, 2), 6);
    }

    private static void p06_itsLaneNow() {
        RoofRegatta x = Bench.told(EVEN + ";house a pub left tiles 0 storeys 1;house b pub right tiles 0 storeys 1");
        due("house(0, 3)", x.house(0, 3), 0);
        due("house(1, 3)", x.house(1, 3), 1);
        x.cross(0);
        x.cross(1);
        due("house(0, 3)", x.house(0, 3), 1);
        due("house(1, 3)", x.house(1, 3), 0);
    }

    private static void p06_lodgersAsBits() {
        RoofRegatta x = oneHouse("pub", "left tiles 0 storeys 5", crew(5, 0, 0));
        BENCH.granted("all five", x, x.house(0, 6), 31);
        for (int l = 4; l >= 0; l--) {
            x.ashore(l);
            BENCH.granted("without " + l, x, x.house(0, 6), (1 << l) - 1);
        }
    }

    private static void p06_lit() {
        RoofRegatta x = four();
        BENCH.granted("house(3, 7)", x, x.house(3, 7), 0);
        x.light(3, true);
        BENCH.granted("house(3, 7)", x, x.house(3, 7), 1);
        BENCH.granted("house(2, 7)", x, x.house(2, 7), 0);
        x.light(3, false);
        BENCH.granted("house(3, 7)", x, x.house(3, 7), 0);
    }

    // ---- promise 7

    private static void p07_noSuchLodger() {
        RoofRegatta x = oneHouse("pub", "left tiles 0 storeys 5", crew(4, 0, 0));
        for (int l : WRONG) {
            for (int what = 0; what < 4; what++) {
                BENCH.none("lodger(" + l + ", " + what + ")", x, x.lodger(l, what), 1);
            }
        }
        RoofRegatta five = oneHouse("pub", "left tiles 0 storeys 5", crew(5, 7, 0));
        BENCH.granted("the fifth", five, five.lodger(4, 0), 7);
        BENCH.none("a sixth", five, five.lodger(5, 0), 1);
    }

    private static void p07_noLodgerAtAll() {
        RoofRegatta x = four();
        BENCH.none("lodger(0, 0)", x, x.lodger(0, 0), 1);
    }

    private static void p07_noSuchWhat() {
        RoofRegatta x = oneHouse("pub", "left tiles 0 storeys 5", crew(1, 0, 0));
        for (int what : new int[] {-1, 4, 5, 32, Integer.MAX_VALUE, Integer.MIN_VALUE}) {
            BENCH.none("lodger(0, " + what + ")", x, x.lodger(0, what), 1);
        }
    }

    private static void p07_leastAndMost() {
        RoofRegatta x = oneHouse("pub", "left tiles 0 storeys 5", crew(1, 30, 9) + ";lodger z weighs 0 rows 0");
        BENCH.granted("lodger(0, 0)", x, x.lodger(0, 0), 30);
        BENCH.granted("lodger(0, 1)", x, x.lodger(0, 1), 9);
        BENCH.granted("lodger(1, 0)", x, x.lodger(1, 0), 0);
        BENCH.granted("lodger(1, 1)", x, x.lodger(1, 1), 0);
    }

    private static void p07_ashoreAndAboardNow() {
        RoofRegatta x = Bench.told(pubs(0, 0, 0, 0) + ";lodger p weighs 0 rows 0");
        BENCH.granted("lodger(0, 2)", x, x.lodger(0, 2), -2);
        for (int h = 0; h < 4; h++) {
            x.board(0, h);
            BENCH.granted("lodger(0, 2)", x, x.lodger(0, 2), h);
        }
        x.ashore(0);
        BENCH.granted("lodger(0, 2)", x, x.lodger(0, 2), -2);
    }

    private static void p07_friendsAsBits() {
        String lodgers = crew(5, 0, 0) + ";friend p q;friend r p;friend p s;friend t p";
        RoofRegatta x = oneHouse("pub", "left tiles 0 storeys 5", lodgers);
        BENCH.granted("of all others", x, x.lodger(0, 3), 30);
        for (int l = 1; l < 5; l++) {
            BENCH.granted("of one", x, x.lodger(l, 3), 1);
        }
        RoofRegatta none = oneHouse("pub", "left tiles 0 storeys 5", crew(2, 0, 0));
        BENCH.granted("of none", none, none.lodger(0, 3), 0);
    }

    // ---- promise 8

    private static void p08_noSuchBend() {
        RoofRegatta x = four();
        for (int k : WRONG) {
            BENCH.none("bend(" + k + ", 0)", x, x.bend(k, 0), 1);
            BENCH.none("bend(" + k + ", 1)", x, x.bend(k, 1), 1);
        }
        BENCH.none("bend(1, 0) of one", x, x.bend(1, 0), 1);
    }

    private static void p08_noBendAtAll() {
        RoofRegatta x = Bench.told(NO_BEND);
        BENCH.none("bend(0, 0)", x, x.bend(0, 0), 1);
    }

    private static void p08_noSuchWhat() {
        RoofRegatta x = four();
        for (int what : new int[] {-1, 2, 3, 32, Integer.MAX_VALUE, Integer.MIN_VALUE}) {
            BENCH.none("bend(0, " + what + ")", x, x.bend(0, what), 1);
        }
    }

    private static void p08_fourBends() {
        RoofRegatta x = Bench.told(EVEN + ";bend l long 1 right;bend m long 30 left;bend n long 2 right;house a pub left tiles 0 "
            + "storeys 1");
        int[] lengths = {10, 1, 30, 2};
        for (int k = 0; k < 4; k++) {
            BENCH.granted("bend(" + k + ", 0)", x, x.bend(k, 0), lengths[k]);
            BENCH.granted("bend(" + k + ", 1)", x, x.bend(k, 1), k % 2);
        }
        BENCH.none("bend(4, 0)", x, x.bend(4, 0), 1);
    }

    // ---- promises 9 to 12

    private static void p09_noSuchHouseOrBend() {
        RoofRegatta x = four();
        BENCH.granted("time(3, 0)", x, x.time(3, 0), 10);
        for (int i : WRONG) {
            BENCH.none("time(" + i + ", 0)", x, x.time(i, 0), 1);
            BENCH.none("time(0, " + i + ")", x, x.time(0, i), 1);
        }
        BENCH.none("time(0, 1)", x, x.time(0, 1), 1);
    }

    private static void p09_noBendAtAll() {
        RoofRegatta x = Bench.told(NO_BEND);
        BENCH.none("time(0, 0)", x, x.time(0, 0), 1);
    }

    private static void p10_noSuchHouseOrBend() {
        RoofRegatta x = four();
        BENCH.granted("soFar(3, 0)", x, x.soFar(3, 0), 10);
        for (int i : WRONG) {
            BENCH.none("soFar(" + i + ", 0)", x, x.soFar(i, 0), 1);
            BENCH.none("soFar(0, " + i + ")", x, x.soFar(0, i), 1);
        }
        BENCH.none("soFar(0, 1)", x, x.soFar(0, 1), 1);
    }

    private static void p10_noBendAtAll() {
        RoofRegatta x = Bench.told(NO_BEND);
        BENCH.none("soFar(0, 0)", x, x.soFar(0, 0), 1);
    }

    private static void p10_behindTheLastBendItIsTheTotal() {
        RoofRegatta x = Bench.told("regatta water 3 bridge 2 storey 9 rain 0 by 0;bend k long 7 left;bend m long 5 right;"
            + "house a cottage left tiles 4 storeys 5");
        // 98 by 3 upwards and 3 times 9, then 98 by 3 once more
        due("soFar(0, 0)", x.soFar(0, 0), 60);
        due("soFar(0, 1)", x.soFar(0, 1), 93);
        due("total(0)", x.total(0), 93);
    }

    private static void p11_noSuchHouse() {
        RoofRegatta x = four();
        BENCH.granted("total(3)", x, x.total(3), 10);
        for (int h : WRONG) {
            BENCH.none("total(" + h + ")", x, x.total(h), 1);
        }
    }

    private static void p11_withoutABend() {
        RoofRegatta x = Bench.told(NO_BEND);
        BENCH.granted("total(0)", x, x.total(0), 0);
    }

    private static void p12_noSuchHouse() {
        RoofRegatta x = four();
        BENCH.granted("loses(3)", x, x.loses(3), 0);
        for (int h : WRONG) {
            BENCH.none("loses(" + h + ")", x, x.loses(h), 1);
        }
    }

    private static void p12_noneWithoutABend() {
        RoofRegatta x = Bench.told(NO_BEND);
        BENCH.granted("loses(0)", x, x.loses(0), 0);
    }

    private static void p12_lowerAsHighAndHigherThanTheBridge() {
        RoofRegatta x = Bench.told("regatta water 10 bridge 3 storey 0 rain 0 by 0;bend k long 10 left;"
            + "house a pub left tiles 0 storeys 2;house b pub left tiles 0 storeys 3;house c pub left tiles 0 storeys 4;"
            + "house d pub left tiles 0 storeys 6");
        int[] lost = {0, 0, 1, 3};
        for (int h = 0; h < 4; h++) {
            BENCH.granted("loses(" + h + ")", x, x.loses(h), lost[h]);
        }
    }

    // ---- promises 13 to 16

    private static void p13_noSuchHouse() {
        RoofRegatta x = four();
        for (int h : WRONG) {
            BENCH.none("rank(" + h + ")", x, x.rank(h), 1);
        }
        BENCH.granted("rank(3), 0 first", x, x.rank(3), 0);
        BENCH.granted("rank(0), the last", x, x.rank(0), 3);
    }

    private static void p14_noSuchRank() {
        RoofRegatta x = four();
        for (int r : WRONG) {
            BENCH.none("ranked(" + r + ")", x, x.ranked(r), 1);
        }
        RoofRegatta two = Bench.told(pubs(1, 0));
        BENCH.none("ranked(2) of two", two, two.ranked(2), 1);
        BENCH.granted("ranked(1)", two, two.ranked(1), 0);
    }

    private static void p14_eachHouseHasOne() {
        RoofRegatta x = four();
        for (int h = 0; h < 4; h++) {
            BENCH.granted("ranked(rank(" + h + "))", x, x.ranked(x.rank(h)), h);
        }
    }

    private static void p15_noSuchHouse() {
        RoofRegatta x = four();
        for (int h : WRONG) {
            BENCH.none("out(" + h + ")", x, x.out(h), 1);
        }
        for (int h = 0; h < 4; h++) {
            BENCH.granted("out(" + h + ")", x, x.out(h), 0);
        }
    }

    private static void p15_outAndPutOut() {
        RoofRegatta x = four();
        x.light(0, true);
        BENCH.granted("lit", x, x.out(0), 1);
        x.light(0, false);
        BENCH.granted("put out", x, x.out(0), 0);
    }

    private static void p16_noSuchHouse() {
        RoofRegatta x = four();
        for (int h : WRONG) {
            BENCH.none("prize(" + h + ")", x, x.prize(h), 1);
        }
    }

    private static void p16_0withoutAPrize() {
        RoofRegatta x = four();
        BENCH.granted("prize(3)", x, x.prize(3), 0);
    }

    private static void p16_0behindTheLastPrize() {
        RoofRegatta x = Bench.told(pubs(3, 1, 2, 0) + ";prize 99;prize 1");
        int[] prizes = {0, 1, 0, 99};
        for (int h = 0; h < 4; h++) {
            BENCH.granted("prize(" + h + ")", x, x.prize(h), prizes[h]);
        }
    }

    private static void p16_morePrizesThanHouses() {
        RoofRegatta x = Bench.told(pubs(0) + ";prize 5;prize 6;prize 7;prize 8");
        BENCH.granted("prize(0)", x, x.prize(0), 5);
    }

    private static void p16_byRankThoughItIsOut() {
        RoofRegatta x = Bench.told(pubs(9, 0) + ";prize 5;prize 6");
        x.light(0, true);
        due("out(0)", x.out(0), 1);
        BENCH.granted("prize(0)", x, x.prize(0), 6);
    }

    // ---- promises 17 to 23

    private static void p17_noSuchHouse() {
        RoofRegatta x = four();
        for (int h : WRONG) {
            BENCH.none("ahead(" + h + ", 0)", x, x.ahead(h, 0), 1);
            BENCH.none("ahead(0, " + h + ")", x, x.ahead(0, h), 1);
            BENCH.none("ahead(" + h + ", " + h + ")", x, x.ahead(h, h), 1);
        }
    }

    private static void p17_unlike() {
        RoofRegatta x = four();
        for (int h = 0; h < 4; h++) {
            BENCH.none("ahead(" + h + ", " + h + ")", x, x.ahead(h, h), 1);
        }
    }

    private static void p17_behindNone() {
        RoofRegatta x = four();
        BENCH.granted("ahead(0, 1)", x, x.ahead(0, 1), -2);
        RoofRegatta still = Bench.told(pubs(9, 0).replace("bend k long 10 left;", ""));
        BENCH.granted("without a bend", still, still.ahead(1, 0), -2);
    }

    private static void p17_theFirstAndTheLastBend() {
        // a is two behind by the bridge and gains one on each of four bends: alike behind the third, ahead behind the fourth
        RoofRegatta x = Bench.told("regatta water 10 bridge 1 storey 3 rain 0 by 0;bend k long 10 left;bend l long 10 left;"
            + "bend m long 10 left;bend n long 10 left;house a pub left tiles 0 storeys 2;house b pub left tiles 1 storeys 1");
        due("soFar(0, 2)", x.soFar(0, 2), x.soFar(1, 2));
        BENCH.granted("ahead(0, 1)", x, x.ahead(0, 1), 3);
        BENCH.granted("ahead(1, 0)", x, x.ahead(1, 0), 0);
    }

    private static void p18_noSuchBend() {
        RoofRegatta x = four();
        for (int k : WRONG) {
            BENCH.none("leader(" + k + ")", x, x.leader(k), 1);
        }
        BENCH.none("leader(1) of one bend", x, x.leader(1), 1);
        RoofRegatta still = Bench.told(NO_BEND);
        BENCH.none("leader(0) without a bend", still, still.leader(0), 1);
    }

    private static void p18_theFirstSuch() {
        RoofRegatta x = Bench.told(pubs(1, 0, 0, 0));
        BENCH.granted("leader(0)", x, x.leader(0), 1);
    }

    private static void p18_theLastHouse() {
        RoofRegatta x = four();
        BENCH.granted("leader(0)", x, x.leader(0), 3);
    }

    private static void p18_theBridgeCounts() {
        RoofRegatta x = Bench.told("regatta water 10 bridge 1 storey 9 rain 0 by 0;bend k long 10 left;bend m long 10 left;"
            + "house a pub left tiles 0 storeys 2;house b pub left tiles 5 storeys 1");
        BENCH.granted("leader(0), 19 against 15", x, x.leader(0), 1);
        BENCH.granted("leader(1), 29 against 30", x, x.leader(1), 0);
    }

    private static void p18_aLitHouseThatIsOutMayLead() {
        RoofRegatta x = Bench.told(EVEN + ";bend m long 1 right;house a pub left tiles 0 storeys 1;"
            + "house b cottage left tiles 0 storeys 1");
        x.light(1, true);
        // 9 and 12 against 10 and 11
        due("out(1)", x.out(1), 1);
        BENCH.granted("leader(0)", x, x.leader(0), 1);
        BENCH.granted("leader(1)", x, x.leader(1), 0);
    }

    private static void p19_noneIsFull() {
        RoofRegatta x = four();
        BENCH.granted("full()", x, x.full(), 0);
    }

    private static void p19_allAreFull() {
        RoofRegatta x = Bench.told(pubs(0, 0, 0, 0) + ";lodger p weighs 0 rows 0;lodger q weighs 0 rows 0;lodger r weighs 0 rows 0;"
            + "lodger s weighs 0 rows 0;aboard p d;aboard q c;aboard r b;aboard s a");
        BENCH.granted("full()", x, x.full(), 15);
        x.ashore(0);
        BENCH.granted("full() NOW", x, x.full(), 7);
    }

    private static void p19_oneLessIsNotFull() {
        RoofRegatta x = Bench.told(EVEN + ";house a pub left tiles 0 storeys 3" + crew(2, 0, 0) + ";lodger z weighs 0 rows 0");
        BENCH.granted("full()", x, x.full(), 0);
        x.board(2, 0);
        BENCH.granted("full()", x, x.full(), 1);
    }

    private static void p19_sixStoreysAreNeverFull() {
        RoofRegatta x = Bench.told(EVEN + ";house a pub left tiles 0 storeys 6" + crew(5, 0, 0));
        BENCH.granted("full()", x, x.full(), 0);
    }

    private static void p20_noBendOneBendOneHouse() {
        RoofRegatta still = Bench.told(NO_BEND);
        BENCH.granted("no bend", still, still.passes(), 0);
        RoofRegatta one = four();
        BENCH.granted("one bend", one, one.passes(), 0);
        RoofRegatta alone = Bench.told(pubs(0).replace(";house", ";bend m long 30 left;house"));
        BENCH.granted("one house", alone, alone.passes(), 0);
    }

    private static void p20_fromAheadToBehindCounts() {
        RoofRegatta x = Bench.told("regatta water 10 bridge 1 storey 3 rain 0 by 0;bend k long 10 left;bend l long 20 left;"
            + "house a pub left tiles 0 storeys 2;house b pub left tiles 2 storeys 1");
        // 13 and 33 against 12 and 36
        BENCH.granted("passes()", x, x.passes(), 1);
    }

    private static void p20_fromAheadToAlikeAndFromAlikeToAheadDoNot() {
        RoofRegatta x = Bench.told("regatta water 10 bridge 1 storey 2 rain 0 by 0;bend k long 10 left;bend l long 10 left;"
            + "bend m long 10 left;house a pub left tiles 0 storeys 2;house b pub left tiles 1 storeys 1");
        // 12, 22, 32 against 11, 22, 33
        BENCH.granted("passes()", x, x.passes(), 0);
    }

    private static void p20_twoMayPassEachOtherAgain() {
        RoofRegatta x = Bench.told("regatta water 10 bridge 6 storey 0 rain 0 by 0;bend k long 10 left;bend l long 20 right;"
            + "bend m long 20 left;bend n long 20 right;house a cottage left tiles 0 storeys 1;house b pub left tiles 0 storeys 1"
            + ";house c cottage right tiles 0 storeys 1");
        // a: 10, 32, 52, 74; b: 10, 30, 50, 70; c: 12, 32, 54, 74
        BENCH.granted("alike at first and last", x, x.passes(), 0);
        RoofRegatta y = Bench.told("regatta water 10 bridge 6 storey 0 rain 0 by 0;bend k long 1 left;bend l long 30 right;"
            + "bend m long 30 left;bend n long 30 right;house a cottage left tiles 0 storeys 1;"
            + "house b cottage right tiles 0 storeys 1;lodger p weighs 0 rows 0");
        // a: 1, 33, 63, 95; b: 3, 33, 65, 95
        BENCH.granted("alike in between", y, y.passes(), 0);
        RoofRegatta z = Bench.told("regatta water 1 bridge 1 storey 15 rain 0 by 0;bend k long 1 left;bend l long 1 right;"
            + "bend m long 2 left;bend n long 2 right;house a cottage left tiles 0 storeys 2;house b cottage right tiles 0 storeys 1");
        // a: 25, 55, 75, 115; b: 30, 40, 80, 100
        BENCH.granted("three times", z, z.passes(), 3);
    }

    private static void p20_eachTwoCount() {
        RoofRegatta x = Bench.told("regatta water 10 bridge 1 storey 3 rain 0 by 0;bend k long 10 left;bend l long 30 left;"
            + "house a pub left tiles 0 storeys 2;house b pub left tiles 2 storeys 1;house c pub left tiles 1 storeys 1;"
            + "house d pub left tiles 2 storeys 1");
        // 13 and 43 against 12 and 48, 11 and 44, 12 and 48
        BENCH.granted("a passes three", x, x.passes(), 3);
    }

    private static void p21_noSuchBend() {
        RoofRegatta x = four();
        for (int k : WRONG) {
            BENCH.none("fastest(" + k + ")", x, x.fastest(k), 1);
        }
        BENCH.none("fastest(1) of one bend", x, x.fastest(1), 1);
        RoofRegatta still = Bench.told(NO_BEND);
        BENCH.none("fastest(0) without a bend", still, still.fastest(0), 1);
    }

    private static void p21_theFirstSuch() {
        RoofRegatta x = Bench.told(pubs(1, 0, 0, 0));
        BENCH.granted("fastest(0)", x, x.fastest(0), 1);
    }

    private static void p21_theLastHouse() {
        RoofRegatta x = four();
        BENCH.granted("fastest(0)", x, x.fastest(0), 3);
    }

    private static void p21_theBridgeDoesNotCountNorTheBendsBefore() {
        RoofRegatta x = Bench.told("regatta water 10 bridge 1 storey 30 rain 0 by 0;bend k long 10 left;bend l long 10 right;"
            + "house a pub left tiles 1 storeys 6;house b cottage right tiles 0 storeys 1");
        BENCH.granted("11 against 12", x, x.fastest(0), 0);
        BENCH.granted("11 against 10", x, x.fastest(1), 1);
    }

    private static void p22_noSuchHouse() {
        RoofRegatta x = four();
        for (int h : WRONG) {
            BENCH.none("storey(" + h + ")", x, x.storey(h), 1);
        }
    }

    private static void p22_0ifItHasOne() {
        RoofRegatta x = Bench.told("regatta water 10 bridge 1 storey 30 rain 0 by 0;bend k long 10 left;house a pub left tiles 0 "
            + "storeys 1");
        BENCH.granted("storey(0)", x, x.storey(0), 0);
    }

    private static void p22_lowerAsHighAndHigherThanTheBridge() {
        RoofRegatta x = Bench.told("regatta water 10 bridge 3 storey 30 rain 0 by 0;bend k long 10 left;"
            + "house a pub left tiles 0 storeys 2;house b pub left tiles 0 storeys 3;house c pub left tiles 0 storeys 4;"
            + "house d pub left tiles 0 storeys 6");
        int[] less = {0, 0, 30, 30};
        for (int h = 0; h < 4; h++) {
            BENCH.granted("storey(" + h + ")", x, x.storey(h), less[h]);
        }
    }

    private static void p22_0withoutABend() {
        RoofRegatta x = Bench.told(NO_BEND);
        BENCH.granted("storey(0)", x, x.storey(0), 0);
    }

    private static void p22_aStoreyThatTakesNothing() {
        RoofRegatta x = Bench.told("regatta water 10 bridge 1 storey 0 rain 0 by 0;bend k long 10 left;house a pub left tiles 0 "
            + "storeys 6");
        BENCH.granted("storey(0)", x, x.storey(0), 0);
    }

    private static void p22_aLitHouseGainsAsMuch() {
        RoofRegatta x = Bench.told("regatta water 10 bridge 1 storey 30 rain 0 by 0;bend k long 10 left;house a pub left tiles 0 "
            + "storeys 2");
        x.light(0, true);
        BENCH.granted("storey(0)", x, x.storey(0), 30);
    }

    private static void p23_noFriends() {
        RoofRegatta x = oneHouse("pub", "left tiles 0 storeys 5", crew(5, 0, 0));
        BENCH.granted("together()", x, x.together(), 0);
    }

    private static void p23_sixTwosAboardOneHouse() {
        RoofRegatta x = oneHouse("pub", "left tiles 0 storeys 5", crew(5, 0, 0)
            + ";friend p q;friend p r;friend p s;friend p t;friend q r;friend q s");
        BENCH.granted("together()", x, x.together(), 6);
        x.ashore(0);
        BENCH.granted("together() NOW", x, x.together(), 2);
    }

    private static void p23_bothAshoreAreNotTogether() {
        RoofRegatta x = oneHouse("pub", "left tiles 0 storeys 5", ";lodger p weighs 0 rows 0;lodger q weighs 0 rows 0;friend p q");
        BENCH.granted("both ashore", x, x.together(), 0);
        x.board(0, 0);
        BENCH.granted("one ashore", x, x.together(), 0);
        x.board(1, 0);
        BENCH.granted("both aboard", x, x.together(), 1);
    }

    private static void p23_aboardTheLastOfFourHouses() {
        RoofRegatta x = Bench.told(pubs(0, 0, 0) + ";house d pub left tiles 0 storeys 2;lodger p weighs 0 rows 0;"
            + "lodger q weighs 0 rows 0;friend p q;aboard p d;aboard q d");
        BENCH.granted("together()", x, x.together(), 1);
    }

    private static void p23_inUnlikeHousesTheyAreNot() {
        RoofRegatta x = Bench.told(pubs(0, 0) + ";lodger p weighs 0 rows 0;lodger q weighs 0 rows 0;friend p q;aboard p a;aboard q b");
        BENCH.granted("together()", x, x.together(), 0);
    }
}
