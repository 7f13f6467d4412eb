/** Promises 42 to 49, and what the document says of RAIN, RACES and TWO under III: each boundary in a case of its own. */
public final class EdgeRainTest {
    private static final int[] WRONG = {-1, -2, 4, 5, 31, 32, 64, Integer.MAX_VALUE, Integer.MIN_VALUE};
    private static final String[] BENDS = {";bend k long 1 left", ";bend l long 1 left", ";bend m long 1 left", ";bend n long 1 left"};

    private static final Bench BENCH = new Bench();

    public static void main(String[] args) throws IllegalAccessException {
        Cases.run(EdgeRainTest.class, BENCH, 42, 49);
    }

    private static void due(String call, long got, long want) {
        BENCH.due(call, got, want);
    }

    /** For each bend a takes 10, or 1 if it rains; b takes 1, whatever it does. */
    private static RoofRegatta showers(int bends, int rain, String more) {
        StringBuilder text = new StringBuilder("regatta water 1 bridge 1 storey 0 rain " + rain + " by 9");
        for (int k = 0; k < bends; k++) {
            text.append(BENDS[k]);
        }
        text.append(";house a pub left tiles 0 storeys 1;house b pub left tiles 0 storeys 1;lodger p weighs 0 rows 9;aboard p b");
        return Bench.told(text + more);
    }

    /** a alone, which takes 10, or 1 if it rains. */
    private static RoofRegatta alone(int bends, int rain) {
        StringBuilder text = new StringBuilder("regatta water 1 bridge 1 storey 0 rain " + rain + " by 9");
        for (int k = 0; k < bends; k++) {
            text.append(BENDS[k]);
        }
        return Bench.told(text + ";house a pub left tiles 0 storeys 1");
    }

    /** Each ends the TROUBLE ahead of it. */
    private static void odds(RoofRegatta x, int h, int r, long upper, long lower) {
        x.total(-1);
        BENCH.granted("odds(" + h + ", " + r + ", false)", x, x.odds(h, r, false), upper);
        BENCH.granted("odds(" + h + ", " + r + ", true)", x, x.odds(h, r, true), lower);
    }

    private static void mean(RoofRegatta x, int h, long upper, long lower) {
        x.total(-1);
        BENCH.granted("mean(" + h + ", false)", x, x.mean(h, false), upper);
        BENCH.granted("mean(" + h + ", true)", x, x.mean(h, true), lower);
    }

    private static void hopes(RoofRegatta x, int h, long upper, long lower) {
        x.total(-1);
        BENCH.granted("hopes(" + h + ", false)", x, x.hopes(h, false), upper);
        BENCH.granted("hopes(" + h + ", true)", x, x.hopes(h, true), lower);
    }

    // ---- TERMS III: RAIN, RACES

    private static void t3_rainIsForAllHouses() {
        RoofRegatta x = Bench.told("regatta water 1 bridge 1 storey 0 rain 100 by 4;bend k long 1 left;"
            + "house a pub left tiles 0 storeys 1;house b cottage left tiles 10 storeys 1;house c terrace right tiles 0 storeys 1;"
            + "house d villa left tiles 3 storeys 1");
        // 10, 20, 30, 11 by 5
        int[] totals = {2, 4, 6, 3};
        for (int h = 0; h < 4; h++) {
            mean(x, h, totals[h], 1);
        }
    }

    private static void t3_rainIsMoreWaterThanMayBeRaised() {
        RoofRegatta x = alone(1, 100);
        x.raise(20);
        mean(x, 0, 1, 1);
        RoofRegatta y = Bench.told("regatta water 20 bridge 1 storey 0 rain 100 by 9;bend k long 29 left;"
            + "house a pub left tiles 0 storeys 1");
        // 290 by 29
        mean(y, 0, 10, 1);
    }

    private static void t3_onEachBendByItself() {
        // 20, 11, 11, 2 by a quarter each
        mean(alone(2, 50), 0, 11, 1);
        // behind two bends a is first only if it rains on both
        odds(showers(2, 50, ""), 0, 0, 1, 4);
    }

    private static void t3_aLitHouseInRain() {
        RoofRegatta x = Bench.told("regatta water 1 bridge 1 storey 0 rain 50 by 9;bend k long 10 left;"
            + "house a pub left tiles 0 storeys 1;house b pub left tiles 0 storeys 1;lodger p weighs 0 rows 1;aboard p a");
        x.light(1, true);
        // dry 50 against 90, b is out; wet 10 against 9, b is first
        odds(x, 1, 0, 1, 2);
        odds(x, 1, 1, 1, 2);
    }

    private static void t3_theSeedBecomesNewForEachDraw() {
        // 0 becomes 74: it rains by 75 in a hundred, not by 74
        due("rain 74", alone(1, 74).record(0, 1), 10);
        due("rain 75", alone(1, 75).record(0, 1), 1);
        // then 5624, 28652, 51790: 24, 52, 90
        due("rain 24 in the second race", alone(1, 24).record(0, 2), 10);
        due("rain 25 in the second race", alone(1, 25).record(0, 2), 1);
    }

    private static void t3_aDrawForEachBendOfEachRace() {
        // by rain 53 of 74, 24, 52, 90 the middle ones are wet: 74 and 24 are the first race's, 52 and 90 the second's
        due("two bends, one race", alone(2, 53).record(0, 1), 11);
        due("two bends, two races", alone(2, 53).record(0, 2), 11);
        due("four bends", alone(4, 53).record(0, 1), 22);
        due("four bends, rain 91", alone(4, 91).record(0, 1), 4);
        due("four bends, rain 90", alone(4, 90).record(0, 1), 13);
    }

    private static void t3_theSeedWrapsAround() {
        // 875 becomes 65699, less 65537: 162
        due("rain 62", alone(1, 62).record(875, 1), 10);
        due("rain 63", alone(1, 63).record(875, 1), 1);
        // 65535 becomes 4915199, less 74 times 65537: 65461
        due("rain 61", alone(1, 61).record(65535, 1), 10);
        due("rain 62", alone(1, 62).record(65535, 1), 1);
    }

    private static void t3_theGreatestSeedBecomesItself() {
        // 36 always
        due("rain 36", alone(1, 36).record(65536, 60), 10);
        due("rain 37", alone(1, 37).record(65536, 60), 1);
    }

    private static void t3_rain0and100() {
        for (int seed : new int[] {0, 1, 74, 65535, 65536}) {
            due("never", alone(4, 0).record(seed, 60), 40);
            due("always", alone(4, 100).record(seed, 1), 4);
        }
    }

    // ---- promise 42

    private static void p42_noSuchHouseOrRank() {
        RoofRegatta x = Bench.told("regatta water 1 bridge 1 storey 0 rain 50 by 9;house a pub left tiles 0 storeys 1;"
            + "house b pub left tiles 0 storeys 1;house c pub left tiles 0 storeys 1;house d pub left tiles 0 storeys 1");
        for (int i : WRONG) {
            BENCH.none("odds(" + i + ", 0, false)", x, x.odds(i, 0, false), 1);
            BENCH.none("odds(" + i + ", 0, true)", x, x.odds(i, 0, true), 1);
            BENCH.none("odds(0, " + i + ", false)", x, x.odds(0, i, false), 1);
            BENCH.none("odds(0, " + i + ", true)", x, x.odds(0, i, true), 1);
        }
        RoofRegatta two = showers(1, 50, "");
        BENCH.none("odds(0, 2, false) of two", two, two.odds(0, 2, false), 1);
        BENCH.none("odds(2, 0, false) of two", two, two.odds(2, 0, false), 1);
    }

    private static void p42_neverIs0by1() {
        odds(showers(1, 0, ""), 0, 0, 0, 1);
        odds(showers(4, 0, ""), 0, 0, 0, 1);
    }

    private static void p42_surelyIs1by1() {
        odds(showers(1, 0, ""), 1, 0, 1, 1);
        odds(showers(1, 100, ""), 0, 0, 1, 1);
        odds(showers(4, 100, ""), 0, 0, 1, 1);
    }

    private static void p42_withoutABend() {
        odds(showers(0, 50, ""), 0, 0, 1, 1);
        odds(showers(0, 50, ""), 1, 0, 0, 1);
        odds(showers(0, 50, ""), 1, 1, 1, 1);
    }

    private static void p42_inLowestTerms() {
        odds(showers(1, 50, ""), 0, 0, 1, 2);
        odds(showers(1, 20, ""), 0, 0, 1, 5);
        odds(showers(1, 2, ""), 0, 0, 1, 50);
        odds(showers(1, 98, ""), 0, 0, 49, 50);
        odds(showers(1, 5, ""), 0, 0, 1, 20);
        odds(showers(1, 75, ""), 0, 0, 3, 4);
        odds(showers(1, 99, ""), 0, 0, 99, 100);
    }

    private static void p42_theGreatestLowerWhole() {
        odds(showers(4, 1, ""), 0, 0, 1, 100000000);
        odds(showers(4, 1, ""), 0, 1, 99999999, 100000000);
        odds(showers(4, 99, ""), 0, 0, 96059601, 100000000);
    }

    private static void p42_leavesNowAsItIs() {
        RoofRegatta x = showers(1, 100, "");
        x.odds(0, 0, true);
        due("total(0)", x.total(0), 10);
        due("rank(0)", x.rank(0), 1);
        due("size(0)", x.size(0), 1);
    }

    // ---- promise 43

    private static void p43_noSuchHouse() {
        RoofRegatta x = showers(1, 50, "");
        for (int h : WRONG) {
            BENCH.none("mean(" + h + ", false)", x, x.mean(h, false), 1);
            BENCH.none("mean(" + h + ", true)", x, x.mean(h, true), 1);
        }
        BENCH.none("mean(2, true) of two", x, x.mean(2, true), 1);
    }

    private static void p43_withoutABendIs0by1() {
        mean(alone(0, 50), 0, 0, 1);
    }

    private static void p43_aWholeIsBy1() {
        mean(alone(4, 0), 0, 40, 1);
        mean(alone(4, 100), 0, 4, 1);
        mean(alone(4, 50), 0, 22, 1);
        mean(showers(4, 37, ""), 1, 4, 1);
    }

    private static void p43_inLowestTerms() {
        // 10 less 9 hundredths each
        mean(alone(1, 1), 0, 991, 100);
        mean(alone(4, 1), 0, 991, 25);
    }

    private static void p43_theBridgeIsInIt() {
        RoofRegatta x = Bench.told("regatta water 1 bridge 1 storey 30 rain 50 by 9;bend k long 1 left;"
            + "house a pub left tiles 0 storeys 6");
        mean(x, 0, 311, 2);
    }

    private static void p43_theGreatest() {
        RoofRegatta x = Bench.told("regatta water 1 bridge 1 storey 30 rain 1 by 0;bend k long 30 left;bend l long 30 left;"
            + "bend m long 30 left;bend n long 30 left;house a cottage right tiles 50 storeys 6;lodger p weighs 30 rows 0;"
            + "lodger q weighs 30 rows 0;lodger r weighs 30 rows 0;lodger s weighs 30 rows 0;lodger t weighs 30 rows 0;"
            + "aboard p a;aboard q a;aboard r a;aboard s a;aboard t a");
        mean(x, 0, 27030, 1);
    }

    private static void p43_ofTheStateNow() {
        RoofRegatta x = alone(1, 50);
        mean(x, 0, 11, 2);
        x.raise(10);
        mean(x, 0, 1, 1);
        x.undo();
        x.light(0, true);
        // 9 and 1
        mean(x, 0, 5, 1);
    }

    // ---- promise 44

    private static void p44_noSuchHouse() {
        RoofRegatta x = showers(1, 50, ";prize 5");
        for (int h : WRONG) {
            BENCH.none("hopes(" + h + ", false)", x, x.hopes(h, false), 1);
            BENCH.none("hopes(" + h + ", true)", x, x.hopes(h, true), 1);
        }
        BENCH.none("hopes(2, true) of two", x, x.hopes(2, true), 1);
    }

    private static void p44_withoutAPrizeIs0by1() {
        hopes(showers(2, 50, ""), 0, 0, 1);
        hopes(showers(2, 50, ";prize 0;prize 0"), 0, 0, 1);
    }

    private static void p44_behindTheLastPrizeThereIsNone() {
        hopes(showers(1, 25, ";prize 99"), 0, 99, 4);
        hopes(showers(1, 25, ";prize 99"), 1, 297, 4);
    }

    private static void p44_aWholeIsBy1() {
        hopes(showers(1, 50, ";prize 99;prize 1"), 0, 50, 1);
        hopes(showers(0, 50, ";prize 99;prize 1"), 1, 1, 1);
    }

    private static void p44_inLowestTerms() {
        hopes(showers(1, 50, ";prize 10;prize 5"), 0, 15, 2);
        hopes(showers(4, 1, ";prize 1"), 0, 1, 100000000);
    }

    // ---- promise 45

    private static void p45_noSuchHouse() {
        RoofRegatta x = showers(1, 50, "");
        for (int h : WRONG) {
            BENCH.none("wins(" + h + ", 0, 1)", x, x.wins(h, 0, 1), 1);
            BENCH.none("wins(" + h + ", -1, 61)", x, x.wins(h, -1, 61), 1);
        }
        BENCH.none("wins(2, 0, 1) of two", x, x.wins(2, 0, 1), 1);
    }

    private static void p45_seedOutOfBounds() {
        RoofRegatta x = showers(1, 50, "");
        for (int seed : new int[] {-1, 65537, Integer.MAX_VALUE, Integer.MIN_VALUE}) {
            BENCH.none("wins(0, " + seed + ", 1)", x, x.wins(0, seed, 1), 2);
            BENCH.none("wins(0, " + seed + ", 0)", x, x.wins(0, seed, 0), 2);
        }
        BENCH.granted("wins(0, 0, 1)", x, x.wins(0, 0, 1), 0);
        BENCH.granted("wins(0, 65536, 1)", x, x.wins(0, 65536, 1), 1);
    }

    private static void p45_nOutOfBounds() {
        RoofRegatta x = showers(1, 50, "");
        for (int n : new int[] {-1, 61, Integer.MAX_VALUE, Integer.MIN_VALUE}) {
            BENCH.none("wins(0, 0, " + n + ")", x, x.wins(0, 0, n), 2);
        }
    }

    private static void p45_noRaceAtAll() {
        RoofRegatta x = showers(1, 100, "");
        BENCH.granted("wins(0, 0, 0)", x, x.wins(0, 0, 0), 0);
        BENCH.granted("wins(1, 65536, 0)", x, x.wins(1, 65536, 0), 0);
    }

    private static void p45_sixtyRaces() {
        RoofRegatta wet = showers(1, 37, "");
        BENCH.granted("it always rains", wet, wet.wins(0, 65536, 60), 60);
        BENCH.granted("it always rains", wet, wet.wins(1, 65536, 60), 0);
        RoofRegatta dry = showers(1, 36, "");
        BENCH.granted("it never rains", dry, dry.wins(0, 65536, 60), 0);
        BENCH.granted("it never rains", dry, dry.wins(1, 65536, 60), 60);
    }

    private static void p45_oneAndMoreRaces() {
        // 74, 24, 52, 90 from 0
        RoofRegatta x = showers(1, 53, "");
        int[] won = {0, 0, 1, 2, 2};
        for (int n = 0; n < won.length; n++) {
            BENCH.granted("wins(0, 0, " + n + ")", x, x.wins(0, 0, n), won[n]);
            BENCH.granted("wins(1, 0, " + n + ")", x, x.wins(1, 0, n), n - won[n]);
        }
        RoofRegatta two = showers(2, 53, "");
        BENCH.granted("two bends, never both wet", two, two.wins(0, 0, 2), 0);
        BENCH.granted("two bends, 24 and 52", two, two.wins(0, 74, 1), 1);
    }

    private static void p45_withoutABend() {
        RoofRegatta x = showers(0, 100, "");
        BENCH.granted("like totals: the first", x, x.wins(0, 9, 60), 60);
        BENCH.granted("like totals: the second", x, x.wins(1, 9, 60), 0);
    }

    private static void p45_aRaceDoesNotChangeTheNext() {
        RoofRegatta x = showers(1, 53, "");
        due("first", x.wins(0, 0, 4), 2);
        due("again", x.wins(0, 0, 4), 2);
        due("total(0), dry", x.total(0), 10);
    }

    // ---- promise 46

    private static void p46_seedOutOfBounds() {
        RoofRegatta x = showers(1, 50, "");
        for (int seed : new int[] {-1, 65537, Integer.MAX_VALUE, Integer.MIN_VALUE}) {
            BENCH.none("record(" + seed + ", 1)", x, x.record(seed, 1), 2);
        }
        BENCH.granted("record(0, 1)", x, x.record(0, 1), 1);
        BENCH.granted("record(65536, 1)", x, x.record(65536, 1), 1);
    }

    private static void p46_nOutOfBounds() {
        RoofRegatta x = alone(1, 37);
        for (int n : new int[] {-1, 0, 61, Integer.MAX_VALUE, Integer.MIN_VALUE}) {
            BENCH.none("record(0, " + n + ")", x, x.record(0, n), 2);
        }
        BENCH.granted("record(0, 1)", x, x.record(0, 1), 10);
        BENCH.granted("record(65536, 60)", x, x.record(65536, 60), 1);
    }

    private static void p46_ofAnyHouse() {
        RoofRegatta x = showers(1, 0, "");
        BENCH.granted("the second has the least", x, x.record(0, 1), 1);
        x.board(0, 0);
        BENCH.granted("the first has", x, x.record(0, 1), 1);
        x.ashore(0);
        BENCH.granted("both alike", x, x.record(0, 1), 10);
        x.light(1, true);
        BENCH.granted("a lit one", x, x.record(0, 1), 9);
    }

    private static void p46_ofAnyRace() {
        // 74, 24, 52, 90 from 0
        RoofRegatta x = alone(1, 25);
        int[] least = {10, 1, 1, 1};
        for (int n = 1; n <= least.length; n++) {
            BENCH.granted("record(0, " + n + ")", x, x.record(0, n), least[n - 1]);
        }
    }

    private static void p46_withoutABend() {
        RoofRegatta x = alone(0, 50);
        BENCH.granted("record(0, 60)", x, x.record(0, 60), 0);
    }

    // ---- promises 47 to 49

    private static void p47_spiteOutOfBounds() {
        RoofRegatta x = alone(0, 0);
        for (int spite : new int[] {-1, 10, 100, Integer.MAX_VALUE, Integer.MIN_VALUE}) {
            for (int i = 0; i < 8; i++) {
                BENCH.refused("weir(" + spite + ")", x, x.weir(spite, i > 3, i % 4 > 1, i % 2 > 0), -100, 2);
            }
        }
    }

    private static void p47_bothLetPass() {
        RoofRegatta x = alone(0, 0);
        for (int spite = 0; spite <= 9; spite++) {
            BENCH.granted("the one", x, x.weir(spite, false, false, false), 3);
            BENCH.granted("the other one", x, x.weir(spite, false, false, true), 3);
        }
    }

    private static void p47_oneBlocksAlone() {
        RoofRegatta x = alone(0, 0);
        for (int spite = 0; spite <= 9; spite++) {
            BENCH.granted("the one, who blocks", x, x.weir(spite, true, false, false), 5);
            BENCH.granted("the other one, who lets pass", x, x.weir(spite, true, false, true), 1);
            BENCH.granted("the one, who lets pass", x, x.weir(spite, false, true, false), 1);
            BENCH.granted("the other one, who blocks", x, x.weir(spite, false, true, true), 5);
        }
    }

    private static void p47_bothBlock() {
        RoofRegatta x = alone(0, 0);
        for (int spite = 0; spite <= 9; spite++) {
            BENCH.granted("the one", x, x.weir(spite, true, true, false), -spite);
            BENCH.granted("the other one", x, x.weir(spite, true, true, true), -spite);
        }
    }

    private static void p48_spiteOutOfBounds() {
        RoofRegatta x = alone(0, 0);
        for (int spite : new int[] {-1, 10, Integer.MAX_VALUE, Integer.MIN_VALUE}) {
            BENCH.none("rests(" + spite + ")", x, x.rests(spite), 2);
        }
    }

    private static void p48_ofLeastAndMostSpite() {
        RoofRegatta x = alone(0, 0);
        for (int spite = 0; spite <= 9; spite++) {
            BENCH.granted("rests(" + spite + ")", x, x.rests(spite), 2);
        }
    }

    private static void p49_spiteOutOfBounds() {
        RoofRegatta x = alone(0, 0);
        for (int spite : new int[] {-1, 10, Integer.MAX_VALUE, Integer.MIN_VALUE}) {
            BENCH.none("rest(" + spite + ")", x, x.rest(spite), 2);
        }
    }

    private static void p49_theOnesLettingPassFirst() {
        RoofRegatta x = alone(0, 0);
        for (int spite = 0; spite <= 9; spite++) {
            BENCH.granted("rest(" + spite + ")", x, x.rest(spite), 1);
        }
    }
}
