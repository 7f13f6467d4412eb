/** Promises 24 to 34, and what the document says of LOADS under III: each boundary in a case of its own. */
public final class EdgeLoadsTest {
    /** A pub takes 10, its tiles and what those aboard weigh for the bend, if nobody rows. */
    private static final String EVEN = "regatta water 10 bridge 6 storey 0 rain 0 by 0;bend k long 10 left";
    private static final String NO_BEND = "regatta water 1 bridge 1 storey 30 rain 0 by 0;house a cottage left tiles 5 storeys 6";
    private static final int[] WRONG = {-1, -2, 4, 5, 31, 32, 64, Integer.MAX_VALUE, Integer.MIN_VALUE};

    private static final Bench BENCH = new Bench();

    public static void main(String[] args) throws IllegalAccessException {
        Cases.run(EdgeLoadsTest.class, BENCH, 24, 34);
    }

    private static void due(String call, long got, long want) {
        BENCH.due(call, got, want);
    }

    /** Pubs a, b .. with so many storeys each, and so many tiles. */
    private static String pubs(int storeys, int... tiles) {
        StringBuilder text = new StringBuilder(EVEN);
        for (int h = 0; h < tiles.length; h++) {
            text.append(";house ").append((char) ('a' + h)).append(" pub left tiles ").append(tiles[h])
                .append(" storeys ").append(storeys);
        }
        return text.toString();
    }

    /** Lodgers p, q .. ashore who weigh so much and don't row. */
    private static String weighing(int... weighs) {
        StringBuilder text = new StringBuilder();
        for (int l = 0; l < weighs.length; l++) {
            text.append(";lodger ").append((char) ('p' + l)).append(" weighs ").append(weighs[l]).append(" rows 0");
        }
        return text.toString();
    }

    /** Lodgers p, q .. ashore who row so much and don't weigh. */
    private static String rowing(int... rows) {
        StringBuilder text = new StringBuilder();
        for (int l = 0; l < rows.length; l++) {
            text.append(";lodger ").append((char) ('p' + l)).append(" weighs 0 rows ").append(rows[l]);
        }
        return text.toString();
    }

    private static void load(RoofRegatta x, int h, int rank, int moves, int... places) {
        BENCH.granted("bestRank(" + h + ")", x, x.bestRank(h), rank);
        BENCH.granted("loadMoves(" + h + ")", x, x.loadMoves(h), moves);
        for (int l = 0; l < places.length; l++) {
            BENCH.granted("loadOf(" + h + ", " + l + ")", x, x.loadOf(h, l), places[l]);
        }
    }

    private static void friends(RoofRegatta x, int together, int... places) {
        BENCH.granted("friendly()", x, x.friendly(), together);
        for (int l = 0; l < places.length; l++) {
            BENCH.granted("friendlyOf(" + l + ")", x, x.friendlyOf(l), places[l]);
        }
    }

    // ---- TERMS III: BEST LOAD

    private static void t3_noMoreAboardThanStoreys() {
        load(Bench.told(pubs(1, 1, 2) + weighing(1, 1)), 1, 1, 0, -2, -2);
        load(Bench.told(pubs(2, 1, 2) + weighing(1, 1)), 1, 0, 2, 0, 0);
    }

    private static void t3_fewestElsewhereAheadOfTheFirst() {
        // ashore stands ahead of b, but q's weight alone is enough if he stays
        RoofRegatta x = Bench.told(pubs(2, 0, 0) + weighing(0, 1) + ";aboard p b;aboard q a");
        load(x, 1, 0, 0, 1, 0);
    }

    private static void t3_ofLikeOnesAshoreAheadOfAll() {
        load(Bench.told(pubs(1, 1, 2) + weighing(2, 2)), 1, 0, 1, -2, 0);
        RoofRegatta x = Bench.told(pubs(2, 1, 0) + weighing(2, 2) + ";aboard p b;aboard q b");
        // p ashore is not enough (12 against 11), p aboard a is (12 against 13), and stands ahead of q aboard a
        load(x, 1, 0, 1, 0, 1);
    }

    private static void t3_ofLikeOnesTheFirstHouse() {
        load(Bench.told(pubs(1, 1, 1, 2) + weighing(2)), 2, 1, 1, 0);
    }

    private static void t3_theFirstLodgersPlaceCountsMost() {
        RoofRegatta x = Bench.told(pubs(1, 0, 0, 1) + weighing(2, 2));
        // c is ahead of both: p aboard a and q aboard b stands ahead of the other way round
        load(x, 2, 0, 2, 0, 1);
    }

    private static void t3_likeTotalsAreEnoughForTheLesserNumber() {
        load(Bench.told(pubs(1, 2, 1) + weighing(1)), 0, 0, 1, 1);
        load(Bench.told(pubs(1, 1, 2) + weighing(1)), 1, 1, 0, -2);
    }

    private static void t3_aLitHouseThatIsFirstIsNotOut() {
        RoofRegatta x = Bench.told(pubs(1, 0, 2, 9) + weighing(2));
        x.light(1, true);
        due("rank(1), out", x.rank(1), 2);
        load(x, 1, 0, 1, 0);
    }

    private static void t3_anotherHouseMayBeMadeOut() {
        RoofRegatta x = Bench.told(pubs(1, 0, 0) + weighing(2));
        x.light(0, true);
        due("rank(1)", x.rank(1), 1);
        load(x, 1, 0, 1, 0);
        RoofRegatta like = Bench.told(pubs(1, 0, 0) + weighing(1));
        like.light(0, true);
        // 10 each: the first of like ones isn't out
        load(like, 1, 1, 0, -2);
    }

    private static void t3_fiveLodgersAndFourHouses() {
        RoofRegatta x = Bench.told(pubs(5, 0, 0, 0, 5) + weighing(5, 5, 5, 5, 5));
        // each of three must be 16 or more: two aboard each are six lodgers, so two houses are behind at most
        load(x, 3, 1, 4, -2, 0, 0, 1, 1);
    }

    // ---- promise 24

    private static void p24_noSuchHouse() {
        RoofRegatta x = Bench.told(pubs(1, 0, 1, 2, 3) + weighing(1));
        for (int h : WRONG) {
            BENCH.none("bestRank(" + h + ")", x, x.bestRank(h), 1);
        }
    }

    private static void p24_withoutLodgersAsNow() {
        RoofRegatta x = Bench.told(pubs(1, 2, 0, 1));
        for (int h = 0; h < 3; h++) {
            BENCH.granted("bestRank(" + h + ")", x, x.bestRank(h), x.rank(h));
            BENCH.granted("loadMoves(" + h + ")", x, x.loadMoves(h), 0);
        }
    }

    private static void p24_withoutABend() {
        RoofRegatta x = Bench.told(NO_BEND + ";house b pub left tiles 0 storeys 1" + weighing(1));
        load(x, 0, 0, 0, -2);
        load(x, 1, 1, 0, -2);
    }

    private static void p24_ofTheStateNow() {
        RoofRegatta x = Bench.told(pubs(1, 1, 2) + weighing(2));
        load(x, 1, 0, 1, 0);
        x.raise(20);
        // 6 each: he makes a 7
        load(x, 1, 0, 1, 0);
        x.light(0, true);
        // 6 less none, 7 less none
        load(x, 1, 0, 1, 0);
        x.board(0, 0);
        load(x, 1, 0, 0, 0);
        x.undo();
        load(x, 1, 0, 1, 0);
    }

    private static void p24_leavesNowAsItIs() {
        RoofRegatta x = Bench.told(pubs(1, 1, 2) + weighing(2));
        x.bestRank(1);
        due("lodger(0, 2)", x.lodger(0, 2), -2);
        due("rank(1)", x.rank(1), 1);
        due("size(11)", x.size(11), 0);
    }

    // ---- promises 25 and 26

    private static void p25_noSuchHouseOrLodger() {
        RoofRegatta x = Bench.told(pubs(1, 0, 1, 2, 3) + weighing(1, 1, 1, 1));
        for (int i : WRONG) {
            BENCH.none("loadOf(" + i + ", 0)", x, x.loadOf(i, 0), 1);
            BENCH.none("loadOf(0, " + i + ")", x, x.loadOf(0, i), 1);
        }
        RoofRegatta five = Bench.told(pubs(1, 0) + weighing(1, 1, 1, 1, 1));
        BENCH.granted("loadOf(0, 4)", five, five.loadOf(0, 4), -2);
        BENCH.none("loadOf(0, 5)", five, five.loadOf(0, 5), 1);
    }

    private static void p25_withoutLodgers() {
        RoofRegatta x = Bench.told(pubs(1, 0));
        BENCH.none("loadOf(0, 0)", x, x.loadOf(0, 0), 1);
    }

    private static void p25_ofEachHouseItsOwn() {
        RoofRegatta x = Bench.told(pubs(1, 1, 1) + weighing(2));
        BENCH.granted("loadOf(0, 0)", x, x.loadOf(0, 0), -2);
        BENCH.granted("loadOf(1, 0)", x, x.loadOf(1, 0), 0);
        BENCH.granted("loadOf(0, 0)", x, x.loadOf(0, 0), -2);
        BENCH.granted("friendlyOf(0)", x, x.friendlyOf(0), -2);
        BENCH.granted("loadOf(1, 0)", x, x.loadOf(1, 0), 0);
    }

    private static void p26_noSuchHouse() {
        RoofRegatta x = Bench.told(pubs(1, 0, 1, 2, 3) + weighing(1));
        for (int h : WRONG) {
            BENCH.none("loadMoves(" + h + ")", x, x.loadMoves(h), 1);
        }
    }

    private static void p26_askedByItself() {
        RoofRegatta x = Bench.told(pubs(1, 1, 2) + weighing(2));
        BENCH.granted("loadMoves(1)", x, x.loadMoves(1), 1);
        BENCH.granted("loadMoves(0)", x, x.loadMoves(0), 0);
        x = Bench.told(pubs(1, 1, 2) + weighing(2));
        BENCH.granted("loadOf(1, 0)", x, x.loadOf(1, 0), 0);
        x.board(0, 0);
        BENCH.granted("loadMoves(1)", x, x.loadMoves(1), 0);
    }

    private static void p26_noneIfItCannotBeBetter() {
        RoofRegatta x = Bench.told(pubs(5, 0, 50) + weighing(1, 1, 1, 1, 1) + ";aboard p b;aboard q b;aboard r a");
        load(x, 0, 0, 0, 1, 1, 0, -2, -2);
        load(x, 1, 1, 0, 1, 1, 0, -2, -2);
    }

    private static void p26_all() {
        RoofRegatta x = Bench.told(EVEN + ";house a pub left tiles 0 storeys 1;house b pub left tiles 0 storeys 5"
            + weighing(1, 1, 1, 1, 1) + ";aboard p b;aboard q b;aboard r b;aboard s b;aboard t b");
        // 11 against 10: one is aboard a, and nobody aboard b
        load(x, 1, 0, 5, -2, -2, -2, -2, 0);
    }

    // ---- promise 27

    private static void p27_noSuchHouse() {
        RoofRegatta x = Bench.told(pubs(1, 0, 1, 2, 3) + weighing(1));
        for (int h : WRONG) {
            BENCH.none("leastTotal(" + h + ")", x, x.leastTotal(h), 1);
        }
    }

    private static void p27_withNobodyAboard() {
        RoofRegatta x = Bench.told(pubs(2, 7) + weighing(1, 1) + ";aboard p a;aboard q a");
        BENCH.granted("leastTotal(0)", x, x.leastTotal(0), 17);
        due("total(0)", x.total(0), 19);
    }

    private static void p27_withoutLodgersOrABend() {
        RoofRegatta x = Bench.told(pubs(2, 7));
        BENCH.granted("leastTotal(0)", x, x.leastTotal(0), 17);
        RoofRegatta still = Bench.told(NO_BEND);
        BENCH.granted("leastTotal(0)", still, still.leastTotal(0), 0);
    }

    private static void p27_noMoreAboardThanStoreys() {
        int[] least = {14, 10, 8, 7, 6, 6};
        for (int storeys = 1; storeys <= 6; storeys++) {
            // 200 by 15, 20, 25, 30, 35
            RoofRegatta x = Bench.told(pubs(storeys, 10) + rowing(5, 5, 5, 5, 5));
            BENCH.granted("storeys " + storeys, x, x.leastTotal(0), least[storeys - 1]);
        }
    }

    private static void p27_lodgersComeFromOtherHouses() {
        RoofRegatta x = Bench.told(pubs(1, 10, 0) + rowing(9) + ";aboard p b");
        BENCH.granted("200 by 19", x, x.leastTotal(0), 11);
    }

    private static void p27_litAndInItsLaneNow() {
        RoofRegatta x = Bench.told(EVEN + ";house a cottage left tiles 10 storeys 1" + rowing(2));
        BENCH.granted("200 by 12", x, x.leastTotal(0), 17);
        x.cross(0);
        BENCH.granted("240 by 12", x, x.leastTotal(0), 20);
        x.light(0, true);
        BENCH.granted("a tenth less", x, x.leastTotal(0), 18);
    }

    // ---- promises 28 and 29

    private static void p28_withoutFriendsOrLodgers() {
        friends(Bench.told(pubs(5, 0) + weighing(1, 1)), 0, -2, -2);
        RoofRegatta x = Bench.told(pubs(5, 0));
        BENCH.granted("friendly()", x, x.friendly(), 0);
    }

    private static void p28_noMoreAboardThanStoreys() {
        String three = weighing(1, 1, 1) + ";friend p q;friend q r;friend r p";
        friends(Bench.told(pubs(1, 0, 0, 0) + three), 0, -2, -2, -2);
        friends(Bench.told(pubs(2, 0, 0, 0) + three), 1, -2, 0, 0);
        friends(Bench.told(pubs(3, 0, 0, 0) + three), 3, 0, 0, 0);
    }

    private static void p28_sixTwos() {
        RoofRegatta x = Bench.told(pubs(6, 0, 0) + weighing(1, 1, 1, 1, 1)
            + ";friend p q;friend p r;friend p s;friend p t;friend q r;friend q s");
        friends(x, 6, 0, 0, 0, 0, 0);
    }

    private static void p28_fourHouses() {
        RoofRegatta x = Bench.told(pubs(1, 0, 0, 0) + ";house d pub left tiles 0 storeys 2" + weighing(1, 1, 1) + ";friend p r");
        due("together()", x.together(), 0);
        friends(x, 1, 3, -2, 3);
    }

    private static void p28_twoHouses() {
        RoofRegatta x = Bench.told(pubs(2, 0, 0) + weighing(1, 1, 1, 1) + ";friend p s;friend q r");
        friends(x, 2, 0, 1, 1, 0);
    }

    private static void p29_noSuchLodger() {
        RoofRegatta x = Bench.told(pubs(1, 0) + weighing(1, 1, 1, 1));
        for (int l : WRONG) {
            BENCH.none("friendlyOf(" + l + ")", x, x.friendlyOf(l), 1);
        }
        RoofRegatta five = Bench.told(pubs(1, 0) + weighing(1, 1, 1, 1, 1));
        BENCH.granted("friendlyOf(4)", five, five.friendlyOf(4), -2);
        BENCH.none("friendlyOf(5)", five, five.friendlyOf(5), 1);
        RoofRegatta none = Bench.told(pubs(1, 0));
        BENCH.none("friendlyOf(0) without lodgers", none, none.friendlyOf(0), 1);
    }

    private static void p29_ofLikeOnesFewestElsewhere() {
        friends(Bench.told(pubs(2, 0, 0) + weighing(1, 1) + ";friend p q;aboard q b"), 1, 1, 1);
        friends(Bench.told(pubs(2, 0, 0) + weighing(1, 1) + ";friend p q;aboard p a;aboard q b"), 1, 0, 0);
        friends(Bench.told(pubs(2, 0, 0) + weighing(1, 1) + ";friend p q;aboard p b;aboard q b"), 1, 1, 1);
        friends(Bench.told(pubs(2, 0, 0) + weighing(1, 1, 1) + ";friend p q;aboard r a"), 1, 1, 1, 0);
    }

    private static void p29_whoHasNoFriendStays() {
        friends(Bench.told(pubs(3, 0, 0) + weighing(1, 1, 1) + ";friend p q;aboard r b"), 1, 0, 0, 1);
    }

    private static void p29_aFullHouseIsLeftByWhoHasNoFriend() {
        RoofRegatta x = Bench.told(pubs(2, 0) + weighing(1, 1, 1) + ";friend p q;aboard p a;aboard r a");
        friends(x, 1, 0, 0, -2);
    }

    private static void p29_ofTheStateNow() {
        RoofRegatta x = Bench.told(pubs(2, 0, 0) + weighing(1, 1) + ";friend p q");
        friends(x, 1, 0, 0);
        x.board(1, 1);
        friends(x, 1, 1, 1);
        x.undo();
        friends(x, 1, 0, 0);
    }

    // ---- promise 30

    private static void p30_noSuchHouse() {
        RoofRegatta x = Bench.told(pubs(1, 0, 1, 2, 3) + weighing(1));
        for (int h : WRONG) {
            BENCH.none("leastFor(" + h + ", 0)", x, x.leastFor(h, 0), 1);
            BENCH.none("leastFor(" + h + ", -1)", x, x.leastFor(h, -1), 1);
        }
    }

    private static void p30_totalOutOfBounds() {
        RoofRegatta x = Bench.told(pubs(1, 0) + weighing(1));
        for (int total : new int[] {-1, 30001, Integer.MAX_VALUE, Integer.MIN_VALUE}) {
            BENCH.none("leastFor(0, " + total + ")", x, x.leastFor(0, total), 2);
        }
        BENCH.granted("leastFor(0, 0)", x, x.leastFor(0, 0), -2);
        BENCH.granted("leastFor(0, 30000)", x, x.leastFor(0, 30000), 0);
    }

    private static void p30_nobodyIsEnough() {
        RoofRegatta x = Bench.told(pubs(1, 0) + rowing(9));
        BENCH.granted("as much", x, x.leastFor(0, 10), 0);
        BENCH.granted("one less", x, x.leastFor(0, 9), 1);
    }

    private static void p30_nobodyIsEnoughThoughOneIsAboard() {
        RoofRegatta x = Bench.told(pubs(1, 0) + weighing(5) + ";aboard p a");
        due("total(0)", x.total(0), 15);
        BENCH.granted("by whom alone aboard", x, x.leastFor(0, 10), 0);
    }

    private static void p30_asManyAsStoreysAtMost() {
        // 200 by 15, 20, 25
        for (int storeys = 1; storeys <= 3; storeys++) {
            RoofRegatta x = Bench.told(pubs(storeys, 10) + rowing(5, 5, 5));
            BENCH.granted("one", x, x.leastFor(0, 14), 1);
            BENCH.granted("two", x, x.leastFor(0, 10), storeys >= 2 ? 3 : -2);
            BENCH.granted("three", x, x.leastFor(0, 8), storeys >= 3 ? 7 : -2);
            BENCH.granted("none such", x, x.leastFor(0, 7), -2);
        }
    }

    private static void p30_fewestAheadOfTheLeastBits() {
        RoofRegatta x = Bench.told(pubs(3, 10) + rowing(5, 5, 9));
        // 200 by 19 is 11; by 20 it is 10
        BENCH.granted("the third alone", x, x.leastFor(0, 11), 4);
        BENCH.granted("the first two", x, x.leastFor(0, 10), 3);
        BENCH.granted("the first and the third", x, x.leastFor(0, 9), 5);
        BENCH.granted("all", x, x.leastFor(0, 7), 7);
    }

    private static void p30_ofLikeOnesTheLeastBits() {
        RoofRegatta x = Bench.told(pubs(5, 10) + rowing(0, 5, 5, 5, 5));
        BENCH.granted("one of four", x, x.leastFor(0, 14), 2);
        BENCH.granted("two of four", x, x.leastFor(0, 10), 6);
        BENCH.granted("all four", x, x.leastFor(0, 7), 30);
    }

    private static void p30_withoutABend() {
        RoofRegatta x = Bench.told(NO_BEND + weighing(1));
        BENCH.granted("leastFor(0, 0)", x, x.leastFor(0, 0), 0);
    }

    // ---- promise 31

    private static void p31_noSuchHouse() {
        RoofRegatta x = Bench.told(pubs(1, 0, 1, 2, 3) + weighing(1));
        for (int h : WRONG) {
            BENCH.none("toMove(" + h + ")", x, x.toMove(h), 1);
        }
    }

    private static void p31_withoutLodgersOrABend() {
        RoofRegatta x = Bench.told(pubs(1, 5));
        BENCH.granted("toMove(0)", x, x.toMove(0), -2);
        RoofRegatta still = Bench.told(NO_BEND + rowing(9));
        BENCH.granted("toMove(0)", still, still.toMove(0), -2);
    }

    private static void p31_alikeIsNotLess() {
        RoofRegatta x = Bench.told(pubs(2, 5) + rowing(0, 0) + ";aboard p a");
        BENCH.granted("toMove(0)", x, x.toMove(0), -2);
    }

    private static void p31_putAboardBesides() {
        RoofRegatta x = Bench.told(pubs(2, 10) + rowing(1, 5) + ";aboard p a");
        BENCH.granted("toMove(0)", x, x.toMove(0), 1);
    }

    private static void p31_putAshore() {
        RoofRegatta x = Bench.told(pubs(3, 10) + weighing(2, 3, 1) + ";aboard p a;aboard q a;aboard r a");
        BENCH.granted("toMove(0)", x, x.toMove(0), 1);
    }

    private static void p31_noRoom() {
        RoofRegatta x = Bench.told(pubs(1, 10) + rowing(0, 9) + ";aboard p a");
        BENCH.granted("toMove(0)", x, x.toMove(0), -2);
        RoofRegatta heavy = Bench.told(pubs(1, 10) + ";lodger p weighs 1 rows 0;lodger q weighs 0 rows 9;aboard p a");
        BENCH.granted("toMove(0), ashore though it is full", heavy, heavy.toMove(0), 0);
    }

    private static void p31_fromWherever() {
        RoofRegatta x = Bench.told(pubs(1, 10, 10) + rowing(9) + ";aboard p b");
        BENCH.granted("toMove(0)", x, x.toMove(0), 0);
        BENCH.granted("toMove(1)", x, x.toMove(1), -2);
    }

    private static void p31_theFirstSuch() {
        RoofRegatta x = Bench.told(pubs(5, 10) + rowing(1, 5, 5, 5));
        BENCH.granted("toMove(0)", x, x.toMove(0), 1);
    }

    private static void p31_theLast() {
        RoofRegatta x = Bench.told(pubs(5, 10) + rowing(1, 2, 3, 4, 5));
        BENCH.granted("toMove(0)", x, x.toMove(0), 4);
    }

    private static void p31_aTerracesSecond() {
        RoofRegatta x = Bench.told(pubs(2, 10).replace("pub", "terrace") + rowing(4, 0) + ";aboard p a");
        // 200 by 14, or by 18 with a second one who doesn't row
        due("total(0)", x.total(0), 15);
        BENCH.granted("toMove(0)", x, x.toMove(0), 1);
    }

    private static void p31_leavesNowAsItIs() {
        RoofRegatta x = Bench.told(pubs(2, 10) + rowing(9));
        x.toMove(0);
        due("lodger(0, 2)", x.lodger(0, 2), -2);
        due("size(11)", x.size(11), 0);
    }

    // ---- promise 32

    private static void p32_noSuchHouse() {
        RoofRegatta x = Bench.told(pubs(1, 0, 1, 2, 3));
        for (int h : WRONG) {
            BENCH.none("waterFor(" + h + ", 0)", x, x.waterFor(h, 0), 1);
            BENCH.none("waterFor(" + h + ", 30001)", x, x.waterFor(h, 30001), 1);
        }
    }

    private static void p32_totalOutOfBounds() {
        RoofRegatta x = Bench.told(pubs(1, 0));
        for (int total : new int[] {-1, 30001, Integer.MAX_VALUE, Integer.MIN_VALUE}) {
            BENCH.none("waterFor(0, " + total + ")", x, x.waterFor(0, total), 2);
        }
        BENCH.granted("waterFor(0, 0)", x, x.waterFor(0, 0), -2);
        BENCH.granted("waterFor(0, 30000)", x, x.waterFor(0, 30000), 1);
    }

    private static void p32_1isEnough() {
        RoofRegatta x = Bench.told(pubs(1, 0));
        BENCH.granted("100 by 1", x, x.waterFor(0, 100), 1);
        BENCH.granted("100 by 2", x, x.waterFor(0, 99), 2);
        BENCH.granted("as much", x, x.waterFor(0, 50), 2);
        BENCH.granted("one less", x, x.waterFor(0, 49), 3);
    }

    private static void p32_20isEnough() {
        RoofRegatta x = Bench.told(pubs(1, 0));
        BENCH.granted("100 by 17 is 6", x, x.waterFor(0, 6), 17);
        BENCH.granted("100 by 20 is 5", x, x.waterFor(0, 5), 20);
    }

    private static void p32_noneIsEnough() {
        RoofRegatta x = Bench.told(pubs(1, 0));
        BENCH.granted("4", x, x.waterFor(0, 4), -2);
    }

    private static void p32_withThoseAboardAndLit() {
        RoofRegatta x = Bench.told(pubs(1, 0) + rowing(9) + ";aboard p a");
        BENCH.granted("100 by 10", x, x.waterFor(0, 10), 1);
        x.light(0, true);
        BENCH.granted("10 less 1", x, x.waterFor(0, 9), 1);
        x.light(0, false);
        BENCH.granted("100 by 12", x, x.waterFor(0, 9), 3);
    }

    private static void p32_withoutABend() {
        RoofRegatta x = Bench.told(NO_BEND);
        BENCH.granted("waterFor(0, 0)", x, x.waterFor(0, 0), 1);
    }

    private static void p32_theBridgeStays() {
        RoofRegatta x = Bench.told("regatta water 10 bridge 1 storey 30 rain 0 by 0;bend k long 10 left;"
            + "house a pub left tiles 0 storeys 2");
        BENCH.granted("35", x, x.waterFor(0, 35), 20);
        BENCH.granted("34", x, x.waterFor(0, 34), -2);
    }

    private static void p32_leavesNowAsItIs() {
        RoofRegatta x = Bench.told(pubs(1, 0));
        x.waterFor(0, 5);
        due("size(0)", x.size(0), 10);
        due("total(0)", x.total(0), 10);
    }

    // ---- promise 33

    private static void p33_noSuchHouse() {
        RoofRegatta x = Bench.told(pubs(1, 0, 1, 2, 3) + weighing(1, 2));
        for (int h : WRONG) {
            BENCH.none("bestSwap(" + h + ")", x, x.bestSwap(h), 1);
        }
    }

    private static void p33_fewerThanTwoLodgers() {
        RoofRegatta x = Bench.told(pubs(1, 0));
        BENCH.granted("none", x, x.bestSwap(0), -2);
        RoofRegatta one = Bench.told(pubs(1, 0) + weighing(5) + ";aboard p a");
        BENCH.granted("one", one, one.bestSwap(0), -2);
    }

    private static void p33_inOnePlaceNothingChanges() {
        RoofRegatta x = Bench.told(pubs(2, 0) + weighing(5, 1));
        BENCH.granted("both ashore", x, x.bestSwap(0), -2);
        x.board(0, 0);
        x.board(1, 0);
        BENCH.granted("both aboard", x, x.bestSwap(0), -2);
    }

    private static void p33_alikeIsNotLess() {
        RoofRegatta x = Bench.told(pubs(1, 0, 0) + weighing(5, 5, 6) + ";aboard p a;aboard q b");
        BENCH.granted("bestSwap(0)", x, x.bestSwap(0), -2);
    }

    private static void p33_withOneAshore() {
        RoofRegatta x = Bench.told(pubs(1, 0) + weighing(5, 4) + ";aboard p a");
        BENCH.granted("bestSwap(0)", x, x.bestSwap(0), 1);
        RoofRegatta turned = Bench.told(pubs(1, 0) + weighing(4, 5) + ";aboard q a");
        BENCH.granted("the lesser first", turned, turned.bestSwap(0), 1);
    }

    private static void p33_withOneOfAnotherHouse() {
        RoofRegatta x = Bench.told(pubs(1, 0, 0) + weighing(5, 4) + ";aboard p a;aboard q b");
        BENCH.granted("bestSwap(0)", x, x.bestSwap(0), 1);
        BENCH.granted("bestSwap(1)", x, x.bestSwap(1), -2);
    }

    private static void p33_aFullHouseIsNoHindrance() {
        RoofRegatta x = Bench.told(pubs(1, 0, 0) + weighing(5, 4) + ";aboard p a;aboard q b");
        due("full()", x.full(), 3);
        BENCH.granted("bestSwap(0)", x, x.bestSwap(0), 1);
    }

    private static void p33_theFirstTwo() {
        RoofRegatta x = Bench.told(pubs(2, 0) + weighing(5, 5, 4, 4) + ";aboard p a;aboard q a");
        BENCH.granted("0 and 2", x, x.bestSwap(0), 2);
    }

    private static void p33_theBestTwo() {
        RoofRegatta x = Bench.told(pubs(2, 0) + weighing(5, 6, 4, 3) + ";aboard p a;aboard q a");
        BENCH.granted("1 and 3", x, x.bestSwap(0), 13);
    }

    private static void p33_theLastTwo() {
        RoofRegatta x = Bench.told(pubs(2, 0) + weighing(30, 30, 30, 3, 2) + ";aboard s a");
        BENCH.granted("3 and 4", x, x.bestSwap(0), 34);
    }

    private static void p33_othersAmongThemselves() {
        RoofRegatta x = Bench.told(pubs(1, 0, 0) + weighing(0, 9, 1) + ";aboard p a;aboard q b");
        BENCH.granted("q and r don't change a", x, x.bestSwap(0), -2);
    }

    // ---- promise 34

    private static void p34_noSuchHouse() {
        RoofRegatta x = Bench.told(pubs(1, 0, 1, 2, 3));
        for (int h : WRONG) {
            BENCH.none("bestLane(" + h + ")", x, x.bestLane(h), 1);
        }
    }

    private static void p34_leftAndRightWhateverItIsIn() {
        for (String side : new String[] {"left", "right"}) {
            RoofRegatta x = Bench.told(EVEN + ";house a cottage " + side + " tiles 0 storeys 1");
            BENCH.granted("inside left", x, x.bestLane(0), 0);
            RoofRegatta y = Bench.told(EVEN.replace("left", "right") + ";house a cottage " + side + " tiles 0 storeys 1");
            BENCH.granted("inside right", y, y.bestLane(0), 1);
            due("it stays in its lane", y.house(0, 3), side.equals("right") ? 1 : 0);
        }
    }

    private static void p34_0ifItIsAlike() {
        for (String side : new String[] {"left", "right"}) {
            RoofRegatta pub = Bench.told(EVEN.replace("left", "right") + ";house a pub " + side + " tiles 0 storeys 1");
            BENCH.granted("a pub", pub, pub.bestLane(0), 0);
            RoofRegatta still = Bench.told(NO_BEND.replace("left", side));
            BENCH.granted("without a bend", still, still.bestLane(0), 0);
            RoofRegatta both = Bench.told(EVEN + ";bend m long 5 right;house a cottage " + side + " tiles 0 storeys 1");
            BENCH.granted("as many left as right", both, both.bestLane(0), 0);
        }
    }

    private static void p34_0ifTheTwoMoreAreNothing() {
        RoofRegatta x = Bench.told("regatta water 20 bridge 6 storey 0 rain 0 by 0;bend k long 4 right;"
            + "house a cottage right tiles 0 storeys 6" + rowing(9, 9, 9, 9, 9)
            + ";aboard p a;aboard q a;aboard r a;aboard s a;aboard t a");
        // 40 by 65 and 60 by 65 are 1 each
        BENCH.granted("bestLane(0)", x, x.bestLane(0), 0);
    }

    private static void p34_byRoundingOneBendOutweighsAnother() {
        // left lane: 30 by 3 and 60 by 3; right lane: 50 by 3 and 40 by 3: 30 against 31
        RoofRegatta x = Bench.told("regatta water 3 bridge 6 storey 0 rain 0 by 0;bend k long 3 left;bend m long 4 right;"
            + "house a cottage right tiles 0 storeys 1");
        BENCH.granted("bestLane(0)", x, x.bestLane(0), 0);
        RoofRegatta y = Bench.told("regatta water 3 bridge 6 storey 0 rain 0 by 0;bend k long 3 right;bend m long 4 left;"
            + "house a cottage left tiles 0 storeys 1");
        BENCH.granted("bestLane(0)", y, y.bestLane(0), 1);
    }
}
