import java.lang.reflect.Method;

/** Each promise by hand: ordinary answers, the edges that the document names, wrong inputs. */
public final class PromiseTest {
    private static final String RIVER = "regatta water 10 bridge 2 storey 5 rain 50 by 5;bend kirk long 10 left;"
        + "bend weir long 6 right;house ash cottage left tiles 10 storeys 2;house bay terrace right tiles 20 storeys 3;"
        + "house cot villa left tiles 31 storeys 1;house inn pub right tiles 5 storeys 2;lodger ann weighs 5 rows 2;"
        + "lodger bob weighs 10 rows 5;lodger cat weighs 1 rows 0;lodger dot weighs 8 rows 3;aboard ann bay;"
        + "aboard bob bay;aboard dot ash;friend ann cat;friend bob ann;friend cat dot;prize 50;prize 20;prize 5;"
        + "saw ash bay kirk;saw inn cot weir";
    private static final String ALIKE = "regatta water 10 bridge 6 storey 0 rain 0 by 0;bend k long 10 left;"
        + "house a cottage left tiles 0 storeys 1;house b cottage left tiles 1 storeys 1;"
        + "house c cottage left tiles 0 storeys 1";
    private static final String SHOWERS = "regatta water 1 bridge 1 storey 0 rain 25 by 1;bend k long 10 left;"
        + "house a cottage left tiles 0 storeys 1;house b cottage left tiles 0 storeys 1;"
        + "lodger l weighs 5 rows 1;aboard l b;prize 10;prize 4";
    private static final int[] WRONG = {-1, 4, 32, Integer.MAX_VALUE, Integer.MIN_VALUE};

    private static final Bench BENCH = new Bench();

    private static void due(String call, long got, long want) {
        BENCH.due(call, got, want);
    }

    public static void main(String[] args) {
        newObject();
        wrongNumbers();
        told();
        times();
        ranks();
        positions();
        bestLoads();
        friendlyLoads();
        gains();
        fires();
        rain();
        races();
        weir();
        lodgersAct();
        otherActs();
        undoing();
        images();
        ashoreByNumber();
        sizes();
        troubleEnds();
        BENCH.end();
    }

    private static void newObject() {
        RoofRegatta x = new RoofRegatta();
        due("trouble()", x.trouble(), 0);
        due("fault()", x.fault(), 0);
        due("where()", x.where(), -1);
        for (int what = 0; what < 14; what++) {
            due("size(" + what + ")", x.size(what), 0);
        }
        int[] none = {x.full(), x.passes(), x.together(), x.friendly(), x.fires(), x.fireAt(0), x.could(), x.surely(),
            x.ask(), x.askLeaves(), x.judge(), x.record(1, 1), x.rests(1), x.rest(1), x.image(), x.house(0, 0),
            x.lodger(0, 0), x.bend(0, 0), x.loses(0), x.out(0), x.prize(0), x.storey(0), x.loadMoves(0)};
        for (int answer : none) {
            due("without a regatta", answer, -1);
        }
        BENCH.none("record(-1, 1)", x, x.record(-1, 1), 1);
        BENCH.none("rests(10)", x, x.rests(10), 1);
        BENCH.refused("weir(10)", x, x.weir(10, true, true, true), -100, 1);
        BENCH.refused("raise(0)", x, x.raise(0), 1);
        BENCH.refused("undo()", x, x.undo(), 6);
        BENCH.refused("back(0)", x, x.back(0), 1);
    }

    private static void wrongNumbers() {
        RoofRegatta x = Bench.told(RIVER);
        for (int i : WRONG) {
            int[] none = {x.house(i, 0), x.lodger(i, 0), x.bend(i, 0), x.time(i, 0), x.time(0, i), x.soFar(i, 0),
                x.soFar(0, i), x.total(i), x.loses(i), x.rank(i), x.ranked(i), x.out(i), x.prize(i), x.ahead(i, 0),
                x.ahead(0, i), x.leader(i), x.fastest(i), x.storey(i), x.bestRank(i), x.loadOf(i, 0), x.loadOf(0, i),
                x.loadMoves(i), x.leastTotal(i), x.friendlyOf(i), x.leastFor(i, 0), x.toMove(i), x.waterFor(i, 0),
                x.bestSwap(i), x.bestLane(i), x.wins(i, 0, 0), x.board(i, 0), x.board(0, i), x.cross(i),
                x.bend(0, i), x.lodger(0, i)};
            for (int k = 0; k < none.length; k++) {
                due("call " + k + " with " + i, none[k], -1);
            }
            due("odds of house", x.odds(i, 0, true), -1);
            due("odds of rank", x.odds(0, i, true), -1);
            due("mean", x.mean(i, true), -1);
            due("hopes", x.hopes(i, true), -1);
            due("trouble()", x.trouble(), 1);
            BENCH.refused("ashore", x, x.ashore(i), 1);
            BENCH.refused("light", x, x.light(i, true), 1);
            BENCH.refused("back", x, x.back(i), 1);
        }
        BENCH.none("fireAt(16)", x, x.fireAt(16), 1);
        BENCH.none("fireAt(-1)", x, x.fireAt(-1), 1);
        BENCH.none("house(0, 8)", x, x.house(0, 8), 1);
        BENCH.none("house(0, -1)", x, x.house(0, -1), 1);
        BENCH.none("ahead(1, 1)", x, x.ahead(1, 1), 1);
        for (int i : new int[] {-1, 30001}) {
            BENCH.none("leastFor", x, x.leastFor(0, i), 2);
            BENCH.none("waterFor", x, x.waterFor(0, i), 2);
            BENCH.none("leastFor of no house", x, x.leastFor(4, i), 1);
            BENCH.none("waterFor of no house", x, x.waterFor(4, i), 1);
        }
        due("size(-1)", x.size(-1), -1);
        due("size(14)", x.size(14), -1);
        due("size does not touch trouble", x.trouble(), 1);
        due("total(0)", x.total(0), 40);
        due("trouble()", x.trouble(), 0);
    }

    private static void told() {
        RoofRegatta x = Bench.told(RIVER);
        int[][] houses = {{0, 10, 2, 0, 18, 13, 8, 0}, {1, 20, 3, 1, 35, 24, 3, 0}, {2, 31, 1, 0, 15, 10, 0, 0},
            {3, 5, 2, 1, 5, 10, 0, 0}};
        int[][] lodgers = {{5, 2, 1, 6}, {10, 5, 1, 1}, {1, 0, -2, 9}, {8, 3, 0, 4}};
        int[][] bends = {{10, 0}, {6, 1}};
        for (int h = 0; h < 4; h++) {
            for (int what = 0; what < 8; what++) {
                due("house(" + h + ", " + what + ")", x.house(h, what), houses[h][what]);
            }
            for (int what = 0; what < 4; what++) {
                due("lodger(" + h + ", " + what + ")", x.lodger(h, what), lodgers[h][what]);
            }
        }
        for (int k = 0; k < 2; k++) {
            due("bend(" + k + ", 0)", x.bend(k, 0), bends[k][0]);
            due("bend(" + k + ", 1)", x.bend(k, 1), bends[k][1]);
        }
        x.ashore(0);
        due("a terrace with one aboard rows once", x.house(1, 5), 15);
    }

    private static void times() {
        RoofRegatta x = Bench.told(RIVER);
        int[][] dry = {{22, 18}, {23, 12}, {25, 20}, {15, 9}};
        int[][] lit = {{20, 17}, {21, 11}, {23, 18}, {14, 9}};
        for (int h = 0; h < 4; h++) {
            int bridge = h == 1 ? 5 : 0;
            due("time", x.time(h, 0), dry[h][0]);
            due("time", x.time(h, 1), dry[h][1]);
            due("soFar", x.soFar(h, 0), dry[h][0] + bridge);
            due("soFar", x.soFar(h, 1), dry[h][0] + dry[h][1] + bridge);
            due("total", x.total(h), dry[h][0] + dry[h][1] + bridge);
            x.light(h, true);
            due("time lit", x.time(h, 0), lit[h][0]);
            due("time lit", x.time(h, 1), lit[h][1]);
            due("total lit", x.total(h), lit[h][0] + lit[h][1] + bridge);
            x.light(h, false);
            due("loses", x.loses(h), h == 1 ? 1 : 0);
            due("storey", x.storey(h), h == 1 ? 5 : 0);
        }
        x.cross(3);
        due("a pub in whatever lane", x.total(3), 24);
        x.cross(0);
        due("the other lane", x.time(0, 0), 26);
        due("the other lane", x.time(0, 1), 13);
        RoofRegatta still = Bench.told("regatta water 1 bridge 1 storey 30 rain 0 by 0;house a pub left tiles 5 storeys 6");
        due("loses without a bend", still.loses(0), 0);
        due("storey without a bend", still.storey(0), 0);
        due("total without a bend", still.total(0), 0);
        RoofRegatta high = Bench.told("regatta water 1 bridge 2 storey 30 rain 0 by 0;bend k long 1 left;"
            + "house a pub left tiles 0 storeys 6");
        due("loses four", high.loses(0), 4);
        due("four times 30", high.total(0), 130);
        due("one lower", high.storey(0), 30);
    }

    private static void ranking(RoofRegatta x, int first, int second, int third, int fourth) {
        int[] houses = {first, second, third, fourth};
        int[] prizes = {50, 20, 5, 0};
        for (int r = 0; r < 4; r++) {
            due("ranked(" + r + ")", x.ranked(r), houses[r]);
            due("rank(" + houses[r] + ")", x.rank(houses[r]), r);
            due("prize(" + houses[r] + ")", x.prize(houses[r]), prizes[r]);
        }
    }

    private static void ranks() {
        RoofRegatta x = Bench.told(RIVER);
        ranking(x, 3, 0, 1, 2);
        x.light(0, true);
        due("out(0)", x.out(0), 1);
        due("out(1)", x.out(1), 0);
        ranking(x, 3, 1, 2, 0);
        x.light(1, true);
        ranking(x, 3, 2, 0, 1);
        x.light(3, true);
        due("lit and first", x.out(3), 0);
        ranking(x, 3, 2, 0, 1);
        RoofRegatta alike = Bench.told(ALIKE);
        alike.light(1, true);
        due("like the least, not the first", alike.total(1), alike.total(0));
        due("is out", alike.out(1), 1);
        due("behind all others", alike.rank(1), 2);
        due("no prize told", alike.prize(0), 0);
        alike.light(0, true);
        alike.light(2, true);
        due("the first of like ones", alike.out(0), 0);
        due("the second of like ones", alike.out(2), 1);
        due("least among those out", alike.rank(2), 1);
    }

    private static void positions() {
        RoofRegatta x = Bench.told(RIVER);
        due("ahead(0, 1)", x.ahead(0, 1), 0);
        due("ahead(1, 0)", x.ahead(1, 0), -2);
        due("ahead(1, 2)", x.ahead(1, 2), 1);
        due("ahead(2, 1)", x.ahead(2, 1), 0);
        due("leader(0)", x.leader(0), 3);
        due("leader(1)", x.leader(1), 3);
        due("passes()", x.passes(), 1);
        due("fastest(0)", x.fastest(0), 3);
        due("full()", x.full(), 0);
        x.board(2, 1);
        x.board(0, 2);
        due("full()", x.full(), 4);
        RoofRegatta alike = Bench.told(ALIKE);
        due("leader, the first such", alike.leader(0), 0);
        due("fastest, the first such", alike.fastest(0), 0);
        due("ahead of a like one", alike.ahead(0, 2), -2);
        // the bridge is behind the first bend for who is ahead, but not for who is fastest
        RoofRegatta bridge = Bench.told("regatta water 10 bridge 1 storey 1 rain 0 by 0;bend k long 10 left;"
            + "bend m long 10 left;house a pub left tiles 0 storeys 3;house b pub left tiles 1 storeys 1");
        due("fastest", bridge.fastest(0), 0);
        due("leader", bridge.leader(0), 1);
        due("from behind to alike is no pass", bridge.passes(), 0);
        due("together()", x.together(), 0);
        x.board(0, 1);
        due("together()", x.together(), 2);
        x.ashore(0);
        x.ashore(2);
        due("two ashore aren't together", x.together(), 0);
    }

    private static void load(RoofRegatta x, int h, int... want) {
        due("bestRank(" + h + ")", x.bestRank(h), want[0]);
        due("loadMoves(" + h + ")", x.loadMoves(h), want[1]);
        for (int l = 2; l < want.length; l++) {
            due("loadOf(" + h + ", " + (l - 2) + ")", x.loadOf(h, l - 2), want[l]);
        }
    }

    private static void bestLoads() {
        RoofRegatta x = Bench.told(RIVER);
        load(x, 3, 0, 0, 1, 1, -2, 0);
        load(x, 0, 1, 0, 1, 1, -2, 0);
        load(x, 1, 1, 1, 1, 1, 0, 0);
        due("leastTotal(0)", x.leastTotal(0), 36);
        due("leastTotal(1)", x.leastTotal(1), 38);
        // b has 12, 11 with one lodger: like a, so that a must be made slower, by x ahead of y
        RoofRegatta two = Bench.told("regatta water 10 bridge 6 storey 0 rain 0 by 0;bend k long 10 left;"
            + "house a pub left tiles 1 storeys 2;house b pub left tiles 0 storeys 2;"
            + "lodger x weighs 1 rows 0;lodger y weighs 1 rows 0;aboard x b;aboard y b");
        load(two, 1, 0, 1, 0, 1);
        load(two, 0, 0, 0, 1, 1);
        due("leastTotal(1)", two.leastTotal(1), 10);
        two.light(1, true);
        // b is lit: like a it is out; with one lodger it has less, and ashore stands ahead of all
        load(two, 1, 0, 1, -2, 1);
    }

    private static void friendlyLoads() {
        RoofRegatta x = Bench.told(RIVER);
        due("friendly()", x.friendly(), 2);
        int[] want = {1, 1, 0, 0};
        for (int l = 0; l < 4; l++) {
            due("friendlyOf(" + l + ")", x.friendlyOf(l), want[l]);
        }
        RoofRegatta two = Bench.told("regatta water 10 bridge 6 storey 0 rain 0 by 0;"
            + "house a pub left tiles 1 storeys 2;house b pub left tiles 0 storeys 2;"
            + "lodger x weighs 1 rows 0;lodger y weighs 1 rows 0;friend y x");
        due("friendly()", two.friendly(), 1);
        due("friendlyOf(0)", two.friendlyOf(0), 0);
        due("friendlyOf(1)", two.friendlyOf(1), 0);
        two.board(1, 1);
        due("fewest moves", two.friendlyOf(0), 1);
        RoofRegatta narrow = Bench.told("regatta water 10 bridge 6 storey 0 rain 0 by 0;"
            + "house a pub left tiles 1 storeys 1;lodger x weighs 1 rows 0;lodger y weighs 1 rows 0;friend y x");
        due("no room for both", narrow.friendly(), 0);
        due("stays ashore", narrow.friendlyOf(0), -2);
    }

    private static void gains() {
        RoofRegatta x = Bench.told(RIVER);
        due("leastFor(1, 40)", x.leastFor(1, 40), 3);
        due("leastFor(1, 53)", x.leastFor(1, 53), 2);
        due("leastFor(1, 52)", x.leastFor(1, 52), 3);
        due("leastFor(1, 37)", x.leastFor(1, 37), -2);
        due("leastFor(3, 24)", x.leastFor(3, 24), 0);
        due("leastFor(3, 0)", x.leastFor(3, 0), -2);
        due("leastFor(0, 30000)", x.leastFor(0, 30000), 0);
        due("toMove(0)", x.toMove(0), 3);
        due("toMove(1)", x.toMove(1), 3);
        due("toMove(2)", x.toMove(2), 1);
        due("toMove(3)", x.toMove(3), -2);
        due("waterFor(3, 24)", x.waterFor(3, 24), 10);
        due("waterFor(3, 11)", x.waterFor(3, 11), -2);
        due("waterFor(3, 240)", x.waterFor(3, 240), 1);
        due("waterFor(3, 13)", x.waterFor(3, 13), 19);
        RoofRegatta most = Bench.told("regatta water 1 bridge 1 storey 0 rain 0 by 0;bend k long 20 left;"
            + "house a pub left tiles 0 storeys 1");
        due("the most water", most.waterFor(0, 10), 20);
        due("more water than there is", most.waterFor(0, 9), -2);
        due("waterFor(3, 12)", x.waterFor(3, 12), -2);
        due("bestSwap(3)", x.bestSwap(3), -2);
        due("bestLane(0)", x.bestLane(0), 1);
        due("bestLane(3), alike", x.bestLane(3), 0);
        due("bestLane(1)", x.bestLane(1), 0);
        x.cross(0);
        due("bestLane(0) in it", x.bestLane(0), 1);
        RoofRegatta two = Bench.told("regatta water 5 bridge 6 storey 0 rain 0 by 0;bend k long 10 left;"
            + "house a pub left tiles 10 storeys 1;house b pub left tiles 9 storeys 1;lodger x weighs 0 rows 0;"
            + "lodger y weighs 0 rows 5;lodger z weighs 0 rows 5;aboard x a;aboard y b");
        due("total(0)", two.total(0), 40);
        due("y and z alike, y from the other house", two.bestSwap(0), 1);
        due("to have y is best", two.bestSwap(1), -2);
        due("no room, and x helps by nothing", two.toMove(0), -2);
        due("leastFor, the least bits", two.leastFor(0, 20), 2);
        two.ashore(0);
        due("room for y, from wherever", two.toMove(0), 1);
    }

    private static void fires() {
        RoofRegatta x = Bench.told(ALIKE + ";saw a b k;saw a c k");
        due("fires()", x.fires(), 2);
        due("fireAt(0)", x.fireAt(0), 1);
        due("fireAt(1)", x.fireAt(1), 3);
        BENCH.none("fireAt(2)", x, x.fireAt(2), 1);
        due("could()", x.could(), 3);
        due("surely()", x.surely(), 1);
        due("ask()", x.ask(), 1);
        due("askLeaves()", x.askLeaves(), 1);
        due("judge()", x.judge(), 1);
        x.light(0, true);
        due("judge()", x.judge(), -2);
        due("fires() whatever is lit now", x.fires(), 2);
        RoofRegatta one = Bench.told(ALIKE + ";saw a c k;saw c b k");
        due("fires()", one.fires(), 1);
        due("could()", one.could(), 1);
        due("surely()", one.surely(), 1);
        due("ask()", one.ask(), 0);
        due("askLeaves()", one.askLeaves(), 1);
        RoofRegatta never = Bench.told(ALIKE + ";saw b a k");
        due("fires()", never.fires(), 0);
        due("could()", never.could(), 0);
        due("surely()", never.surely(), 0);
        due("ask()", never.ask(), -2);
        due("askLeaves()", never.askLeaves(), -2);
        due("judge()", never.judge(), 0);
        RoofRegatta all = Bench.told(ALIKE);
        due("fires()", all.fires(), 8);
        due("fireAt(7)", all.fireAt(7), 7);
        due("ask(), the first such", all.ask(), 0);
        due("askLeaves()", all.askLeaves(), 4);
        due("judge() of nothing seen", all.judge(), -2);
    }

    private static void rain() {
        RoofRegatta x = Bench.told(SHOWERS);
        due("odds(0, 0)", x.odds(0, 0, false), 1);
        due("odds(0, 0) by", x.odds(0, 0, true), 4);
        due("odds(1, 0)", x.odds(1, 0, false), 3);
        due("odds(1, 0) by", x.odds(1, 0, true), 4);
        due("odds(1, 1)", x.odds(1, 1, false), 1);
        due("mean(0)", x.mean(0, false), 175);
        due("mean(0) by", x.mean(0, true), 2);
        due("mean(1)", x.mean(1, false), 275);
        due("mean(1) by", x.mean(1, true), 4);
        due("hopes(0)", x.hopes(0, false), 11);
        due("hopes(0) by", x.hopes(0, true), 2);
        due("hopes(1)", x.hopes(1, false), 17);
        due("hopes(1) by", x.hopes(1, true), 2);
        due("trouble()", x.trouble(), 0);
        BENCH.none("odds(0, 2)", x, x.odds(0, 2, false), 1);
        x.raise(20);
        x.ashore(0);
        due("never", x.odds(1, 0, false), 0);
        due("0 by 1", x.odds(1, 0, true), 1);
        due("rain is gone behind a call", x.total(0), 5);
    }

    private static void races() {
        RoofRegatta x = Bench.told(SHOWERS);
        // SEEDS 74, 5624, 28652, 51790 from 0: it rains in the second race alone
        due("wins(0, 0, 1)", x.wins(0, 0, 1), 0);
        due("wins(0, 0, 4)", x.wins(0, 0, 4), 1);
        due("wins(1, 0, 4)", x.wins(1, 0, 4), 3);
        due("wins(0, 5624, 2)", x.wins(0, 5624, 2), 0);
        due("wins(0, 74, 1)", x.wins(0, 74, 1), 1);
        due("wins(0, 0, 0)", x.wins(0, 0, 0), 0);
        due("record(65536, 1)", x.record(65536, 1), 75);
        due("wins of all", x.wins(0, 65536, 60) + x.wins(1, 65536, 60), 60);
        due("record(0, 1)", x.record(0, 1), 75);
        due("record(0, 2)", x.record(0, 2), 50);
        for (int seed : new int[] {-1, 65537}) {
            BENCH.none("wins", x, x.wins(0, seed, 1), 2);
            BENCH.none("record", x, x.record(seed, 1), 2);
        }
        BENCH.none("wins(0, 0, 61)", x, x.wins(0, 0, 61), 2);
        BENCH.none("wins(0, 0, -1)", x, x.wins(0, 0, -1), 2);
        BENCH.none("record(0, 0)", x, x.record(0, 0), 2);
        BENCH.none("record(0, 61)", x, x.record(0, 61), 2);
        BENCH.none("wins(2, -1, 61)", x, x.wins(2, -1, 61), 1);
        // two bends: dry and rainy, then both dry
        RoofRegatta two = Bench.told(SHOWERS.replace("house a", "bend m long 10 left;house a"));
        due("record(0, 1)", two.record(0, 1), 125);
        due("record(28652, 1)", two.record(28652, 1), two.total(1));
    }

    private static void weir() {
        RoofRegatta x = Bench.told(ALIKE);
        for (int spite = 0; spite <= 9; spite++) {
            due("both pass", x.weir(spite, false, false, false), 3);
            due("both pass", x.weir(spite, false, false, true), 3);
            due("the one blocks", x.weir(spite, true, false, false), 5);
            due("the one blocks", x.weir(spite, true, false, true), 1);
            due("the other blocks", x.weir(spite, false, true, false), 1);
            due("the other blocks", x.weir(spite, false, true, true), 5);
            due("both block", x.weir(spite, true, true, false), -spite);
            due("both block", x.weir(spite, true, true, true), -spite);
            due("rests", x.rests(spite), 2);
            due("rest", x.rest(spite), 1);
        }
        for (int spite : new int[] {-1, 10}) {
            BENCH.refused("weir", x, x.weir(spite, true, true, true), -100, 2);
            BENCH.none("rests", x, x.rests(spite), 2);
            BENCH.none("rest", x, x.rest(spite), 2);
        }
    }

    private static void lodgersAct() {
        RoofRegatta x = Bench.told(RIVER);
        BENCH.none("board(3, 0)", x, x.board(3, 0), 5);
        due("board(0, 0) from the bay", x.board(0, 0), 2);
        due("house(0, 6)", x.house(0, 6), 9);
        due("house(1, 6)", x.house(1, 6), 2);
        BENCH.none("board(2, 0)", x, x.board(2, 0), 3);
        BENCH.none("board(0, 0), aboard and full", x, x.board(0, 0), 5);
        BENCH.refused("ashore(2)", x, x.ashore(2), 5);
        BENCH.due("ashore(0)", x.ashore(0), true);
        due("lodger(0, 2)", x.lodger(0, 2), -2);
        due("board(2, 2)", x.board(2, 2), 1);
        due("size(11)", x.size(11), 3);
    }

    private static void otherActs() {
        RoofRegatta x = Bench.told(RIVER);
        BENCH.refused("light(0, false)", x, x.light(0, false), 5);
        BENCH.due("light(0, true)", x.light(0, true), true);
        due("trouble()", x.trouble(), 0);
        due("house(0, 7)", x.house(0, 7), 1);
        BENCH.refused("light(0, true)", x, x.light(0, true), 5);
        BENCH.due("light(0, false)", x.light(0, false), true);
        due("cross(0)", x.cross(0), 1);
        due("cross(0)", x.cross(0), 0);
        due("cross(1)", x.cross(1), 0);
        BENCH.refused("raise(0)", x, x.raise(0), 2);
        BENCH.refused("raise(21)", x, x.raise(21), 2);
        BENCH.refused("raise(10)", x, x.raise(10), 5);
        BENCH.due("raise(20)", x.raise(20), true);
        due("size(0)", x.size(0), 20);
        due("house(3, 5)", x.house(3, 5), 20);
        BENCH.due("raise(1)", x.raise(1), true);
        due("refused acts aren't kept", x.size(11), 7);
    }

    private static void undoing() {
        RoofRegatta x = Bench.told(RIVER);
        x.board(2, 1);
        x.ashore(3);
        x.light(3, true);
        x.cross(2);
        x.raise(3);
        due("lanes", x.house(2, 3), 1);
        BENCH.due("undo()", x.undo(), true);
        due("water", x.size(0), 10);
        due("lane is still crossed", x.house(2, 3), 1);
        BENCH.due("undo()", x.undo(), true);
        due("lane", x.house(2, 3), 0);
        BENCH.due("undo()", x.undo(), true);
        due("lit", x.house(3, 7), 0);
        BENCH.due("undo()", x.undo(), true);
        due("aboard again", x.lodger(3, 2), 0);
        BENCH.due("undo()", x.undo(), true);
        due("ashore again", x.lodger(2, 2), -2);
        BENCH.refused("undo()", x, x.undo(), 6);
        for (int water = 1; water <= 18; water++) {
            x.raise(water == 10 ? 20 : water);
        }
        due("16 are kept", x.size(11), 16);
        for (int water = 17; water >= 2; water--) {
            BENCH.due("undo()", x.undo(), true);
            due("water one act before", x.size(0), water == 10 ? 20 : water);
        }
        due("the two before are lost", x.size(0), 2);
        BENCH.refused("undo()", x, x.undo(), 6);
    }

    private static void images() {
        RoofRegatta x = Bench.told(RIVER);
        due("image()", x.image(), 0);
        x.board(2, 3);
        x.light(1, true);
        x.cross(0);
        x.raise(5);
        due("image()", x.image(), 1);
        due("an image leaves what can be undone", x.size(11), 4);
        due("image()", x.image(), 2);
        BENCH.none("image()", x, x.image(), 3);
        BENCH.refused("back(3)", x, x.back(3), 1);
        BENCH.due("back(0)", x.back(0), true);
        due("water", x.size(0), 10);
        due("lit", x.house(1, 7), 0);
        due("lane", x.house(0, 3), 0);
        due("ashore", x.lodger(2, 2), -2);
        due("nothing to undo", x.size(11), 0);
        BENCH.refused("undo()", x, x.undo(), 6);
        due("images stay", x.size(12), 3);
        BENCH.due("back(1)", x.back(1), true);
        due("water", x.size(0), 5);
        due("lit", x.house(1, 7), 1);
        due("lane", x.house(0, 3), 1);
        due("aboard", x.lodger(2, 2), 3);
        due("the others are where they were", x.house(1, 6), 3);
    }

    private static void ashoreByNumber() {
        BENCH.ledThrows(new RoofRegatta(), 0);
        RoofRegatta x = Bench.told(RIVER);
        due("led(0)", x.led(0), 2);
        BENCH.ledThrows(x, 1);
        BENCH.ledThrows(x, -1);
        x.ashore(0);
        x.raise(21);
        due("led(0)", x.led(0), 0);
        due("led(1)", x.led(1), 2);
        BENCH.ledThrows(x, 2);
        due("led does not touch trouble", x.trouble(), 2);
    }

    private static final String[] GOOD_CALLS = {
        "house", "lodger", "bend", "time", "soFar", "total", "loses", "rank", "ranked", "out", "prize", "leader", "full",
        "passes", "fastest", "storey", "together", "bestRank", "loadOf", "loadMoves", "leastTotal", "friendly",
        "friendlyOf", "leastFor", "toMove", "waterFor", "bestSwap", "bestLane", "fires", "fireAt", "could", "surely", "ask",
        "askLeaves", "judge", "odds", "mean", "hopes", "wins", "weir", "rests", "rest", "cross"};

    /** Each call of which a number is told ends the TROUBLE before it, all its numbers being 0 and 0 being good. */
    private static void troubleEnds() {
        RoofRegatta x = Bench.told(RIVER);
        for (String name : GOOD_CALLS) {
            x.total(-1);
            due("trouble() ahead of " + name, x.trouble(), 1);
            callWithZeros(x, name);
            due("trouble() behind " + name, x.trouble(), 0);
        }
        for (int what = 0; what < 8; what++) {
            x.total(-1);
            x.house(0, what);
            due("trouble() behind house of " + what, x.trouble(), 0);
        }
        x.total(-1);
        x.ahead(0, 1);
        due("trouble() behind ahead", x.trouble(), 0);
        x.total(-1);
        x.record(0, 1);
        due("trouble() behind record", x.trouble(), 0);
        x.total(-1);
        x.waterFor(0, 30000);
        due("trouble() behind waterFor", x.trouble(), 0);
        x.total(-1);
        x.image();
        due("trouble() behind image", x.trouble(), 0);
        x.total(-1);
        x.board(0, 0);
        due("trouble() behind board", x.trouble(), 0);
    }

    private static void callWithZeros(RoofRegatta x, String name) {
        for (Method method : RoofRegatta.class.getDeclaredMethods()) {
            if (method.getName().equals(name)) {
                Object[] zeros = new Object[method.getParameterCount()];
                for (int i = 0; i < zeros.length; i++) {
                    zeros[i] = method.getParameterTypes()[i] == boolean.class ? (Object) false : (Object) 0;
                }
                try {
                    method.invoke(x, zeros);
                } catch (ReflectiveOperationException thrown) {
                    throw new IllegalStateException(name, thrown);
                }
            }
        }
    }

    private static void sizes() {
        RoofRegatta x = Bench.told(RIVER);
        int[] want = {10, 2, 5, 50, 5, 2, 4, 4, 3, 3, 2, 0, 0, 0};
        for (int what = 0; what < want.length; what++) {
            due("size(" + what + ")", x.size(what), want[what]);
        }
        x.feed(0, 0, 0, 0, 0);
        due("size(13)", x.size(13), 20);
    }
}
