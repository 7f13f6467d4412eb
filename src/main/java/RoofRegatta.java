import java.util.NoSuchElementException;

/**
 * A regatta of roofs: told as a text, then asked for times, ranks, loads, fires, rain and races,
 * and changed by acts that can be undone. See the project's README for how to use it.
 */
public final class RoofRegatta {
    public static final int NONE = -1;

    /** Answered where the question is a good one but nothing fits; also the place of who is ashore. */
    private static final int NOT_ANY = -2;
    private static final int ASHORE = -2;
    private static final int NO_PAYOFF = -100;

    private static final int TAPE_ROOM = 900;
    private static final int FED_BYTES = 20;
    private static final int MOST_BENDS = 4;
    private static final int MOST_HOUSES = 4;
    private static final int MOST_LODGERS = 5;
    private static final int MOST_FRIENDS = 6;
    private static final int MOST_PRIZES = 4;
    private static final int MOST_SEEN = 5;
    private static final int MOST_NAMES = MOST_BENDS + MOST_HOUSES + MOST_LODGERS;
    private static final int MOST_WATER = 20;
    private static final int MOST_TOTAL = 30000;
    private static final int MOST_RACES = 60;
    private static final int MOST_SPITE = 9;
    private static final int SEEDS = 65537;
    private static final int KEPT_ACTS = 16;
    private static final int KEPT_IMAGES = 3;
    /** Above every TOTAL, RANK and count that a regatta can have. */
    private static final int BEYOND = 1000000;

    private static final int COTTAGE = 0;
    private static final int TERRACE = 1;
    private static final int VILLA = 2;
    private static final int PUB = 3;

    private static final int LEFT = 0;
    private static final int RIGHT = 1;

    /** What size() tells, by its numbers; BENDS to SEEN are the sorts of LINES and NAMES as well. */
    private static final int WATER = 0;
    private static final int BRIDGE = 1;
    private static final int STOREY = 2;
    private static final int RAIN = 3;
    private static final int BY = 4;
    private static final int BENDS = 5;
    private static final int HOUSES = 6;
    private static final int LODGERS = 7;
    private static final int FRIENDS = 8;
    private static final int PRIZES = 9;
    private static final int SEEN = 10;
    private static final int ACTS = 11;
    private static final int IMAGES = 12;
    private static final int TAPE = 13;
    private static final int TOLD_SIZES = 11;

    private static final int NO_SUCH = 1;
    private static final int NUMBER = 2;
    private static final int NO_ROOM = 3;
    private static final int FAULTY = 4;
    private static final int NOT_SO = 5;
    private static final int NOTHING = 6;

    private final byte[] tape = new byte[TAPE_ROOM];
    private int taped;
    private final Told told = new Told();
    private final Race now = new Race(told);
    private final Race trial = new Race(told);
    private final Standing standing = new Standing();
    private final Reader reader = new Reader(tape);
    private final Loads loads = new Loads(now, trial, standing);
    private final Fires fireSets = new Fires(now, trial);
    private final Rain rain = new Rain(now, trial, standing);
    private final Kept kept = new Kept(now);
    private int lastFault;
    private int lastPlace = NONE;
    private int lastTrouble;

    public RoofRegatta() {
    }

    // ---- the regatta

    public int feed(int a, int b, int c, int d, int e) {
        if (taped + FED_BYTES > TAPE_ROOM) {
            return NONE;
        }
        tapeNumber(a);
        tapeNumber(b);
        tapeNumber(c);
        tapeNumber(d);
        tapeNumber(e);
        return taped;
    }

    private void tapeNumber(int number) {
        for (int shift = 24; shift >= 0 && taped < tape.length; shift -= 8) {
            tape[taped] = (byte) (number >> shift);
            taped++;
        }
    }

    public int regatta(int n) {
        if (n < 0 || n > taped) {
            return refused(NUMBER);
        }
        reader.read(n);
        taped = 0;
        lastFault = reader.token.blamed;
        lastPlace = reader.token.place;
        if (lastFault != 0) {
            return refused(FAULTY);
        }
        told.become(reader.told);
        now.become(reader.start);
        kept.clear();
        loads.forget();
        return granted(told.sizes[HOUSES]);
    }

    public int fault() {
        return lastFault;
    }

    public int where() {
        return lastTrouble == FAULTY ? lastPlace : NONE;
    }

    // ---- now

    public int house(int h, int what) {
        if (!isHouse(h)) {
            return refused(NO_SUCH);
        }
        switch (what) {
            case 0: return granted(told.kinds[h]);
            case 1: return granted(told.tiles[h]);
            case 2: return granted(told.storeys[h]);
            case 3: return granted(now.laneOf(h));
            case 4: return granted(now.weightOf(h));
            case 5: return granted(now.powerOf(h));
            case 6: return granted(now.crews[h]);
            case 7: return granted(now.isLit(h) ? 1 : 0);
            default: return refused(NO_SUCH);
        }
    }

    public int lodger(int l, int what) {
        if (!isLodger(l)) {
            return refused(NO_SUCH);
        }
        switch (what) {
            case 0: return granted(told.weighs[l]);
            case 1: return granted(told.rows[l]);
            case 2: return granted(now.placeOf(l));
            case 3: return granted(told.friendsOf(l));
            default: return refused(NO_SUCH);
        }
    }

    public int bend(int k, int what) {
        if (!isBend(k)) {
            return refused(NO_SUCH);
        }
        switch (what) {
            case 0: return granted(told.lengths[k]);
            case 1: return granted(told.insides[k]);
            default: return refused(NO_SUCH);
        }
    }

    public int time(int h, int k) {
        return isHouse(h) && isBend(k) ? granted(now.timeOn(h, k)) : refused(NO_SUCH);
    }

    public int soFar(int h, int k) {
        return isHouse(h) && isBend(k) ? granted(now.timeBehind(h, k)) : refused(NO_SUCH);
    }

    public int total(int h) {
        return isHouse(h) ? granted(now.wholeTime(h)) : refused(NO_SUCH);
    }

    public int loses(int h) {
        return isHouse(h) ? granted(told.storeysLost(h)) : refused(NO_SUCH);
    }

    public int rank(int h) {
        if (!isHouse(h)) {
            return refused(NO_SUCH);
        }
        standing.take(now);
        return granted(standing.rankOf(h));
    }

    public int ranked(int r) {
        if (!isHouse(r)) {
            return refused(NO_SUCH);
        }
        standing.take(now);
        return granted(standing.houseAt(r));
    }

    public int out(int h) {
        if (!isHouse(h)) {
            return refused(NO_SUCH);
        }
        standing.take(now);
        return granted(standing.isOut(h) ? 1 : 0);
    }

    public int prize(int h) {
        if (!isHouse(h)) {
            return refused(NO_SUCH);
        }
        standing.take(now);
        return granted(told.prizeFor(standing.rankOf(h)));
    }

    public int ahead(int h, int other) {
        if (!isHouse(h) || !isHouse(other) || h == other) {
            return refused(NO_SUCH);
        }
        for (int k = 0; k < told.sizes[BENDS]; k++) {
            if (now.isAhead(h, other, k)) {
                return granted(k);
            }
        }
        return granted(NOT_ANY);
    }

    public int leader(int k) {
        if (!isBend(k)) {
            return refused(NO_SUCH);
        }
        int first = 0;
        for (int h = 1; h < told.sizes[HOUSES]; h++) {
            if (now.isAhead(h, first, k)) {
                first = h;
            }
        }
        return granted(first);
    }

    public int full() {
        if (!isTold()) {
            return refused(NO_SUCH);
        }
        int bits = 0;
        for (int h = 0; h < told.sizes[HOUSES]; h++) {
            if (!now.hasRoom(h)) {
                bits |= 1 << h;
            }
        }
        return granted(bits);
    }

    public int passes() {
        if (!isTold()) {
            return refused(NO_SUCH);
        }
        int count = 0;
        for (int k = 1; k < told.sizes[BENDS]; k++) {
            for (int h = 0; h < told.sizes[HOUSES]; h++) {
                count += now.passedBy(h, k);
            }
        }
        return granted(count);
    }

    public int fastest(int k) {
        if (!isBend(k)) {
            return refused(NO_SUCH);
        }
        int first = 0;
        for (int h = 1; h < told.sizes[HOUSES]; h++) {
            if (now.timeOn(h, k) < now.timeOn(first, k)) {
                first = h;
            }
        }
        return granted(first);
    }

    public int storey(int h) {
        if (!isHouse(h)) {
            return refused(NO_SUCH);
        }
        return granted(told.storeysLost(h) > 0 ? told.sizes[STOREY] : 0);
    }

    public int together() {
        return isTold() ? granted(now.friendsTogether()) : refused(NO_SUCH);
    }

    // ---- loads

    public int bestRank(int h) {
        if (!isHouse(h)) {
            return refused(NO_SUCH);
        }
        loads.findBest(h);
        return granted(loads.score);
    }

    public int loadOf(int h, int l) {
        if (!isHouse(h) || !isLodger(l)) {
            return refused(NO_SUCH);
        }
        loads.findBest(h);
        return granted(loads.places[l]);
    }

    public int loadMoves(int h) {
        if (!isHouse(h)) {
            return refused(NO_SUCH);
        }
        loads.findBest(h);
        return granted(loads.moves);
    }

    public int leastTotal(int h) {
        return isHouse(h) ? granted(loads.leastTime(h)) : refused(NO_SUCH);
    }

    public int friendly() {
        if (!isTold()) {
            return refused(NO_SUCH);
        }
        loads.findFriendly();
        return granted(-loads.score);
    }

    public int friendlyOf(int l) {
        if (!isLodger(l)) {
            return refused(NO_SUCH);
        }
        loads.findFriendly();
        return granted(loads.places[l]);
    }

    public int leastFor(int h, int total) {
        if (!isHouse(h)) {
            return refused(NO_SUCH);
        }
        return isWithin(total, 0, MOST_TOTAL) ? granted(loads.fewestFor(h, total)) : refused(NUMBER);
    }

    public int toMove(int h) {
        return isHouse(h) ? granted(loads.oneToMove(h)) : refused(NO_SUCH);
    }

    public int waterFor(int h, int total) {
        if (!isHouse(h)) {
            return refused(NO_SUCH);
        }
        if (!isWithin(total, 0, MOST_TOTAL)) {
            return refused(NUMBER);
        }
        trial.become(now);
        for (int water = 1; water <= MOST_WATER; water++) {
            trial.water = water;
            if (trial.wholeTime(h) <= total) {
                return granted(water);
            }
        }
        return granted(NOT_ANY);
    }

    public int bestSwap(int h) {
        return isHouse(h) ? granted(loads.twoToSwap(h)) : refused(NO_SUCH);
    }

    public int bestLane(int h) {
        if (!isHouse(h)) {
            return refused(NO_SUCH);
        }
        trial.become(now);
        trial.takeLane(h, LEFT);
        int left = trial.wholeTime(h);
        trial.takeLane(h, RIGHT);
        return granted(trial.wholeTime(h) < left ? RIGHT : LEFT);
    }

    // ---- fires

    public int fires() {
        if (!isTold()) {
            return refused(NO_SUCH);
        }
        fireSets.find();
        return granted(fireSets.count);
    }

    public int fireAt(int i) {
        if (!isTold()) {
            return refused(NO_SUCH);
        }
        fireSets.find();
        return i >= 0 && i < fireSets.count ? granted(fireSets.sets[i]) : refused(NO_SUCH);
    }

    public int could() {
        if (!isTold()) {
            return refused(NO_SUCH);
        }
        fireSets.find();
        return granted(fireSets.inSome());
    }

    public int surely() {
        if (!isTold()) {
            return refused(NO_SUCH);
        }
        fireSets.find();
        return granted(fireSets.inAll());
    }

    public int ask() {
        if (!isTold()) {
            return refused(NO_SUCH);
        }
        fireSets.find();
        return granted(fireSets.count == 0 ? NOT_ANY : fireSets.bestToAsk());
    }

    public int askLeaves() {
        if (!isTold()) {
            return refused(NO_SUCH);
        }
        fireSets.find();
        return granted(fireSets.count == 0 ? NOT_ANY : fireSets.leftBy(fireSets.bestToAsk()));
    }

    public int judge() {
        return isTold() ? granted(now.firstNotSo()) : refused(NO_SUCH);
    }

    // ---- rain, races

    public long odds(int h, int r, boolean lower) {
        if (!isHouse(h) || !isHouse(r)) {
            return refused(NO_SUCH);
        }
        rain.findOdds(h, r);
        lastTrouble = 0;
        return rain.part(lower);
    }

    public long mean(int h, boolean lower) {
        if (!isHouse(h)) {
            return refused(NO_SUCH);
        }
        rain.findMean(h);
        lastTrouble = 0;
        return rain.part(lower);
    }

    public long hopes(int h, boolean lower) {
        if (!isHouse(h)) {
            return refused(NO_SUCH);
        }
        rain.findHopes(h);
        lastTrouble = 0;
        return rain.part(lower);
    }

    public int wins(int h, int seed, int n) {
        if (!isHouse(h)) {
            return refused(NO_SUCH);
        }
        if (!isWithin(seed, 0, SEEDS - 1) || !isWithin(n, 0, MOST_RACES)) {
            return refused(NUMBER);
        }
        return granted(rain.racesWon(h, seed, n));
    }

    public int record(int seed, int n) {
        if (!isTold()) {
            return refused(NO_SUCH);
        }
        if (!isWithin(seed, 0, SEEDS - 1) || !isWithin(n, 1, MOST_RACES)) {
            return refused(NUMBER);
        }
        return granted(rain.leastOfRaces(seed, n));
    }

    // ---- two at a weir

    public int weir(int spite, boolean blocks, boolean others, boolean ofOther) {
        int why = whyNoWeir(spite);
        lastTrouble = why;
        if (why != 0) {
            return NO_PAYOFF;
        }
        return ofOther ? payoff(spite, others, blocks) : payoff(spite, blocks, others);
    }

    public int rests(int spite) {
        int why = whyNoWeir(spite);
        if (why != 0) {
            return refused(why);
        }
        int count = 0;
        for (int pair = 0; pair < 4; pair++) {
            if (isRest(spite, pair >= 2, pair % 2 == 1)) {
                count++;
            }
        }
        return granted(count);
    }

    public int rest(int spite) {
        int why = whyNoWeir(spite);
        if (why != 0) {
            return refused(why);
        }
        for (int pair = 0; pair < 4; pair++) {
            if (isRest(spite, pair >= 2, pair % 2 == 1)) {
                return granted(pair / 2 * 10 + pair % 2);
            }
        }
        return granted(NOT_ANY);
    }

    private int whyNoWeir(int spite) {
        if (!isTold()) {
            return NO_SUCH;
        }
        return isWithin(spite, 0, MOST_SPITE) ? 0 : NUMBER;
    }

    private static int payoff(int spite, boolean blocks, boolean others) {
        if (blocks) {
            return others ? -spite : 5;
        }
        return others ? 1 : 3;
    }

    private static boolean isRest(int spite, boolean one, boolean other) {
        return payoff(spite, !one, other) <= payoff(spite, one, other)
            && payoff(spite, !other, one) <= payoff(spite, other, one);
    }

    // ---- acts

    public int board(int l, int h) {
        if (!isLodger(l) || !isHouse(h)) {
            return refused(NO_SUCH);
        }
        if (now.placeOf(l) == h) {
            return refused(NOT_SO);
        }
        if (!now.hasRoom(h)) {
            return refused(NO_ROOM);
        }
        kept.keepAct();
        now.put(l, h);
        return granted(Integer.bitCount(now.crews[h]));
    }

    public boolean ashore(int l) {
        if (!isLodger(l)) {
            return done(NO_SUCH);
        }
        if (now.placeOf(l) == ASHORE) {
            return done(NOT_SO);
        }
        kept.keepAct();
        now.put(l, ASHORE);
        return done(0);
    }

    public boolean light(int h, boolean is) {
        if (!isHouse(h)) {
            return done(NO_SUCH);
        }
        if (now.isLit(h) == is) {
            return done(NOT_SO);
        }
        kept.keepAct();
        now.lit ^= 1 << h;
        return done(0);
    }

    public int cross(int h) {
        if (!isHouse(h)) {
            return refused(NO_SUCH);
        }
        kept.keepAct();
        now.lanes ^= 1 << h;
        return granted(now.laneOf(h));
    }

    public boolean raise(int water) {
        if (!isTold()) {
            return done(NO_SUCH);
        }
        if (!isWithin(water, 1, MOST_WATER)) {
            return done(NUMBER);
        }
        if (now.water == water) {
            return done(NOT_SO);
        }
        kept.keepAct();
        now.water = water;
        return done(0);
    }

    public boolean undo() {
        if (kept.acts == 0) {
            return done(NOTHING);
        }
        kept.takeBackAct();
        return done(0);
    }

    public int image() {
        if (!isTold()) {
            return refused(NO_SUCH);
        }
        if (kept.images >= KEPT_IMAGES) {
            return refused(NO_ROOM);
        }
        return granted(kept.keepImage());
    }

    public boolean back(int image) {
        if (image < 0 || image >= kept.images) {
            return done(NO_SUCH);
        }
        kept.goBackTo(image);
        return done(0);
    }

    // ---- what is told

    public int led(int i) throws NoSuchElementException {
        int before = 0;
        for (int l = 0; l < told.sizes[LODGERS]; l++) {
            if (now.placeOf(l) == ASHORE) {
                if (before == i) {
                    return l;
                }
                before++;
            }
        }
        throw new NoSuchElementException("no such lodger is ashore");
    }

    public int size(int what) {
        switch (what) {
            case WATER: return now.water;
            case ACTS: return kept.acts;
            case IMAGES: return kept.images;
            case TAPE: return taped;
            default: return what > WATER && what < TOLD_SIZES ? told.sizes[what] : NONE;
        }
    }

    public int trouble() {
        return lastTrouble;
    }

    // ---- what the calls share

    private int granted(int answer) {
        lastTrouble = 0;
        return answer;
    }

    private int refused(int why) {
        lastTrouble = why;
        return NONE;
    }

    private boolean done(int why) {
        lastTrouble = why;
        return why == 0;
    }

    /** Every REGATTA has a house, so without one none was told. */
    private boolean isTold() {
        return told.sizes[HOUSES] > 0;
    }

    /** RANKS have the same bounds as houses. */
    private boolean isHouse(int h) {
        return h >= 0 && h < told.sizes[HOUSES];
    }

    private boolean isLodger(int l) {
        return l >= 0 && l < told.sizes[LODGERS];
    }

    private boolean isBend(int k) {
        return k >= 0 && k < told.sizes[BENDS];
    }

    private static boolean isWithin(int number, int least, int most) {
        return number >= least && number <= most;
    }

    /** What the text of a REGATTA tells and no act changes. */
    private static final class Told {
        final int[] sizes = new int[TOLD_SIZES];
        final int[] lengths = new int[MOST_BENDS];
        final int[] insides = new int[MOST_BENDS];
        final int[] kinds = new int[MOST_HOUSES];
        final int[] tiles = new int[MOST_HOUSES];
        final int[] storeys = new int[MOST_HOUSES];
        final int[] weighs = new int[MOST_LODGERS];
        final int[] rows = new int[MOST_LODGERS];
        /** Of each two friends both, as bits. */
        final int[] pairs = new int[MOST_FRIENDS];
        final int[] prizes = new int[MOST_PRIZES];
        final int[] sawFirst = new int[MOST_SEEN];
        final int[] sawSecond = new int[MOST_SEEN];
        final int[] sawBend = new int[MOST_SEEN];

        void clear() {
            for (int i = 0; i < sizes.length; i++) {
                sizes[i] = 0;
            }
        }

        void become(Told other) {
            System.arraycopy(other.sizes, 0, sizes, 0, TOLD_SIZES);
            System.arraycopy(other.lengths, 0, lengths, 0, MOST_BENDS);
            System.arraycopy(other.insides, 0, insides, 0, MOST_BENDS);
            System.arraycopy(other.kinds, 0, kinds, 0, MOST_HOUSES);
            System.arraycopy(other.tiles, 0, tiles, 0, MOST_HOUSES);
            System.arraycopy(other.storeys, 0, storeys, 0, MOST_HOUSES);
            System.arraycopy(other.weighs, 0, weighs, 0, MOST_LODGERS);
            System.arraycopy(other.rows, 0, rows, 0, MOST_LODGERS);
            System.arraycopy(other.pairs, 0, pairs, 0, MOST_FRIENDS);
            System.arraycopy(other.prizes, 0, prizes, 0, MOST_PRIZES);
            System.arraycopy(other.sawFirst, 0, sawFirst, 0, MOST_SEEN);
            System.arraycopy(other.sawSecond, 0, sawSecond, 0, MOST_SEEN);
            System.arraycopy(other.sawBend, 0, sawBend, 0, MOST_SEEN);
        }

        int friendsOf(int l) {
            int bits = 0;
            for (int i = 0; i < sizes[FRIENDS]; i++) {
                if ((pairs[i] >> l & 1) == 1) {
                    bits |= pairs[i];
                }
            }
            return bits & ~(1 << l);
        }

        /** The bridge stands behind the first bend: without one it takes nothing. */
        int storeysLost(int h) {
            return sizes[BENDS] > 0 && storeys[h] > sizes[BRIDGE] ? storeys[h] - sizes[BRIDGE] : 0;
        }

        int prizeFor(int rank) {
            return rank >= 0 && rank < sizes[PRIZES] ? prizes[rank] : 0;
        }

        /** How many ways there are to put each lodger aboard a house or ashore, fitting or not. */
        int countOfLoads() {
            int count = 1;
            for (int l = 0; l < sizes[LODGERS]; l++) {
                count *= sizes[HOUSES] + 1;
            }
            return count;
        }
    }

    /** What acts, rain or a trial change, and the TIMES that follow from it. */
    private static final class Race {
        final Told told;
        /** Of each house who is aboard, as bits. */
        final int[] crews = new int[MOST_HOUSES];
        int water;
        /** Bends where it rains, houses LIT, houses in the right lane, as bits. */
        int rainy;
        int lit;
        int lanes;

        Race(Told told) {
            this.told = told;
        }

        void clear() {
            for (int h = 0; h < crews.length; h++) {
                crews[h] = 0;
            }
            water = 0;
            rainy = 0;
            lit = 0;
            lanes = 0;
        }

        void become(Race other) {
            System.arraycopy(other.crews, 0, crews, 0, MOST_HOUSES);
            water = other.water;
            rainy = other.rainy;
            lit = other.lit;
            lanes = other.lanes;
        }

        /** All that acts change, in one number; rain never falls on what is kept. */
        long packed() {
            long bits = water;
            bits = bits << MOST_HOUSES | lit;
            bits = bits << MOST_HOUSES | lanes;
            for (int h = 0; h < crews.length; h++) {
                bits = bits << MOST_LODGERS | crews[h];
            }
            return bits;
        }

        void unpack(long packed) {
            long bits = packed;
            for (int h = crews.length - 1; h >= 0; h--) {
                crews[h] = (int) (bits & (1 << MOST_LODGERS) - 1);
                bits >>= MOST_LODGERS;
            }
            lanes = (int) (bits & (1 << MOST_HOUSES) - 1);
            bits >>= MOST_HOUSES;
            lit = (int) (bits & (1 << MOST_HOUSES) - 1);
            water = (int) (bits >> MOST_HOUSES);
        }

        boolean isLit(int h) {
            return (lit >> h & 1) == 1;
        }

        int laneOf(int h) {
            return lanes >> h & 1;
        }

        void takeLane(int h, int lane) {
            lanes = lanes & ~(1 << h) | lane << h;
        }

        boolean hasRoom(int h) {
            return Integer.bitCount(crews[h]) < told.storeys[h];
        }

        int placeOf(int l) {
            for (int h = 0; h < told.sizes[HOUSES]; h++) {
                if ((crews[h] >> l & 1) == 1) {
                    return h;
                }
            }
            return ASHORE;
        }

        void put(int l, int place) {
            for (int h = 0; h < crews.length; h++) {
                crews[h] &= ~(1 << l);
            }
            if (place >= 0 && place < crews.length) {
                crews[place] |= 1 << l;
            }
        }

        int weightOf(int h) {
            int weight = told.kinds[h] == VILLA ? told.tiles[h] / 2 : told.tiles[h];
            for (int l = 0; l < told.sizes[LODGERS]; l++) {
                if ((crews[h] >> l & 1) == 1) {
                    weight += told.weighs[l];
                }
            }
            return weight;
        }

        int powerOf(int h) {
            int rows = 0;
            int rowers = 0;
            for (int l = 0; l < told.sizes[LODGERS]; l++) {
                if ((crews[h] >> l & 1) == 1) {
                    rows += told.rows[l];
                    rowers++;
                }
            }
            return water + (told.kinds[h] == TERRACE && rowers >= 2 ? 2 * rows : rows);
        }

        int timeOn(int h, int k) {
            return timeBy(h, k, weightOf(h), powerOf(h));
        }

        private int timeBy(int h, int k, int weight, int dryPower) {
            boolean outside = told.kinds[h] != PUB && laneOf(h) != told.insides[k];
            int way = told.lengths[k] + (outside ? 2 : 0);
            int power = dryPower + ((rainy >> k & 1) == 1 ? told.sizes[BY] : 0);
            if (power < 1) {
                return 0;
            }
            int unlit = (way * (weight + 10) + power - 1) / power;
            return isLit(h) ? unlit - unlit / 10 : unlit;
        }

        int timeBehind(int h, int bend) {
            int sum = told.storeysLost(h) * told.sizes[STOREY];
            int weight = weightOf(h);
            int power = powerOf(h);
            for (int k = 0; k <= bend && k < told.sizes[BENDS]; k++) {
                sum += timeBy(h, k, weight, power);
            }
            return sum;
        }

        int wholeTime(int h) {
            return timeBehind(h, told.sizes[BENDS] - 1);
        }

        boolean isAhead(int h, int other, int k) {
            return timeBehind(h, k) < timeBehind(other, k);
        }

        /** How many a house has passed between the bend before and this one. */
        int passedBy(int h, int k) {
            int count = 0;
            for (int other = 0; other < told.sizes[HOUSES]; other++) {
                if (isAhead(other, h, k - 1) && isAhead(h, other, k)) {
                    count++;
                }
            }
            return count;
        }

        int firstNotSo() {
            for (int i = 0; i < told.sizes[SEEN]; i++) {
                if (!isAhead(told.sawFirst[i], told.sawSecond[i], told.sawBend[i])) {
                    return i;
                }
            }
            return NOT_ANY;
        }

        int friendsTogether() {
            int count = 0;
            for (int i = 0; i < told.sizes[FRIENDS]; i++) {
                for (int h = 0; h < told.sizes[HOUSES]; h++) {
                    if ((crews[h] & told.pairs[i]) == told.pairs[i]) {
                        count++;
                    }
                }
            }
            return count;
        }

        boolean fits() {
            for (int h = 0; h < told.sizes[HOUSES]; h++) {
                if (Integer.bitCount(crews[h]) > told.storeys[h]) {
                    return false;
                }
            }
            return true;
        }

        int movesFrom(Race other) {
            int moved = 0;
            for (int h = 0; h < crews.length; h++) {
                moved |= crews[h] ^ other.crews[h];
            }
            return Integer.bitCount(moved);
        }
    }

    /** TOTALS and the RANKS by them. */
    private static final class Standing {
        final int[] totals = new int[MOST_HOUSES];
        int houses;
        int lit;
        /** The first house with the least TOTAL: the one that may be LIT and not out. */
        int first;

        void take(Race race) {
            begin(race);
            for (int h = 0; h < houses; h++) {
                totals[h] = race.wholeTime(h);
            }
            settle();
        }

        void begin(Race race) {
            houses = race.told.sizes[HOUSES];
            lit = race.lit;
        }

        void settle() {
            first = 0;
            for (int h = 1; h < houses; h++) {
                if (totals[h] < totals[first]) {
                    first = h;
                }
            }
        }

        boolean isOut(int h) {
            return h != first && (lit >> h & 1) == 1;
        }

        int rankOf(int h) {
            int before = 0;
            for (int other = 0; other < houses; other++) {
                if (isBefore(other, h)) {
                    before++;
                }
            }
            return before;
        }

        private boolean isBefore(int h, int other) {
            boolean otherOut = isOut(other);
            if (isOut(h) != otherOut) {
                return otherOut;
            }
            return totals[h] < totals[other] || totals[h] == totals[other] && h < other;
        }

        int houseAt(int rank) {
            for (int h = 0; h < houses; h++) {
                if (rankOf(h) == rank) {
                    return h;
                }
            }
            return NONE;
        }
    }

    /** BEST and FRIENDLY LOADS, and what one house gains by whom. */
    private static final class Loads {
        private static final int UNASKED = -3;
        private static final int FRIENDLY = -2;

        final Told told;
        final Race now;
        final Race trial;
        final Standing standing;
        /** Of each house the TOTAL by who is aboard, so that a LOAD needs no TIMES of its own. */
        final int[][] totals = new int[MOST_HOUSES][1 << MOST_LODGERS];
        final int[] tried = new int[MOST_LODGERS];
        final int[] places = new int[MOST_LODGERS];
        int score;
        int moves;
        /** For which house, and in which state, the places were found: the same question is not worked out again. */
        int foundFor = UNASKED;
        long foundIn;

        Loads(Race now, Race trial, Standing standing) {
            this.told = now.told;
            this.now = now;
            this.trial = trial;
            this.standing = standing;
        }

        void forget() {
            foundFor = UNASKED;
        }

        /** The score is the RANK then. */
        void findBest(int h) {
            if (foundFor == h && foundIn == now.packed()) {
                return;
            }
            trial.become(now);
            for (int g = 0; g < told.sizes[HOUSES]; g++) {
                measure(g);
            }
            standing.begin(now);
            search(h);
        }

        /** The score is how many are TOGETHER then, below 0, so that less is better for either. */
        void findFriendly() {
            if (foundFor != FRIENDLY || foundIn != now.packed()) {
                search(FRIENDLY);
            }
        }

        private void measure(int h) {
            for (int crew = 0; crew < 1 << told.sizes[LODGERS]; crew++) {
                trial.crews[h] = crew;
                totals[h][crew] = trial.wholeTime(h);
            }
        }

        private void search(int question) {
            foundFor = question;
            foundIn = now.packed();
            score = BEYOND;
            moves = BEYOND;
            allAshore();
            int count = told.countOfLoads();
            for (int i = 0; i < count; i++) {
                if (trial.fits()) {
                    compare(question == FRIENDLY ? -trial.friendsTogether() : rankByLoad(question));
                }
                nextLoad();
            }
        }

        private void allAshore() {
            for (int l = 0; l < tried.length; l++) {
                tried[l] = ASHORE;
            }
            for (int h = 0; h < trial.crews.length; h++) {
                trial.crews[h] = 0;
            }
        }

        /** The last lodger's place changes first, so that LOADS come as the document orders them. */
        private void nextLoad() {
            for (int l = told.sizes[LODGERS] - 1; l >= 0; l--) {
                int place = tried[l];
                if (place >= 0) {
                    trial.crews[place] &= ~(1 << l);
                }
                int next = place == ASHORE ? 0 : place + 1;
                if (next < told.sizes[HOUSES]) {
                    tried[l] = next;
                    trial.crews[next] |= 1 << l;
                    return;
                }
                tried[l] = ASHORE;
            }
        }

        private int rankByLoad(int h) {
            for (int g = 0; g < told.sizes[HOUSES]; g++) {
                standing.totals[g] = totals[g][trial.crews[g]];
            }
            standing.settle();
            return standing.rankOf(h);
        }

        private void compare(int found) {
            if (found > score) {
                return;
            }
            int moved = trial.movesFrom(now);
            if (found == score && moved >= moves) {
                return;
            }
            score = found;
            moves = moved;
            System.arraycopy(tried, 0, places, 0, MOST_LODGERS);
        }

        int leastTime(int h) {
            trial.become(now);
            int least = BEYOND;
            for (int crew = 0; crew < 1 << told.sizes[LODGERS]; crew++) {
                trial.crews[h] = crew;
                if (Integer.bitCount(crew) <= told.storeys[h]) {
                    least = Math.min(least, trial.wholeTime(h));
                }
            }
            return least;
        }

        int fewestFor(int h, int most) {
            trial.become(now);
            int found = NOT_ANY;
            int fewest = told.storeys[h] + 1;
            for (int crew = 0; crew < 1 << told.sizes[LODGERS]; crew++) {
                trial.crews[h] = crew;
                if (Integer.bitCount(crew) < fewest && trial.wholeTime(h) <= most) {
                    fewest = Integer.bitCount(crew);
                    found = crew;
                }
            }
            return found;
        }

        int oneToMove(int h) {
            trial.become(now);
            int found = NOT_ANY;
            int least = now.wholeTime(h);
            for (int l = 0; l < told.sizes[LODGERS]; l++) {
                boolean aboard = (now.crews[h] >> l & 1) == 1;
                trial.crews[h] = now.crews[h] ^ 1 << l;
                if ((aboard || now.hasRoom(h)) && trial.wholeTime(h) < least) {
                    least = trial.wholeTime(h);
                    found = l;
                }
            }
            return found;
        }

        int twoToSwap(int h) {
            int found = NOT_ANY;
            int least = now.wholeTime(h);
            for (int l = 0; l < told.sizes[LODGERS]; l++) {
                for (int other = l + 1; other < told.sizes[LODGERS]; other++) {
                    trial.become(now);
                    trial.put(l, now.placeOf(other));
                    trial.put(other, now.placeOf(l));
                    if (trial.wholeTime(h) < least) {
                        least = trial.wholeTime(h);
                        found = 10 * l + other;
                    }
                }
            }
            return found;
        }
    }

    /** FIRES and whom to ASK of. */
    private static final class Fires {
        final Race now;
        final Race trial;
        final int[] sets = new int[1 << MOST_HOUSES];
        int count;

        Fires(Race now, Race trial) {
            this.now = now;
            this.trial = trial;
        }

        void find() {
            trial.become(now);
            count = 0;
            for (int set = 0; set < 1 << now.told.sizes[HOUSES]; set++) {
                trial.lit = set;
                if (trial.firstNotSo() == NOT_ANY && count < sets.length) {
                    sets[count] = set;
                    count++;
                }
            }
        }

        int inSome() {
            int bits = 0;
            for (int i = 0; i < count; i++) {
                bits |= sets[i];
            }
            return bits;
        }

        int inAll() {
            int bits = count == 0 ? 0 : (1 << MOST_HOUSES) - 1;
            for (int i = 0; i < count; i++) {
                bits &= sets[i];
            }
            return bits;
        }

        /** How many sets are left at most, a house having told whether it was LIT. */
        int leftBy(int h) {
            int with = 0;
            for (int i = 0; i < count; i++) {
                with += sets[i] >> h & 1;
            }
            return Math.max(with, count - with);
        }

        int bestToAsk() {
            int best = 0;
            for (int h = 1; h < now.told.sizes[HOUSES]; h++) {
                if (leftBy(h) < leftBy(best)) {
                    best = h;
                }
            }
            return best;
        }
    }

    /** What RAIN makes likely, and RACES by a SEED. */
    private static final class Rain {
        final Told told;
        final Race now;
        final Race trial;
        final Standing standing;
        long upper;
        long lower = 1;
        int seed;

        Rain(Race now, Race trial, Standing standing) {
            this.told = now.told;
            this.now = now;
            this.trial = trial;
            this.standing = standing;
        }

        long part(boolean isLower) {
            return isLower ? lower : upper;
        }

        void findOdds(int h, int r) {
            begin();
            for (int rainy = 0; rainy < 1 << told.sizes[BENDS]; rainy++) {
                trial.rainy = rainy;
                standing.take(trial);
                if (standing.rankOf(h) == r) {
                    upper += weightOfRain(rainy);
                }
            }
            reduce();
        }

        void findMean(int h) {
            begin();
            for (int rainy = 0; rainy < 1 << told.sizes[BENDS]; rainy++) {
                trial.rainy = rainy;
                standing.take(trial);
                upper += weightOfRain(rainy) * standing.totals[h];
            }
            reduce();
        }

        void findHopes(int h) {
            begin();
            for (int rainy = 0; rainy < 1 << told.sizes[BENDS]; rainy++) {
                trial.rainy = rainy;
                standing.take(trial);
                upper += weightOfRain(rainy) * told.prizeFor(standing.rankOf(h));
            }
            reduce();
        }

        private void begin() {
            trial.become(now);
            upper = 0;
            lower = 1;
            for (int k = 0; k < told.sizes[BENDS]; k++) {
                lower *= 100;
            }
        }

        private long weightOfRain(int rainy) {
            long weight = 1;
            for (int k = 0; k < told.sizes[BENDS]; k++) {
                weight *= (rainy >> k & 1) == 1 ? told.sizes[RAIN] : 100 - told.sizes[RAIN];
            }
            return weight;
        }

        private void reduce() {
            long divisor = lower;
            long other = upper;
            for (int i = 0; i < 100 && other != 0; i++) {
                long left = divisor % other;
                divisor = other;
                other = left;
            }
            if (divisor > 1) {
                upper /= divisor;
                lower /= divisor;
            }
        }

        int racesWon(int h, int firstSeed, int n) {
            beginRaces(firstSeed);
            int count = 0;
            for (int i = 0; i < n; i++) {
                drawRain();
                standing.take(trial);
                if (standing.rankOf(h) == 0) {
                    count++;
                }
            }
            return count;
        }

        int leastOfRaces(int firstSeed, int n) {
            beginRaces(firstSeed);
            int least = BEYOND;
            for (int i = 0; i < n; i++) {
                drawRain();
                standing.take(trial);
                least = Math.min(least, standing.totals[standing.first]);
            }
            return least;
        }

        private void beginRaces(int firstSeed) {
            trial.become(now);
            seed = firstSeed;
        }

        private void drawRain() {
            trial.rainy = 0;
            for (int k = 0; k < told.sizes[BENDS]; k++) {
                seed = (75 * seed + 74) % SEEDS;
                if (seed % 100 < told.sizes[RAIN]) {
                    trial.rainy |= 1 << k;
                }
            }
        }
    }

    /** What stood ahead of each act, and IMAGES. */
    private static final class Kept {
        final Race now;
        final long[] before = new long[KEPT_ACTS];
        final long[] pictures = new long[KEPT_IMAGES];
        int acts;
        int images;

        Kept(Race now) {
            this.now = now;
        }

        void clear() {
            acts = 0;
            images = 0;
        }

        void keepAct() {
            if (acts >= KEPT_ACTS) {
                System.arraycopy(before, 1, before, 0, KEPT_ACTS - 1);
                acts = KEPT_ACTS - 1;
            }
            before[acts] = now.packed();
            acts++;
        }

        void takeBackAct() {
            if (acts > 0) {
                acts--;
                now.unpack(before[acts]);
            }
        }

        int keepImage() {
            if (images >= KEPT_IMAGES) {
                return NONE;
            }
            pictures[images] = now.packed();
            images++;
            return images - 1;
        }

        void goBackTo(int image) {
            if (image >= 0 && image < images) {
                now.unpack(pictures[image]);
                acts = 0;
            }
        }
    }

    /** Cuts a text into TOKENS, one at a time, up to the first that is blamed for a FAULT. */
    private static final class Tokens {
        static final int END = 0;
        static final int WORD = 1;
        static final int WHOLE = 2;
        static final int PARTING = 3;
        static final int BAD = 4;

        final byte[] text;
        int end;
        int start;
        int next;
        int sort;
        int blamed;
        int place;

        Tokens(byte[] text) {
            this.text = text;
        }

        void begin(int length) {
            end = Math.min(length, text.length);
            next = 0;
            blamed = 0;
            place = NONE;
            step();
        }

        /** The first FAULT stands: what is found behind it, at one place too, has a greater number. */
        void blame(int why) {
            if (blamed == 0) {
                blamed = why;
                place = start;
            }
        }

        void step() {
            if (blamed != 0) {
                return;
            }
            while (next < end && text[next] == ' ') {
                next++;
            }
            start = next;
            sort = start < end ? sortOf(text[start]) : END;
            if (sort == PARTING) {
                next++;
            }
            while (next < end && (sort == WORD || sort == WHOLE) && sortOf(text[next]) == sort) {
                next++;
            }
            if (next - start > (sort == WORD ? 8 : 3)) {
                sort = BAD;
            }
        }

        private static int sortOf(byte sign) {
            if (sign >= 'a' && sign <= 'z') {
                return WORD;
            }
            if (sign >= '0' && sign <= '9') {
                return WHOLE;
            }
            return sign == ';' ? PARTING : BAD;
        }

        boolean is(String word) {
            if (sort != WORD || next - start != word.length()) {
                return false;
            }
            for (int i = 0; i < word.length(); i++) {
                if (text[start + i] != word.charAt(i)) {
                    return false;
                }
            }
            return true;
        }

        int value() {
            int value = 0;
            for (int i = start; i < next && sort == WHOLE; i++) {
                value = 10 * value + text[i] - '0';
            }
            return value;
        }

        boolean isSameAs(int from, int to) {
            if (next - start != to - from) {
                return false;
            }
            for (int i = from; i < to; i++) {
                if (text[i] != text[start + i - from]) {
                    return false;
                }
            }
            return true;
        }
    }

    /** NAMES told so far: where they stand in the text, and of what. */
    private static final class Names {
        final int[] starts = new int[MOST_NAMES];
        final int[] ends = new int[MOST_NAMES];
        final int[] sorts = new int[MOST_NAMES];
        final int[] numbers = new int[MOST_NAMES];
        int count;

        void add(Tokens token, int sort, int number) {
            if (count < MOST_NAMES) {
                starts[count] = token.start;
                ends[count] = token.next;
                sorts[count] = sort;
                numbers[count] = number;
                count++;
            }
        }

        int find(Tokens token) {
            for (int i = 0; i < count; i++) {
                if (token.isSameAs(starts[i], ends[i])) {
                    return i;
                }
            }
            return NONE;
        }
    }

    /** Reads the text of a REGATTA up to its first FAULT; behind a FAULT nothing more is read. */
    private static final class Reader {
        private static final int FORM = 1;
        private static final int UNTOLD = 2;
        private static final int AGAIN = 3;
        private static final int BOUNDS = 4;
        private static final int MANY = 5;
        private static final int LACKS = 6;
        private static final int CROWDED = 7;

        /** Sorts of LINES beside those that size() counts. */
        private static final int REGATTA_LINE = 11;
        private static final int ABOARD_LINE = 12;

        final Tokens token;
        final Names names = new Names();
        final Told told = new Told();
        final Race start = new Race(told);
        boolean begun;

        Reader(byte[] text) {
            token = new Tokens(text);
        }

        void read(int length) {
            told.clear();
            start.clear();
            names.count = 0;
            begun = false;
            token.begin(length);
            readLine();
            for (int i = 0; i < length && token.blamed == 0 && token.sort == Tokens.PARTING; i++) {
                token.step();
                readLine();
            }
            if (token.sort != Tokens.END) {
                token.blame(FORM);
            } else if (told.sizes[HOUSES] == 0) {
                token.blame(LACKS);
            }
        }

        private void readLine() {
            int line = sortOfLine();
            int why = faultOfLine(line);
            if (why != 0) {
                token.blame(why);
                return;
            }
            token.step();
            switch (line) {
                case REGATTA_LINE: readRegatta(); break;
                case BENDS: readBend(); break;
                case HOUSES: readHouse(); break;
                case LODGERS: readLodger(); break;
                case ABOARD_LINE: readAboard(); break;
                case FRIENDS: readFriend(); break;
                case PRIZES: readPrize(); break;
                case SEEN: readSaw(); break;
                default: break;
            }
        }

        private int sortOfLine() {
            if (token.is("regatta")) {
                return REGATTA_LINE;
            }
            if (token.is("aboard")) {
                return ABOARD_LINE;
            }
            if (token.is("bend")) {
                return BENDS;
            }
            if (token.is("house")) {
                return HOUSES;
            }
            if (token.is("lodger")) {
                return LODGERS;
            }
            if (token.is("friend")) {
                return FRIENDS;
            }
            if (token.is("prize")) {
                return PRIZES;
            }
            return token.is("saw") ? SEEN : NONE;
        }

        private int faultOfLine(int line) {
            if (line == NONE) {
                return FORM;
            }
            if (line == REGATTA_LINE) {
                return begun ? AGAIN : 0;
            }
            if (!begun) {
                return LACKS;
            }
            return line < TOLD_SIZES && told.sizes[line] >= roomFor(line) ? MANY : 0;
        }

        private static int roomFor(int line) {
            switch (line) {
                case BENDS: return MOST_BENDS;
                case HOUSES: return MOST_HOUSES;
                case LODGERS: return MOST_LODGERS;
                case FRIENDS: return MOST_FRIENDS;
                case PRIZES: return MOST_PRIZES;
                case SEEN: return MOST_SEEN;
                default: return 0;
            }
        }

        private void readRegatta() {
            begun = true;
            readWord("water");
            told.sizes[WATER] = readWhole(1, MOST_WATER);
            readWord("bridge");
            told.sizes[BRIDGE] = readWhole(1, 6);
            readWord("storey");
            told.sizes[STOREY] = readWhole(0, 30);
            readWord("rain");
            told.sizes[RAIN] = readWhole(0, 100);
            readWord("by");
            told.sizes[BY] = readWhole(0, 9);
            start.water = told.sizes[WATER];
        }

        private void readBend() {
            tellName(BENDS);
            readWord("long");
            int length = readWhole(1, 30);
            int inside = readSide();
            int k = told.sizes[BENDS];
            if (token.blamed == 0 && k < MOST_BENDS) {
                told.lengths[k] = length;
                told.insides[k] = inside;
                told.sizes[BENDS]++;
            }
        }

        private void readHouse() {
            tellName(HOUSES);
            int kind = readKind();
            int lane = readSide();
            readWord("tiles");
            int tiles = readWhole(0, 50);
            readWord("storeys");
            int storeys = readWhole(1, 6);
            int h = told.sizes[HOUSES];
            if (token.blamed == 0 && h < MOST_HOUSES) {
                told.kinds[h] = kind;
                told.tiles[h] = tiles;
                told.storeys[h] = storeys;
                start.takeLane(h, lane);
                told.sizes[HOUSES]++;
            }
        }

        private void readLodger() {
            tellName(LODGERS);
            readWord("weighs");
            int weighs = readWhole(0, 30);
            readWord("rows");
            int rows = readWhole(0, 9);
            int l = told.sizes[LODGERS];
            if (token.blamed == 0 && l < MOST_LODGERS) {
                told.weighs[l] = weighs;
                told.rows[l] = rows;
                told.sizes[LODGERS]++;
            }
        }

        private void readAboard() {
            int l = numberOfName(LODGERS);
            if (start.placeOf(l) != ASHORE) {
                token.blame(AGAIN);
            }
            token.step();
            int h = numberOfName(HOUSES);
            if (!start.hasRoom(h)) {
                token.blame(CROWDED);
            }
            token.step();
            if (token.blamed == 0) {
                start.put(l, h);
            }
        }

        private void readFriend() {
            int l = numberOfName(LODGERS);
            token.step();
            int other = numberOfName(LODGERS);
            if (l == other || (told.friendsOf(l) >> other & 1) == 1) {
                token.blame(AGAIN);
            }
            token.step();
            int i = told.sizes[FRIENDS];
            if (token.blamed == 0 && i < MOST_FRIENDS) {
                told.pairs[i] = 1 << l | 1 << other;
                told.sizes[FRIENDS]++;
            }
        }

        private void readPrize() {
            int worth = readWhole(0, 99);
            int i = told.sizes[PRIZES];
            if (token.blamed == 0 && i < MOST_PRIZES) {
                told.prizes[i] = worth;
                told.sizes[PRIZES]++;
            }
        }

        private void readSaw() {
            int h = numberOfName(HOUSES);
            token.step();
            int other = numberOfName(HOUSES);
            if (h == other) {
                token.blame(AGAIN);
            }
            token.step();
            int k = numberOfName(BENDS);
            token.step();
            int i = told.sizes[SEEN];
            if (token.blamed == 0 && i < MOST_SEEN) {
                told.sawFirst[i] = h;
                told.sawSecond[i] = other;
                told.sawBend[i] = k;
                told.sizes[SEEN]++;
            }
        }

        private void readWord(String word) {
            if (!token.is(word)) {
                token.blame(FORM);
            }
            token.step();
        }

        private int readWhole(int least, int most) {
            if (token.sort != Tokens.WHOLE) {
                token.blame(FORM);
            }
            int value = token.value();
            if (value < least || value > most) {
                token.blame(BOUNDS);
            }
            token.step();
            return value;
        }

        private int readSide() {
            int side = token.is("right") ? RIGHT : LEFT;
            if (side == LEFT && !token.is("left")) {
                token.blame(FORM);
            }
            token.step();
            return side;
        }

        private int readKind() {
            int kind = COTTAGE;
            if (token.is("terrace")) {
                kind = TERRACE;
            } else if (token.is("villa")) {
                kind = VILLA;
            } else if (token.is("pub")) {
                kind = PUB;
            } else if (!token.is("cottage")) {
                token.blame(FORM);
            }
            token.step();
            return kind;
        }

        private void tellName(int sort) {
            if (token.sort != Tokens.WORD || sortOfLine() != NONE) {
                token.blame(FORM);
            }
            if (names.find(token) != NONE) {
                token.blame(AGAIN);
            }
            if (token.blamed == 0) {
                names.add(token, sort, told.sizes[sort]);
            }
            token.step();
        }

        /** Does not step, for the NAME may have a further FAULT; 0, which is a safe number, with one. */
        private int numberOfName(int sort) {
            if (token.sort != Tokens.WORD || sortOfLine() != NONE) {
                token.blame(FORM);
            }
            int found = names.find(token);
            if (found == NONE || names.sorts[found] != sort) {
                token.blame(UNTOLD);
                return 0;
            }
            return names.numbers[found];
        }
    }
}
