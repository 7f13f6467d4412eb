import java.math.BigInteger;
import java.util.ArrayDeque;
import java.util.ArrayList;
import java.util.Comparator;
import java.util.Deque;
import java.util.List;
import java.util.NoSuchElementException;
import java.util.function.IntPredicate;
import java.util.function.IntUnaryOperator;
import java.util.stream.IntStream;

/** A second program, written from the document alone and as slowly as may be: what a run of calls must answer. */
final class Model {
    /** What acts change. */
    static final class State implements Cloneable {
        int water;
        boolean[] lit = new boolean[4];
        int[] lane = new int[4];
        int[] place = {-2, -2, -2, -2, -2};

        State copy() {
            State s = new State();
            s.water = water;
            s.lit = lit.clone();
            s.lane = lane.clone();
            s.place = place.clone();
            return s;
        }
    }

    private static final class Refused extends RuntimeException {
        private static final long serialVersionUID = 1L;
        final int why;

        Refused(int why) {
            this.why = why;
        }
    }

    private static final boolean[] DRY = new boolean[4];

    private final StringBuilder tape = new StringBuilder();
    private int[] head = new int[5];
    private List<int[]> bends = new ArrayList<>();
    private List<int[]> houses = new ArrayList<>();
    private List<int[]> lodgers = new ArrayList<>();
    private List<int[]> friends = new ArrayList<>();
    private List<int[]> prizes = new ArrayList<>();
    private List<int[]> seen = new ArrayList<>();
    private State now = new State();
    private final Deque<State> acts = new ArrayDeque<>();
    private final List<State> images = new ArrayList<>();
    int fault;
    int place = -1;
    int trouble;

    /** The answer due; a boolean counts 1 or 0. */
    long call(String name, int[] a) {
        if (name.equals("feed") || name.equals("fault") || name.equals("where") || name.equals("trouble")
            || name.equals("size") || name.equals("led")) {
            return unrefused(name, a);
        }
        try {
            long answer = answer(name, a);
            trouble = 0;
            return answer;
        } catch (Refused refused) {
            trouble = refused.why;
            if (name.equals("weir")) {
                return -100;
            }
            return List.of("ashore", "light", "raise", "undo", "back").contains(name) ? 0 : -1;
        }
    }

    private long unrefused(String name, int[] a) {
        switch (name) {
            case "feed": return feed(a);
            case "fault": return fault;
            case "where": return trouble == 4 ? place : -1;
            case "trouble": return trouble;
            case "size": return sizeOf(a[0]);
            default: return IntStream.range(0, lodgers.size()).filter(l -> now.place[l] == -2)
                .skip(Math.max(0, a[0])).filter(l -> a[0] >= 0).findFirst()
                .orElseThrow(NoSuchElementException::new);
        }
    }

    private int feed(int[] a) {
        if (tape.length() + 20 > 900) {
            return -1;
        }
        for (int number : a) {
            for (byte b : BigInteger.valueOf(number & 0xffffffffL | 1L << 40).toByteArray()) {
                tape.append((char) (b & 255));
            }
            // the mark at bit 40 makes six bytes, of which the last four count
            tape.delete(tape.length() - 6, tape.length() - 4);
        }
        return tape.length();
    }

    private int sizeOf(int what) {
        int[] sizes = {now.water, head[1], head[2], head[3], head[4], bends.size(), houses.size(), lodgers.size(),
            friends.size(), prizes.size(), seen.size(), acts.size(), images.size(), tape.length()};
        return what >= 0 && what < sizes.length ? sizes[what] : -1;
    }

    private static void refuseUnless(boolean fine, int why) {
        if (!fine) {
            throw new Refused(why);
        }
    }

    private void needHouse(int h) {
        refuseUnless(h >= 0 && h < houses.size(), 1);
    }

    private void needLodger(int l) {
        refuseUnless(l >= 0 && l < lodgers.size(), 1);
    }

    private void needBend(int k) {
        refuseUnless(k >= 0 && k < bends.size(), 1);
    }

    private void needTold() {
        refuseUnless(!houses.isEmpty(), 1);
    }

    private static void needNumber(int number, int least, int most) {
        refuseUnless(number >= least && number <= most, 2);
    }

    private long answer(String name, int[] a) {
        switch (name) {
            case "regatta": return tell(a[0]);
            case "house": case "lodger": case "bend": case "time": case "soFar": case "total": case "loses":
            case "rank": case "ranked": case "out": case "prize": case "ahead": case "leader": case "full":
            case "passes": case "fastest": case "storey": case "together":
                return ofNow(name, a);
            case "bestRank": case "loadOf": case "loadMoves": case "leastTotal": case "friendly":
            case "friendlyOf": case "leastFor": case "toMove": case "waterFor": case "bestSwap": case "bestLane":
                return ofLoads(name, a);
            case "fires": case "fireAt": case "could": case "surely": case "ask": case "askLeaves": case "judge":
                return ofFires(name, a);
            case "odds": case "mean": case "hopes": case "wins": case "record":
                return ofRain(name, a);
            case "weir": case "rests": case "rest":
                return ofWeir(name, a);
            default: return act(name, a);
        }
    }

    private int tell(int n) {
        refuseUnless(n >= 0 && n <= tape.length(), 2);
        TextModel text = new TextModel(tape.substring(0, n));
        tape.setLength(0);
        fault = text.fault;
        place = text.where;
        refuseUnless(fault == 0, 4);
        head = text.told.get("regatta").get(0);
        bends = text.told.get("bend");
        houses = text.told.get("house");
        lodgers = text.told.get("lodger");
        friends = text.told.get("friend");
        prizes = text.told.get("prize");
        seen = text.told.get("saw");
        now = new State();
        now.water = head[0];
        for (int h = 0; h < houses.size(); h++) {
            now.lane[h] = houses.get(h)[1];
        }
        for (int[] row : text.told.get("aboard")) {
            now.place[row[0]] = row[1];
        }
        acts.clear();
        images.clear();
        return houses.size();
    }

    // ---- TIMES and RANKS of any state

    private int[] aboard(State s, int h) {
        return IntStream.range(0, lodgers.size()).filter(l -> s.place[l] == h).toArray();
    }

    private int weight(State s, int h) {
        int tiles = houses.get(h)[0] == 2 ? Math.floorDiv(houses.get(h)[2], 2) : houses.get(h)[2];
        return tiles + IntStream.of(aboard(s, h)).map(l -> lodgers.get(l)[0]).sum();
    }

    private int power(State s, int h) {
        int[] crew = aboard(s, h);
        int rows = IntStream.of(crew).map(l -> lodgers.get(l)[1]).sum();
        return s.water + (houses.get(h)[0] == 1 && crew.length > 1 ? rows + rows : rows);
    }

    private int time(State s, int h, int k, boolean[] wet) {
        int way = bends.get(k)[0];
        if (houses.get(h)[0] != 3 && s.lane[h] != bends.get(k)[1]) {
            way += 2;
        }
        int power = power(s, h) + (wet[k] ? head[4] : 0);
        int time = (int) -Math.floorDiv(-(long) way * (weight(s, h) + 10), (long) power);
        return s.lit[h] ? time - time / 10 : time;
    }

    private int lost(int h) {
        return bends.isEmpty() ? 0 : Math.max(0, houses.get(h)[3] - head[1]);
    }

    private int soFar(State s, int h, int k, boolean[] wet) {
        return lost(h) * head[2] + IntStream.rangeClosed(0, k).map(i -> time(s, h, i, wet)).sum();
    }

    private int total(State s, int h, boolean[] wet) {
        return soFar(s, h, bends.size() - 1, wet);
    }

    private int total(State s, int h) {
        return total(s, h, DRY);
    }

    private boolean isOut(State s, int h, boolean[] wet) {
        int first = IntStream.range(0, houses.size()).boxed()
            .min(Comparator.comparing((Integer g) -> total(s, g, wet)).thenComparing(g -> g)).get();
        return s.lit[h] && first != h;
    }

    private List<Integer> order(State s, boolean[] wet) {
        List<Integer> order = new ArrayList<>(IntStream.range(0, houses.size()).boxed().toList());
        int[] totals = order.stream().mapToInt(h -> total(s, h, wet)).toArray();
        order.sort(Comparator.comparing((Integer h) -> isOut(s, h, wet)).thenComparing(h -> totals[h])
            .thenComparing(h -> h));
        return order;
    }

    private int prizeOf(int rank) {
        return rank < prizes.size() ? prizes.get(rank)[0] : 0;
    }

    private int least(int count, IntUnaryOperator value) {
        int best = 0;
        for (int i = 1; i < count; i++) {
            if (value.applyAsInt(i) < value.applyAsInt(best)) {
                best = i;
            }
        }
        return best;
    }

    private int bits(int count, IntPredicate is) {
        return IntStream.range(0, count).filter(is).map(i -> 1 << i).sum();
    }

    private int together(State s) {
        return (int) friends.stream().filter(f -> s.place[f[0]] >= 0 && s.place[f[0]] == s.place[f[1]]).count();
    }

    private long ofNow(String name, int[] a) {
        if (List.of("full", "passes", "together").contains(name)) {
            needTold();
        } else if (name.equals("lodger")) {
            needLodger(a[0]);
        } else if (List.of("bend", "leader", "fastest").contains(name)) {
            needBend(a[0]);
        } else {
            needHouse(a[0]);
        }
        switch (name) {
            case "house": return ofHouse(a[0], a[1]);
            case "lodger": return ofLodger(a[0], a[1]);
            case "bend":
                refuseUnless(a[1] >= 0 && a[1] < 2, 1);
                return bends.get(a[0])[a[1]];
            case "time":
                needBend(a[1]);
                return time(now, a[0], a[1], DRY);
            case "soFar":
                needBend(a[1]);
                return soFar(now, a[0], a[1], DRY);
            case "total": return total(now, a[0]);
            case "loses": return lost(a[0]);
            case "rank": return order(now, DRY).indexOf(a[0]);
            case "ranked": return order(now, DRY).get(a[0]);
            case "out": return isOut(now, a[0], DRY) ? 1 : 0;
            case "prize": return prizeOf(order(now, DRY).indexOf(a[0]));
            case "ahead":
                needHouse(a[1]);
                refuseUnless(a[0] != a[1], 1);
                return IntStream.range(0, bends.size())
                    .filter(k -> soFar(now, a[0], k, DRY) < soFar(now, a[1], k, DRY)).findFirst().orElse(-2);
            case "leader": return least(houses.size(), h -> soFar(now, h, a[0], DRY));
            case "full": return bits(houses.size(), h -> aboard(now, h).length == houses.get(h)[3]);
            case "passes": return passes();
            case "fastest": return least(houses.size(), h -> time(now, h, a[0], DRY));
            case "storey": return lower(a[0]);
            default: return together(now);
        }
    }

    private int ofHouse(int h, int what) {
        refuseUnless(what >= 0 && what < 8, 1);
        int[] row = houses.get(h);
        return new int[] {row[0], row[2], row[3], now.lane[h], weight(now, h), power(now, h),
            bits(lodgers.size(), l -> now.place[l] == h), now.lit[h] ? 1 : 0}[what];
    }

    private int ofLodger(int l, int what) {
        refuseUnless(what >= 0 && what < 4, 1);
        int bits = bits(lodgers.size(), o -> friends.stream()
            .anyMatch(f -> f[0] == l && f[1] == o || f[0] == o && f[1] == l));
        return new int[] {lodgers.get(l)[0], lodgers.get(l)[1], now.place[l], bits}[what];
    }

    private int passes() {
        int count = 0;
        for (int k = 0; k + 1 < bends.size(); k++) {
            for (int g = 0; g < houses.size(); g++) {
                for (int h = 0; h < g; h++) {
                    int before = Integer.compare(soFar(now, g, k, DRY), soFar(now, h, k, DRY));
                    int behind = Integer.compare(soFar(now, g, k + 1, DRY), soFar(now, h, k + 1, DRY));
                    count += before * behind == -1 ? 1 : 0;
                }
            }
        }
        return count;
    }

    private int lower(int h) {
        int[] row = houses.get(h);
        if (row[3] == 1) {
            return 0;
        }
        int before = total(now, h);
        row[3]--;
        int behind = total(now, h);
        row[3]++;
        return before - behind;
    }

    // ---- loads

    private void loads(State s, int l, List<State> found) {
        if (l == lodgers.size()) {
            found.add(s.copy());
            return;
        }
        s.place[l] = -2;
        loads(s, l + 1, found);
        for (int h = 0; h < houses.size(); h++) {
            s.place[l] = -2;
            int taken = 0;
            for (int o = 0; o < l; o++) {
                taken += s.place[o] == h ? 1 : 0;
            }
            if (taken < houses.get(h)[3]) {
                s.place[l] = h;
                loads(s, l + 1, found);
            }
        }
        s.place[l] = -2;
    }

    private List<State> allLoads() {
        List<State> found = new ArrayList<>();
        loads(now.copy(), 0, found);
        return found;
    }

    private int moves(State s) {
        return (int) IntStream.range(0, lodgers.size()).filter(l -> s.place[l] != now.place[l]).count();
    }

    private State bestLoad(java.util.function.ToIntFunction<State> score) {
        int[] scores = new int[1];
        State best = null;
        for (State s : allLoads()) {
            int got = score.applyAsInt(s) * 10 + moves(s);
            if (best == null || got < scores[0]) {
                scores[0] = got;
                best = s;
            }
        }
        return best;
    }

    private State onlyAboard(int h, int crew) {
        State s = now.copy();
        for (int l = 0; l < lodgers.size(); l++) {
            s.place[l] = (crew >> l & 1) == 1 ? h : -2;
        }
        return s;
    }

    private long ofLoads(String name, int[] a) {
        switch (name) {
            case "friendly":
                needTold();
                return together(bestLoad(s -> -together(s)));
            case "friendlyOf":
                needLodger(a[0]);
                return bestLoad(s -> -together(s)).place[a[0]];
            default: needHouse(a[0]);
        }
        int h = a[0];
        switch (name) {
            case "bestRank": return order(bestLoad(s -> order(s, DRY).indexOf(h)), DRY).indexOf(h);
            case "loadMoves": return moves(bestLoad(s -> order(s, DRY).indexOf(h)));
            case "loadOf":
                needLodger(a[1]);
                return bestLoad(s -> order(s, DRY).indexOf(h)).place[a[1]];
            case "leastTotal": return allLoads().stream().mapToInt(s -> total(s, h)).min().getAsInt();
            case "leastFor":
                needNumber(a[1], 0, 30000);
                return IntStream.range(0, 1 << lodgers.size()).boxed()
                    .filter(c -> Integer.bitCount(c) <= houses.get(h)[3])
                    .filter(c -> total(onlyAboard(h, c), h) <= a[1])
                    .min(Comparator.comparing((Integer c) -> Integer.bitCount(c)).thenComparing(c -> c)).orElse(-2);
            case "toMove": return toMove(h);
            case "waterFor":
                needNumber(a[1], 0, 30000);
                return IntStream.rangeClosed(1, 20).filter(w -> {
                    State s = now.copy();
                    s.water = w;
                    return total(s, h) <= a[1];
                }).findFirst().orElse(-2);
            case "bestSwap": return bestSwap(h);
            default:
                State left = now.copy();
                left.lane[h] = 0;
                State right = now.copy();
                right.lane[h] = 1;
                return total(right, h) < total(left, h) ? 1 : 0;
        }
    }

    private int toMove(int h) {
        int found = -2;
        int least = total(now, h);
        for (int l = 0; l < lodgers.size(); l++) {
            State s = now.copy();
            s.place[l] = now.place[l] == h ? -2 : h;
            if (aboard(s, h).length <= houses.get(h)[3] && total(s, h) < least) {
                found = l;
                least = total(s, h);
            }
        }
        return found;
    }

    private int bestSwap(int h) {
        int found = -2;
        int least = total(now, h);
        for (int pair = 0; pair < 50; pair++) {
            int l = pair / 10;
            int other = pair % 10;
            if (l < other && other < lodgers.size() && now.place[l] != now.place[other]) {
                State s = now.copy();
                s.place[l] = now.place[other];
                s.place[other] = now.place[l];
                if (total(s, h) < least) {
                    found = pair;
                    least = total(s, h);
                }
            }
        }
        return found;
    }

    // ---- fires

    private boolean isSo(State s, int[] saw) {
        return soFar(s, saw[0], saw[2], DRY) < soFar(s, saw[1], saw[2], DRY);
    }

    private long ofFires(String name, int[] a) {
        needTold();
        int[] sets = IntStream.range(0, 1 << houses.size()).filter(set -> {
            State s = now.copy();
            for (int h = 0; h < 4; h++) {
                s.lit[h] = (set >> h & 1) == 1;
            }
            return seen.stream().allMatch(saw -> isSo(s, saw));
        }).toArray();
        IntUnaryOperator left = h -> {
            int with = (int) IntStream.of(sets).filter(set -> (set >> h & 1) == 1).count();
            return Math.max(with, sets.length - with);
        };
        int ask = least(houses.size(), left);
        switch (name) {
            case "fires": return sets.length;
            case "fireAt":
                refuseUnless(a[0] >= 0 && a[0] < sets.length, 1);
                return sets[a[0]];
            case "could": return bits(4, h -> IntStream.of(sets).anyMatch(set -> (set >> h & 1) == 1));
            case "surely":
                return sets.length == 0 ? 0 : bits(4, h -> IntStream.of(sets).allMatch(set -> (set >> h & 1) == 1));
            case "ask": return sets.length == 0 ? -2 : ask;
            case "askLeaves": return sets.length == 0 ? -2 : left.applyAsInt(ask);
            default:
                return IntStream.range(0, seen.size()).filter(i -> !isSo(now, seen.get(i))).findFirst().orElse(-2);
        }
    }

    // ---- rain, races

    /** The sum over all weathers from a bend on of how likely each is, times its value. */
    private BigInteger weathers(boolean[] wet, int k, java.util.function.ToIntFunction<boolean[]> value) {
        if (k == bends.size()) {
            return BigInteger.valueOf(value.applyAsInt(wet));
        }
        wet[k] = true;
        BigInteger sum = weathers(wet, k + 1, value).multiply(BigInteger.valueOf(head[3]));
        wet[k] = false;
        return sum.add(weathers(wet, k + 1, value).multiply(BigInteger.valueOf(100 - head[3])));
    }

    private long ofRain(String name, int[] a) {
        if (name.equals("record")) {
            needTold();
            needNumber(a[0], 0, 65536);
            needNumber(a[1], 1, 60);
            return races(a[0], a[1]).stream()
                .mapToInt(wet -> IntStream.range(0, houses.size()).map(h -> total(now, h, wet)).min().getAsInt())
                .min().getAsInt();
        }
        needHouse(a[0]);
        if (name.equals("wins")) {
            needNumber(a[1], 0, 65536);
            needNumber(a[2], 0, 60);
            return races(a[1], a[2]).stream().filter(wet -> order(now, wet).get(0) == a[0]).count();
        }
        BigInteger upper;
        if (name.equals("odds")) {
            needHouse(a[1]);
            upper = weathers(new boolean[4], 0, wet -> order(now, wet).get(a[1]) == a[0] ? 1 : 0);
        } else if (name.equals("mean")) {
            upper = weathers(new boolean[4], 0, wet -> total(now, a[0], wet));
        } else {
            upper = weathers(new boolean[4], 0, wet -> prizeOf(order(now, wet).indexOf(a[0])));
        }
        BigInteger lower = BigInteger.valueOf(100).pow(bends.size());
        BigInteger whole = a[a.length - 1] == 1 ? lower : upper;
        return whole.divide(upper.gcd(lower)).longValueExact();
    }

    private List<boolean[]> races(int seed, int n) {
        List<boolean[]> all = new ArrayList<>();
        long draw = seed;
        for (int i = 0; i < n; i++) {
            boolean[] wet = new boolean[4];
            for (int k = 0; k < bends.size(); k++) {
                draw = (draw * 75 + 74) % 65537;
                wet[k] = draw % 100 < head[3];
            }
            all.add(wet);
        }
        return all;
    }

    // ---- two at a weir

    private static int[] payoffs(int spite, int one, int other) {
        int[][] table = {{3, 3}, {1, 5}, {5, 1}, {-spite, -spite}};
        return table[2 * one + other];
    }

    private long ofWeir(String name, int[] a) {
        needTold();
        needNumber(a[0], 0, 9);
        if (name.equals("weir")) {
            return payoffs(a[0], a[1], a[2])[a[3]];
        }
        int[] rests = IntStream.of(0, 1, 10, 11).filter(pair -> {
            int one = pair / 10;
            int other = pair % 10;
            int[] have = payoffs(a[0], one, other);
            return payoffs(a[0], 1 - one, other)[0] <= have[0] && payoffs(a[0], one, 1 - other)[1] <= have[1];
        }).toArray();
        if (name.equals("rests")) {
            return rests.length;
        }
        return rests.length == 0 ? -2 : rests[0];
    }

    // ---- acts

    private void keep() {
        acts.addLast(now.copy());
        if (acts.size() > 16) {
            acts.removeFirst();
        }
    }

    private long act(String name, int[] a) {
        switch (name) {
            case "board":
                needLodger(a[0]);
                needHouse(a[1]);
                refuseUnless(now.place[a[0]] != a[1], 5);
                refuseUnless(aboard(now, a[1]).length < houses.get(a[1])[3], 3);
                keep();
                now.place[a[0]] = a[1];
                return aboard(now, a[1]).length;
            case "ashore":
                needLodger(a[0]);
                refuseUnless(now.place[a[0]] != -2, 5);
                keep();
                now.place[a[0]] = -2;
                return 1;
            case "light":
                needHouse(a[0]);
                refuseUnless(now.lit[a[0]] != (a[1] == 1), 5);
                keep();
                now.lit[a[0]] = a[1] == 1;
                return 1;
            case "cross":
                needHouse(a[0]);
                keep();
                now.lane[a[0]] = 1 - now.lane[a[0]];
                return now.lane[a[0]];
            case "raise":
                needTold();
                needNumber(a[0], 1, 20);
                refuseUnless(now.water != a[0], 5);
                keep();
                now.water = a[0];
                return 1;
            case "undo":
                refuseUnless(!acts.isEmpty(), 6);
                now = acts.removeLast();
                return 1;
            case "image":
                needTold();
                refuseUnless(images.size() < 3, 3);
                images.add(now.copy());
                return images.size() - 1;
            case "back":
                refuseUnless(a[0] >= 0 && a[0] < images.size(), 1);
                now = images.get(a[0]).copy();
                acts.clear();
                return 1;
            default: throw new IllegalArgumentException(name);
        }
    }
}
