import java.lang.reflect.InvocationTargetException;
import java.lang.reflect.Method;
import java.lang.reflect.Modifier;
import java.util.ArrayList;
import java.util.List;

/** Promises 50 to 60, and what the document says of ACTS under III and TROUBLE under IV: each boundary in a case of its own. */
public final class EdgeActsTest {
    private static final String TWO = "regatta water 10 bridge 2 storey 3 rain 4 by 5;bend k long 10 left;"
        + "house a pub left tiles 0 storeys 1;house b cottage right tiles 0 storeys 2;"
        + "lodger p weighs 0 rows 0;lodger q weighs 0 rows 0;lodger r weighs 0 rows 0;lodger s weighs 0 rows 0";
    private static final List<String> CHANGING = List.of("feed", "regatta", "board", "ashore", "light", "cross", "raise", "undo",
        "image", "back", "trouble", "where");
    private static final int[] WRONG = {-1, -2, 4, 5, 31, 32, 64, Integer.MAX_VALUE, Integer.MIN_VALUE};

    private static final Bench BENCH = new Bench();

    public static void main(String[] args) throws IllegalAccessException {
        Cases.run(EdgeActsTest.class, BENCH, 50, 60);
    }

    private static void due(String call, long got, long want) {
        BENCH.due(call, got, want);
    }

    private static RoofRegatta two() {
        return Bench.told(TWO);
    }

    /** The water, of each house who is aboard, its lane and whether it is lit. */
    private static void stands(RoofRegatta x, int water, int crewA, int laneA, int litA, int crewB, int laneB, int litB) {
        int[] got = {x.size(0), x.house(0, 6), x.house(0, 3), x.house(0, 7), x.house(1, 6), x.house(1, 3), x.house(1, 7)};
        int[] want = {water, crewA, laneA, litA, crewB, laneB, litB};
        for (int i = 0; i < got.length; i++) {
            due("what stands, " + i, got[i], want[i]);
        }
    }

    private static void standsAsTold(RoofRegatta x) {
        stands(x, 10, 0, 0, 0, 0, 1, 0);
    }

    // ---- questions

    /** All is told that makes a difference, should a question leave its rain, water, fire, lane or load behind. */
    private static RoofRegatta rainy() {
        RoofRegatta x = Bench.told("regatta water 3 bridge 1 storey 4 rain 60 by 7;bend k long 9 left;bend m long 14 right;"
            + "house a cottage right tiles 7 storeys 2;house b terrace left tiles 9 storeys 3;house c villa left tiles 15 storeys 1;"
            + "lodger p weighs 3 rows 4;lodger q weighs 8 rows 1;lodger r weighs 2 rows 2;lodger s weighs 5 rows 5;"
            + "aboard p a;aboard q b;aboard r b;friend p q;friend r s;friend q s;prize 9;prize 4;saw a b k;saw a c m");
        x.light(1, true);
        return x;
    }

    private static List<Method> questions() {
        List<Method> found = new ArrayList<>();
        for (Method method : RoofRegatta.class.getDeclaredMethods()) {
            if (Modifier.isPublic(method.getModifiers()) && !CHANGING.contains(method.getName())) {
                found.add(method);
            }
        }
        return found;
    }

    /** Each with numbers for which it is not refused. */
    private static long ask(RoofRegatta x, Method question) throws IllegalAccessException {
        Class<?>[] types = question.getParameterTypes();
        Object[] numbers = new Object[types.length];
        for (int i = 0; i < types.length; i++) {
            numbers[i] = types[i] == boolean.class ? (Object) false : (Object) (i == 0 ? 1 : 0);
        }
        String name = question.getName();
        if (name.equals("wins") || name.equals("record")) {
            numbers[numbers.length - 1] = 3;
        } else if (name.equals("leastFor") || name.equals("waterFor")) {
            numbers[1] = 70;
        } else if (name.equals("led")) {
            numbers[0] = 0;
        }
        try {
            return ((Number) question.invoke(x, numbers)).longValue();
        } catch (InvocationTargetException thrown) {
            throw new IllegalStateException(name, thrown.getCause());
        }
    }

    private static void h_noQuestionChangesAnAnswer() throws IllegalAccessException {
        List<Method> questions = questions();
        due("questions", questions.size(), 47);
        for (Method first : questions) {
            RoofRegatta x = rainy();
            for (Method second : questions) {
                long want = ask(rainy(), second);
                ask(x, first);
                BENCH.granted(second.getName() + " behind " + first.getName(), x, ask(x, second), want);
            }
            stands(x, 3, 1, 1, 0, 6, 0, 1);
            due("size(11)", x.size(11), 1);
        }
    }

    // ---- promise 50

    private static void p50_noSuchLodgerOrHouse() {
        RoofRegatta x = two();
        for (int i : WRONG) {
            BENCH.none("board(" + i + ", 0)", x, x.board(i, 0), 1);
            BENCH.none("board(0, " + i + ")", x, x.board(0, i), 1);
        }
        BENCH.none("board(0, 2) of two houses", x, x.board(0, 2), 1);
        due("nothing is kept", x.size(11), 0);
        standsAsTold(x);
    }

    private static void p50_withoutLodgers() {
        RoofRegatta x = Bench.told(TWO.replaceAll(";lodger.*", ""));
        BENCH.none("board(0, 0)", x, x.board(0, 0), 1);
    }

    private static void p50_heIsAboardIt() {
        RoofRegatta x = two();
        BENCH.granted("board(0, 1)", x, x.board(0, 1), 1);
        BENCH.none("board(0, 1)", x, x.board(0, 1), 5);
        due("size(11)", x.size(11), 1);
        stands(x, 10, 0, 0, 0, 1, 1, 0);
    }

    private static void p50_heIsAboardItThoughItIsFull() {
        RoofRegatta x = two();
        x.board(0, 0);
        due("full()", x.full(), 1);
        BENCH.none("board(0, 0)", x, x.board(0, 0), 5);
    }

    private static void p50_itIsFull() {
        RoofRegatta x = two();
        BENCH.granted("board(0, 0)", x, x.board(0, 0), 1);
        BENCH.none("from ashore", x, x.board(1, 0), 3);
        BENCH.granted("board(1, 1)", x, x.board(1, 1), 1);
        BENCH.none("from another house", x, x.board(1, 0), 3);
        due("size(11)", x.size(11), 2);
        stands(x, 10, 1, 0, 0, 2, 1, 0);
        BENCH.granted("ashore(0)", x, x.ashore(0));
        BENCH.granted("room again", x, x.board(1, 0), 1);
    }

    private static void p50_howManyThen() {
        RoofRegatta x = Bench.told(TWO.replace("storeys 2", "storeys 4"));
        for (int l = 0; l < 4; l++) {
            BENCH.granted("board(" + l + ", 1)", x, x.board(l, 1), l + 1);
        }
        due("house(1, 6)", x.house(1, 6), 15);
    }

    private static void p50_fromAnotherHouse() {
        RoofRegatta x = two();
        x.board(3, 0);
        x.board(2, 1);
        BENCH.granted("board(3, 1)", x, x.board(3, 1), 2);
        stands(x, 10, 0, 0, 0, 12, 1, 0);
    }

    // ---- promise 51

    private static void p51_noSuchLodger() {
        RoofRegatta x = two();
        for (int l : WRONG) {
            BENCH.refused("ashore(" + l + ")", x, x.ashore(l), 1);
        }
        RoofRegatta none = Bench.told(TWO.replaceAll(";lodger.*", ""));
        BENCH.refused("ashore(0) without lodgers", none, none.ashore(0), 1);
    }

    private static void p51_heIs() {
        RoofRegatta x = two();
        BENCH.refused("ashore(0)", x, x.ashore(0), 5);
        due("size(11)", x.size(11), 0);
        x.board(0, 0);
        BENCH.granted("ashore(0)", x, x.ashore(0));
        BENCH.refused("ashore(0)", x, x.ashore(0), 5);
        due("size(11)", x.size(11), 2);
    }

    private static void p51_theOthersStay() {
        RoofRegatta x = two();
        x.board(0, 1);
        x.board(1, 1);
        BENCH.granted("ashore(0)", x, x.ashore(0));
        stands(x, 10, 0, 0, 0, 2, 1, 0);
    }

    // ---- promise 52

    private static void p52_noSuchHouse() {
        RoofRegatta x = two();
        for (int h : WRONG) {
            BENCH.refused("light(" + h + ", true)", x, x.light(h, true), 1);
            BENCH.refused("light(" + h + ", false)", x, x.light(h, false), 1);
        }
        BENCH.refused("light(2, true) of two", x, x.light(2, true), 1);
    }

    private static void p52_itIsSo() {
        RoofRegatta x = two();
        BENCH.refused("put out, not lit", x, x.light(0, false), 5);
        BENCH.granted("lit", x, x.light(0, true));
        BENCH.refused("lit again", x, x.light(0, true), 5);
        BENCH.granted("put out", x, x.light(0, false));
        BENCH.refused("put out again", x, x.light(0, false), 5);
        due("size(11)", x.size(11), 2);
    }

    private static void p52_oneByItself() {
        RoofRegatta x = two();
        x.light(1, true);
        stands(x, 10, 0, 0, 0, 0, 1, 1);
        x.light(0, true);
        stands(x, 10, 0, 0, 1, 0, 1, 1);
        x.light(1, false);
        stands(x, 10, 0, 0, 1, 0, 1, 0);
    }

    // ---- promise 53

    private static void p53_noSuchHouse() {
        RoofRegatta x = two();
        for (int h : WRONG) {
            BENCH.none("cross(" + h + ")", x, x.cross(h), 1);
        }
        BENCH.none("cross(2) of two", x, x.cross(2), 1);
        due("size(11)", x.size(11), 0);
    }

    private static void p53_thereAndBack() {
        RoofRegatta x = two();
        BENCH.granted("cross(0)", x, x.cross(0), 1);
        stands(x, 10, 0, 1, 0, 0, 1, 0);
        BENCH.granted("cross(1)", x, x.cross(1), 0);
        stands(x, 10, 0, 1, 0, 0, 0, 0);
        BENCH.granted("cross(0)", x, x.cross(0), 0);
        BENCH.granted("cross(1)", x, x.cross(1), 1);
        standsAsTold(x);
        due("size(11)", x.size(11), 4);
    }

    private static void p53_aPubToo() {
        RoofRegatta x = two();
        BENCH.granted("cross(0)", x, x.cross(0), 1);
    }

    // ---- promise 54

    private static void p54_outOfBounds() {
        RoofRegatta x = two();
        for (int water : new int[] {0, -1, 21, 100, Integer.MAX_VALUE, Integer.MIN_VALUE}) {
            BENCH.refused("raise(" + water + ")", x, x.raise(water), 2);
        }
        due("size(0)", x.size(0), 10);
        due("size(11)", x.size(11), 0);
    }

    private static void p54_1and20() {
        RoofRegatta x = two();
        BENCH.granted("raise(1)", x, x.raise(1));
        due("size(0)", x.size(0), 1);
        BENCH.granted("raise(20)", x, x.raise(20));
        due("size(0)", x.size(0), 20);
        BENCH.granted("lowered by one", x, x.raise(19));
    }

    private static void p54_itIsSoMuch() {
        RoofRegatta x = two();
        BENCH.refused("raise(10)", x, x.raise(10), 5);
        due("size(11)", x.size(11), 0);
        x.raise(11);
        BENCH.refused("raise(11)", x, x.raise(11), 5);
        BENCH.granted("raise(10)", x, x.raise(10));
    }

    // ---- promise 55

    private static void p55_nothingToUndo() {
        RoofRegatta x = two();
        BENCH.refused("undo()", x, x.undo(), 6);
        standsAsTold(x);
    }

    private static void p55_eachAct() {
        RoofRegatta x = two();
        x.board(0, 1);
        BENCH.granted("board", x, x.undo());
        standsAsTold(x);
        x.board(0, 0);
        x.ashore(0);
        BENCH.granted("ashore", x, x.undo());
        stands(x, 10, 1, 0, 0, 0, 1, 0);
        x.board(0, 1);
        BENCH.granted("board from another house", x, x.undo());
        stands(x, 10, 1, 0, 0, 0, 1, 0);
        BENCH.granted("board", x, x.undo());
        x.light(0, true);
        x.light(0, false);
        BENCH.granted("put out", x, x.undo());
        stands(x, 10, 0, 0, 1, 0, 1, 0);
        BENCH.granted("lit", x, x.undo());
        standsAsTold(x);
        x.cross(1);
        BENCH.granted("cross", x, x.undo());
        standsAsTold(x);
        x.raise(20);
        BENCH.granted("raise", x, x.undo());
        standsAsTold(x);
        BENCH.refused("nothing is left", x, x.undo(), 6);
    }

    private static void p55_theLatestFirst() {
        RoofRegatta x = two();
        x.raise(11);
        x.cross(0);
        x.raise(12);
        x.undo();
        stands(x, 11, 0, 1, 0, 0, 1, 0);
        x.undo();
        stands(x, 11, 0, 0, 0, 0, 1, 0);
        x.undo();
        standsAsTold(x);
    }

    private static void p55_undoingCannotBeUndone() {
        RoofRegatta x = two();
        x.raise(11);
        x.undo();
        due("size(11)", x.size(11), 0);
        BENCH.refused("undo()", x, x.undo(), 6);
        standsAsTold(x);
    }

    private static void p55_undoneDoneAnewAndUndone() {
        RoofRegatta x = two();
        x.light(0, true);
        x.light(1, true);
        x.cross(0);
        x.raise(20);
        x.undo();
        stands(x, 10, 0, 1, 1, 0, 1, 1);
        x.light(0, false);
        x.light(1, false);
        x.cross(0);
        x.raise(1);
        x.cross(1);
        x.undo();
        stands(x, 1, 0, 0, 0, 0, 1, 0);
        x.undo();
        standsAsTold(x);
        x.undo();
        stands(x, 10, 0, 1, 0, 0, 1, 0);
        for (int water = 11; water <= 20; water++) {
            x.raise(water);
            x.cross(1);
            x.undo();
            stands(x, water, 0, 1, 0, 0, 1, 0);
        }
    }

    private static void raised(RoofRegatta x, int acts) {
        for (int i = 1; i <= acts; i++) {
            x.raise(i % 20 + 1);
        }
    }

    private static void p55_sixteenAreKept() {
        RoofRegatta x = Bench.told(TWO.replace("water 10", "water 1"));
        raised(x, 16);
        due("size(11)", x.size(11), 16);
        for (int i = 15; i >= 0; i--) {
            BENCH.granted("undo()", x, x.undo());
            due("size(0)", x.size(0), i + 1);
            due("size(11)", x.size(11), i);
        }
        BENCH.refused("undo()", x, x.undo(), 6);
    }

    private static void p55_ofSeventeenTheFirstIsNot() {
        RoofRegatta x = Bench.told(TWO.replace("water 10", "water 1"));
        raised(x, 17);
        due("size(11)", x.size(11), 16);
        for (int i = 0; i < 16; i++) {
            BENCH.granted("undo()", x, x.undo());
        }
        BENCH.refused("undo()", x, x.undo(), 6);
        due("size(0)", x.size(0), 2);
    }

    private static void p55_ofFortyTheLastSixteen() {
        RoofRegatta x = Bench.told(TWO.replace("water 10", "water 1"));
        raised(x, 40);
        due("size(0)", x.size(0), 1);
        for (int i = 39; i >= 24; i--) {
            BENCH.granted("undo()", x, x.undo());
            due("size(0)", x.size(0), i % 20 + 1);
        }
        BENCH.refused("undo()", x, x.undo(), 6);
    }

    private static void p55_undoneAndDoneAgainWhenFull() {
        RoofRegatta x = Bench.told(TWO.replace("water 10", "water 1"));
        raised(x, 17);
        x.undo();
        due("size(11)", x.size(11), 15);
        x.cross(0);
        due("size(11)", x.size(11), 16);
        x.undo();
        due("house(0, 3)", x.house(0, 3), 0);
        due("size(0)", x.size(0), 17);
    }

    private static void p55_refusedActsAreNotKept() {
        RoofRegatta x = two();
        x.raise(11);
        x.raise(11);
        x.raise(0);
        x.ashore(0);
        x.board(9, 9);
        x.light(0, false);
        x.cross(7);
        due("size(11)", x.size(11), 1);
        BENCH.granted("undo()", x, x.undo());
        standsAsTold(x);
    }

    private static void p55_questionsAreNotKept() {
        RoofRegatta x = two();
        x.bestRank(0);
        x.friendly();
        x.waterFor(0, 1);
        x.bestLane(1);
        x.odds(0, 0, true);
        x.wins(0, 0, 60);
        x.fires();
        due("size(11)", x.size(11), 0);
        standsAsTold(x);
    }

    // ---- promise 56

    private static void p56_upTo3() {
        RoofRegatta x = two();
        for (int i = 0; i < 3; i++) {
            due("size(12)", x.size(12), i);
            BENCH.granted("image()", x, x.image(), i);
        }
        BENCH.none("a fourth", x, x.image(), 3);
        BENCH.none("a fourth", x, x.image(), 3);
        due("size(12)", x.size(12), 3);
    }

    private static void p56_aRefusedOneChangesNone() {
        RoofRegatta x = two();
        x.image();
        x.image();
        x.image();
        x.raise(11);
        x.image();
        for (int i = 0; i < 3; i++) {
            BENCH.granted("back(" + i + ")", x, x.back(i));
            standsAsTold(x);
        }
    }

    private static void p56_isNoAct() {
        RoofRegatta x = two();
        x.raise(11);
        x.image();
        due("size(11)", x.size(11), 1);
        BENCH.granted("undo()", x, x.undo());
        standsAsTold(x);
        due("undoing leaves it", x.size(12), 1);
    }

    // ---- promise 57

    private static void p57_noSuchImage() {
        RoofRegatta x = two();
        BENCH.refused("back(0) of none", x, x.back(0), 1);
        x.image();
        for (int i : new int[] {-1, 1, 2, 3, 4, Integer.MAX_VALUE, Integer.MIN_VALUE}) {
            BENCH.refused("back(" + i + ") of one", x, x.back(i), 1);
        }
        x.image();
        BENCH.granted("back(1) of two", x, x.back(1));
        BENCH.refused("back(2) of two", x, x.back(2), 1);
        x.image();
        BENCH.granted("back(2) of three", x, x.back(2));
        BENCH.refused("back(3) of three", x, x.back(3), 1);
    }

    private static void p57_aRefusedOneLeavesWhatCanBeUndone() {
        RoofRegatta x = two();
        x.raise(11);
        BENCH.refused("back(0)", x, x.back(0), 1);
        due("size(11)", x.size(11), 1);
    }

    private static void p57_allIsAsByIt() {
        RoofRegatta x = two();
        x.image();
        x.board(0, 0);
        x.board(1, 1);
        x.board(3, 1);
        x.light(1, true);
        x.cross(0);
        x.cross(1);
        x.raise(20);
        x.image();
        stands(x, 20, 1, 1, 0, 10, 0, 1);
        BENCH.granted("back(0)", x, x.back(0));
        standsAsTold(x);
        BENCH.granted("back(1)", x, x.back(1));
        stands(x, 20, 1, 1, 0, 10, 0, 1);
    }

    private static void p57_nothingCanBeUndoneThen() {
        RoofRegatta x = two();
        x.raise(11);
        x.image();
        x.raise(12);
        x.back(0);
        due("size(11)", x.size(11), 0);
        BENCH.refused("undo()", x, x.undo(), 6);
        stands(x, 11, 0, 0, 0, 0, 1, 0);
        x.raise(13);
        due("acts behind it can", x.size(11), 1);
        BENCH.granted("undo()", x, x.undo());
        stands(x, 11, 0, 0, 0, 0, 1, 0);
    }

    private static void p57_nothingCanBeUndoneThoughNothingChanged() {
        RoofRegatta x = two();
        x.raise(11);
        x.image();
        BENCH.granted("back(0)", x, x.back(0));
        BENCH.refused("undo()", x, x.undo(), 6);
    }

    private static void p57_allImagesStay() {
        RoofRegatta x = two();
        x.image();
        x.raise(11);
        x.image();
        x.raise(12);
        x.image();
        for (int i : new int[] {0, 2, 1, 1, 0, 2}) {
            BENCH.granted("back(" + i + ")", x, x.back(i));
            due("size(0)", x.size(0), 10 + i);
            due("size(12)", x.size(12), 3);
            x.raise(20);
        }
        BENCH.none("still no room", x, x.image(), 3);
    }

    // ---- promise 58

    private static void p58_noneSuch() {
        RoofRegatta x = two();
        for (int l = 0; l < 4; l++) {
            due("led(" + l + ")", x.led(l), l);
        }
        for (int i : new int[] {-1, -2, 4, 5, 32, Integer.MAX_VALUE, Integer.MIN_VALUE}) {
            BENCH.ledThrows(x, i);
        }
    }

    private static void p58_withoutARegattaOrLodgers() {
        BENCH.ledThrows(new RoofRegatta(), 0);
        BENCH.ledThrows(new RoofRegatta(), -1);
        BENCH.ledThrows(Bench.told(TWO.replaceAll(";lodger.*", "")), 0);
    }

    private static void p58_allAreAboard() {
        RoofRegatta x = Bench.told(TWO.replace("storeys 2", "storeys 4") + ";aboard p b;aboard q b;aboard r b;aboard s b");
        BENCH.ledThrows(x, 0);
        x.ashore(3);
        due("led(0)", x.led(0), 3);
        BENCH.ledThrows(x, 1);
    }

    private static void p58_byNumbers() {
        RoofRegatta x = two();
        x.board(1, 0);
        x.board(0, 1);
        x.ashore(1);
        int[] ashore = {1, 2, 3};
        for (int i = 0; i < 3; i++) {
            due("led(" + i + ")", x.led(i), ashore[i]);
        }
        BENCH.ledThrows(x, 3);
    }

    private static void p58_leavesTrouble() {
        RoofRegatta x = two();
        x.raise(0);
        x.led(0);
        due("trouble()", x.trouble(), 2);
        BENCH.ledThrows(x, 9);
        due("trouble()", x.trouble(), 2);
    }

    // ---- promise 59

    private static void p59_noneForOthers() {
        for (RoofRegatta x : new RoofRegatta[] {new RoofRegatta(), two()}) {
            for (int what : new int[] {-1, -2, 14, 15, 32, Integer.MAX_VALUE, Integer.MIN_VALUE}) {
                due("size(" + what + ")", x.size(what), -1);
            }
        }
    }

    private static void p59_each() {
        RoofRegatta x = Bench.told(TWO + ";friend p q;friend p r;prize 1;prize 2;prize 3;saw a b k");
        x.raise(7);
        x.cross(0);
        x.image();
        x.feed(0, 0, 0, 0, 0);
        int[] sizes = {7, 2, 3, 4, 5, 1, 2, 4, 2, 3, 1, 2, 1, 20};
        for (int what = 0; what < sizes.length; what++) {
            due("size(" + what + ")", x.size(what), sizes[what]);
        }
    }

    private static void p59_0forWhatThereIsnt() {
        RoofRegatta x = Bench.told("regatta water 1 bridge 1 storey 0 rain 0 by 0;house a pub left tiles 0 storeys 1");
        int[] sizes = {1, 1, 0, 0, 0, 0, 1, 0, 0, 0, 0, 0, 0, 0};
        for (int what = 0; what < sizes.length; what++) {
            due("size(" + what + ")", x.size(what), sizes[what]);
        }
    }

    private static void p59_most() {
        StringBuilder text = new StringBuilder("regatta water 20 bridge 6 storey 30 rain 100 by 9");
        for (char k = 'a'; k < 'e'; k++) {
            text.append(";bend ").append(k).append(" long 1 left;prize 0;house h").append(k).append(" pub left tiles 0 storeys 1");
        }
        for (char l = 'p'; l < 'u'; l++) {
            text.append(";lodger ").append(l).append(" weighs 0 rows 0;saw ha hb a");
        }
        RoofRegatta x = Bench.told(text + ";friend p q;friend p r;friend p s;friend p t;friend q r;friend q s");
        int[] sizes = {20, 6, 30, 100, 9, 4, 4, 5, 6, 4, 5};
        for (int what = 0; what < sizes.length; what++) {
            due("size(" + what + ")", x.size(what), sizes[what]);
        }
    }

    private static void p59_leavesTrouble() {
        RoofRegatta x = two();
        x.raise(0);
        x.size(0);
        x.size(14);
        due("trouble()", x.trouble(), 2);
    }

    // ---- TERMS IV, promise 60

    private static void p60_0atFirst() {
        due("trouble()", new RoofRegatta().trouble(), 0);
    }

    private static void p60_ofTheLatestCallThatMayBeRefused() {
        RoofRegatta x = two();
        x.raise(0);
        due("2", x.trouble(), 2);
        x.raise(11);
        due("0", x.trouble(), 0);
        x.raise(11);
        due("5", x.trouble(), 5);
        due("asking leaves it", x.trouble(), 5);
        x.total(2);
        due("1", x.trouble(), 1);
    }

    private static void t4_0itWasnt() {
        RoofRegatta x = two();
        x.total(9);
        x.total(0);
        due("trouble()", x.trouble(), 0);
    }

    private static void t4_1thereIsNoneSuch() {
        RoofRegatta x = two();
        x.total(9);
        due("trouble()", x.trouble(), 1);
    }

    private static void t4_2aNumber() {
        RoofRegatta x = two();
        x.rests(10);
        due("trouble()", x.trouble(), 2);
    }

    private static void t4_3noRoom() {
        RoofRegatta x = two();
        x.board(0, 0);
        x.board(1, 0);
        due("trouble()", x.trouble(), 3);
    }

    private static void t4_4aFault() {
        RoofRegatta x = two();
        Bench.tell(x, "!");
        due("trouble()", x.trouble(), 4);
    }

    private static void t4_5notSo() {
        RoofRegatta x = two();
        x.ashore(0);
        due("trouble()", x.trouble(), 5);
    }

    private static void t4_6thereIsNone() {
        RoofRegatta x = two();
        x.undo();
        due("trouble()", x.trouble(), 6);
    }

    private static void t4_answersOfMinus2AreNotRefused() {
        RoofRegatta x = two();
        x.total(9);
        BENCH.granted("lodger(0, 2)", x, x.lodger(0, 2), -2);
        x.total(9);
        BENCH.granted("ahead(1, 0)", x, x.ahead(1, 0), -2);
        x.total(9);
        BENCH.granted("leastFor(0, 0)", x, x.leastFor(0, 0), -2);
        x.total(9);
        BENCH.granted("judge()", x, x.judge(), -2);
    }
}
