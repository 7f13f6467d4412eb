import java.lang.reflect.InvocationTargetException;
import java.lang.reflect.Method;
import java.util.ArrayList;
import java.util.Arrays;
import java.util.Comparator;
import java.util.List;
import java.util.NoSuchElementException;
import java.util.Random;

/** Random runs of all calls, each answer compared with the Model's. The seeds are fixed: every run is the same. */
public final class ModelTest {
    private static final int RUNS = 250;
    private static final int TEXTS = 4000;
    private static final Bench BENCH = new Bench();
    private static final List<Method> METHODS = new ArrayList<>();

    private final Random random;
    private final RoofRegatta x = new RoofRegatta();
    private final Model model = new Model();

    private ModelTest(int seed) {
        random = new Random(seed);
    }

    public static void main(String[] args) throws IllegalAccessException {
        for (Method method : RoofRegatta.class.getDeclaredMethods()) {
            String name = method.getName();
            if (java.lang.reflect.Modifier.isPublic(method.getModifiers()) && !name.equals("feed") && !name.equals("regatta")) {
                METHODS.add(method);
            }
        }
        METHODS.sort(Comparator.comparing(Method::getName));
        for (int seed = 0; seed < RUNS; seed++) {
            new ModelTest(seed).run();
        }
        for (int seed = 0; seed < TEXTS; seed++) {
            new ModelTest(seed).faults();
        }
        BENCH.end();
    }

    private void run() throws IllegalAccessException {
        for (int calls = 0; calls < 400; calls++) {
            if (calls == 10 || calls > 10 && random.nextInt(150) == 0) {
                tell(random.nextInt(4) == 0 ? spoilt(text()) : text());
            }
            call(METHODS.get(random.nextInt(METHODS.size())));
        }
    }

    private void faults() {
        for (int i = 0; i < 3; i++) {
            String text = text();
            for (int k = random.nextInt(3); k >= 0; k--) {
                text = spoilt(text);
            }
            tell(text);
        }
    }

    private void due(String call, long got, long want) {
        BENCH.due(call, got, want);
        BENCH.due(call + ", trouble()", x.trouble(), model.trouble);
        BENCH.due(call + ", fault()", x.fault(), model.fault);
        BENCH.due(call + ", where()", x.where(), model.call("where", new int[0]));
    }

    private void tell(String text) {
        StringBuilder padded = new StringBuilder(text);
        while (padded.length() % 20 != 0) {
            padded.append((char) random.nextInt(256));
        }
        for (int at = 0; at < padded.length(); at += 20) {
            int[] numbers = new int[5];
            for (int i = 0; i < 20; i++) {
                numbers[i / 4] = numbers[i / 4] << 8 | padded.charAt(at + i);
            }
            due("feed", x.feed(numbers[0], numbers[1], numbers[2], numbers[3], numbers[4]), model.call("feed", numbers));
        }
        int n = random.nextInt(12) == 0 ? padded.length() + random.nextInt(40) - 20 : Math.min(text.length(), x.size(13));
        due("regatta of '" + text + "'", x.regatta(n), model.call("regatta", new int[] {n}));
    }

    private void call(Method method) throws IllegalAccessException {
        Class<?>[] types = method.getParameterTypes();
        Object[] args = new Object[types.length];
        int[] numbers = new int[types.length];
        for (int i = 0; i < types.length; i++) {
            boolean is = random.nextBoolean();
            numbers[i] = types[i] == boolean.class ? (is ? 1 : 0) : number(method.getName(), i);
            args[i] = types[i] == boolean.class ? (Object) is : (Object) numbers[i];
        }
        String text = method.getName() + Arrays.toString(numbers);
        due(text, real(method, args), due(method.getName(), numbers));
    }

    private static final long THROWN = Long.MIN_VALUE;

    private long due(String name, int[] numbers) {
        try {
            return model.call(name, numbers);
        } catch (NoSuchElementException none) {
            return THROWN;
        }
    }

    private long real(Method method, Object[] args) throws IllegalAccessException {
        try {
            Object got = method.invoke(x, args);
            return got instanceof Boolean ? ((Boolean) got ? 1 : 0) : ((Number) got).longValue();
        } catch (InvocationTargetException thrown) {
            if (thrown.getCause() instanceof NoSuchElementException && method.getName().equals("led")) {
                return THROWN;
            }
            throw new IllegalStateException(method + Arrays.toString(args), thrown.getCause());
        }
    }

    private int number(String call, int i) {
        if (random.nextInt(40) == 0) {
            return new int[] {Integer.MIN_VALUE, Integer.MAX_VALUE, -1, 32, 65537, 30001, -2}[random.nextInt(7)];
        }
        if (i == 1 && (call.equals("leastFor") || call.equals("waterFor"))) {
            int now = Math.max(0, x.total(0));
            model.call("total", new int[1]);
            return random.nextInt(8) == 0 ? random.nextInt(30001) : random.nextInt(now + now / 2 + 2);
        }
        if (call.equals("wins") && i == 1 || call.equals("record") && i == 0) {
            return random.nextInt(65537);
        }
        if (call.equals("wins") || call.equals("record") && i == 1) {
            return i == 0 ? random.nextInt(4) : random.nextInt(62);
        }
        if (call.equals("raise") || call.equals("size") || call.equals("fireAt")) {
            return random.nextInt(22);
        }
        return random.nextInt(random.nextInt(6) == 0 ? 11 : 5);
    }

    // ---- texts

    private String word(String... words) {
        return words[random.nextInt(words.length)];
    }

    private int upTo(int most) {
        return random.nextInt(most + 1);
    }

    private String text() {
        StringBuilder text = new StringBuilder("regatta water " + (1 + upTo(19)) + " bridge " + (1 + upTo(5)) + " storey "
            + upTo(30) + " rain " + word("0", "100", "50", "25", "" + upTo(100)) + " by " + upTo(9));
        int bends = upTo(4);
        int houses = 1 + upTo(3);
        int lodgers = upTo(5);
        int likeness = 1 + upTo(50);
        for (int k = 0; k < bends; k++) {
            text.append(";bend k").append((char) ('a' + k)).append(" long ").append(1 + upTo(29))
                .append(' ').append(word("left", "right"));
        }
        int[] room = new int[houses];
        for (int h = 0; h < houses; h++) {
            room[h] = 1 + upTo(5);
            text.append(";house h").append((char) ('a' + h)).append(' ').append(word("cottage", "terrace", "villa", "pub"))
                .append(' ').append(word("left", "right")).append(" tiles ").append(upTo(50) / likeness * likeness)
                .append(" storeys ").append(room[h]);
        }
        for (int l = 0; l < lodgers; l++) {
            text.append(";lodger l").append((char) ('a' + l)).append(" weighs ").append(upTo(30)).append(" rows ").append(upTo(9));
            int h = upTo(houses * 2);
            if (h < houses && room[h] > 0) {
                room[h]--;
                text.append(";aboard l").append((char) ('a' + l)).append(" h").append((char) ('a' + h));
            }
        }
        friendsPrizesSeen(text, bends, houses, lodgers);
        return text.toString();
    }

    private void friendsPrizesSeen(StringBuilder text, int bends, int houses, int lodgers) {
        int friends = 0;
        for (int l = 0; l < lodgers; l++) {
            for (int other = 0; other < l; other++) {
                if (random.nextBoolean() && friends < 6) {
                    friends++;
                    boolean turned = random.nextBoolean();
                    text.append(";friend l").append((char) ('a' + (turned ? l : other)))
                        .append(" l").append((char) ('a' + (turned ? other : l)));
                }
            }
        }
        for (int i = upTo(4); i > 0; i--) {
            text.append(";prize ").append(upTo(99));
        }
        for (int i = upTo(5); i > 0 && bends > 0 && houses > 1 && text.length() < 880; i--) {
            int h = random.nextInt(houses);
            int other = (h + 1 + random.nextInt(houses - 1)) % houses;
            text.append(";saw h").append((char) ('a' + h)).append(" h").append((char) ('a' + other))
                .append(" k").append((char) ('a' + random.nextInt(bends)));
        }
    }

    /** A text with something wrong in it, or nothing. */
    private String spoilt(String text) {
        int at = random.nextInt(text.length() + 1);
        int to = Math.min(text.length(), at + random.nextInt(3));
        String[] lines = text.split(";");
        String line = lines.length == 0 ? "" : word(lines);
        switch (random.nextInt(8)) {
            case 0: return text.substring(0, at);
            case 1: return text.substring(0, at) + text.substring(to);
            case 2: return text.substring(0, at) + word(" ", ";", "7", "q", "00", "  ", "!", "" + (char) upTo(255)) + text.substring(at);
            case 3: return text + ";" + line;
            case 4: return line + ";" + text;
            case 5: return swappedWords(text);
            case 6: return text + word("", " ", ";", "; ", ";regatta", ";bend", ";bend zz long 1 left",
                ";house zz pub left tiles 1 storeys 1", ";lodger zz weighs 1 rows 1", ";prize 3", ";saw ha hb ka", ";aboard la hb");
            default: return changedWord(text);
        }
    }

    private String swappedWords(String text) {
        String[] words = text.split(" ");
        if (words.length == 0) {
            return text;
        }
        int i = random.nextInt(words.length);
        int k = random.nextInt(words.length);
        String kept = words[i];
        words[i] = words[k];
        words[k] = kept;
        return String.join(" ", words);
    }

    private String changedWord(String text) {
        String[] words = text.split(" ");
        if (words.length == 0) {
            return text;
        }
        words[random.nextInt(words.length)] = word("0", "31", "101", "100", "999", "1000", "ha", "hb", "la", "lb", "ka", "left",
            "pub", "saw", "prize", "abcdefghi", "7", "10", "51", "zz", "");
        return String.join(" ", words);
    }
}
