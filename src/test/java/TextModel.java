import java.util.ArrayList;
import java.util.Arrays;
import java.util.LinkedHashMap;
import java.util.List;
import java.util.Map;
import java.util.regex.Matcher;
import java.util.regex.Pattern;

/** The text of a REGATTA read by a table of LINES: the first FAULT and its place, or the lines as numbers. */
final class TextModel {
    private static final Map<String, String> LINES = new LinkedHashMap<>();
    private static final Map<String, Integer> ROOM = Map.of("regatta", 1, "bend", 4, "house", 4, "lodger", 5,
        "friend", 6, "prize", 4, "saw", 5);
    private static final Map<String, List<String>> CHOICES = Map.of("SIDE", List.of("left", "right"),
        "KIND", List.of("cottage", "terrace", "villa", "pub"));

    static {
        LINES.put("regatta", "water 1..20 bridge 1..6 storey 0..30 rain 0..100 by 0..9");
        LINES.put("bend", "+bend long 1..30 SIDE");
        LINES.put("house", "+house KIND SIDE tiles 0..50 storeys 1..6");
        LINES.put("lodger", "+lodger weighs 0..30 rows 0..9");
        LINES.put("aboard", "=lodger =house");
        LINES.put("friend", "=lodger =lodger");
        LINES.put("prize", "0..99");
        LINES.put("saw", "=house =house =bend");
    }

    /** Of each sort the LINES told, the numbers of each from the left (a new NAME has none). */
    final Map<String, List<int[]>> told = new LinkedHashMap<>();
    int fault;
    int where = -1;

    private final Map<String, String> sorts = new LinkedHashMap<>();
    private final Map<String, Integer> numbers = new LinkedHashMap<>();
    private final List<String> tokens = new ArrayList<>();
    private final List<Integer> places = new ArrayList<>();

    TextModel(String text) {
        for (String line : LINES.keySet()) {
            told.put(line, new ArrayList<>());
        }
        Matcher matcher = Pattern.compile("[a-z]+|[0-9]+|[^ ]").matcher(text);
        while (matcher.find()) {
            tokens.add(matcher.group());
            places.add(matcher.start());
        }
        tokens.add("");
        places.add(text.length());
        int at = 0;
        while (fault == 0) {
            at = line(at);
            if (fault != 0) {
                return;
            }
            if (tokens.get(at).isEmpty()) {
                check(at, told.get("house").isEmpty(), 6);
                return;
            }
            check(at, !tokens.get(at).equals(";"), 1);
            at++;
        }
    }

    private void check(int at, boolean wrong, int number) {
        if (wrong && fault == 0) {
            fault = number;
            where = places.get(at);
        }
    }

    private int line(int first) {
        String word = tokens.get(first);
        check(first, !LINES.containsKey(word), 1);
        if (fault != 0) {
            return first;
        }
        List<int[]> alike = told.get(word);
        check(first, word.equals("regatta") && !alike.isEmpty(), 3);
        check(first, ROOM.containsKey(word) && alike.size() >= ROOM.get(word), 5);
        check(first, !word.equals("regatta") && told.get("regatta").isEmpty(), 6);
        List<Integer> row = new ArrayList<>();
        int at = first + 1;
        for (String part : LINES.get(word).split(" ")) {
            if (fault != 0) {
                return at;
            }
            part(word, part, at, row);
            at++;
        }
        if (fault == 0) {
            alike.add(row.stream().mapToInt(Integer::intValue).toArray());
        }
        return at;
    }

    private void part(String line, String part, int at, List<Integer> row) {
        String token = tokens.get(at);
        if (part.contains("..")) {
            check(at, !token.matches("[0-9]{1,3}"), 1);
            if (fault == 0) {
                int value = Integer.parseInt(token);
                String[] bounds = part.split("\\.\\.");
                check(at, value < Integer.parseInt(bounds[0]) || value > Integer.parseInt(bounds[1]), 4);
                row.add(value);
            }
        } else if (CHOICES.containsKey(part)) {
            int choice = CHOICES.get(part).indexOf(token);
            check(at, choice < 0, 1);
            row.add(choice);
        } else if (part.startsWith("+") || part.startsWith("=")) {
            check(at, !token.matches("[a-z]{1,8}") || LINES.containsKey(token), 1);
            if (fault == 0) {
                name(line, part, at, row);
            }
        } else {
            check(at, !token.equals(part), 1);
        }
    }

    private void name(String line, String part, int at, List<Integer> row) {
        String token = tokens.get(at);
        String sort = part.substring(1);
        if (part.startsWith("+")) {
            check(at, sorts.containsKey(token), 3);
            sorts.put(token, sort);
            numbers.put(token, told.get(sort).size());
            return;
        }
        check(at, !sort.equals(sorts.get(token)), 2);
        if (fault != 0) {
            return;
        }
        int number = numbers.get(token);
        List<int[]> alike = told.get(line);
        if (line.equals("aboard")) {
            if (row.isEmpty()) {
                check(at, alike.stream().anyMatch(r -> r[0] == number), 3);
            } else {
                long aboard = alike.stream().filter(r -> r[1] == number).count();
                check(at, aboard >= told.get("house").get(number)[3], 7);
            }
        } else if (row.size() == 1) {
            check(at, row.get(0) == number, 3);
            int[] one = {row.get(0), number};
            int[] turned = {number, row.get(0)};
            check(at, line.equals("friend")
                && alike.stream().anyMatch(r -> Arrays.equals(r, one) || Arrays.equals(r, turned)), 3);
        }
        row.add(number);
    }
}
