import java.lang.reflect.Constructor;
import java.lang.reflect.Field;
import java.lang.reflect.Method;
import java.lang.reflect.Modifier;
import java.util.Arrays;
import java.util.Set;
import java.util.TreeSet;

/** The public face is the document's, whole, and nothing beside it can be reached. */
public final class FaceTest {
    private static final String[] FACE = {
        "int feed(int, int, int, int, int)", "int regatta(int)", "int fault()", "int where()",
        "int house(int, int)", "int lodger(int, int)", "int bend(int, int)", "int time(int, int)",
        "int soFar(int, int)", "int total(int)", "int loses(int)", "int rank(int)", "int ranked(int)",
        "int out(int)", "int prize(int)", "int ahead(int, int)", "int leader(int)", "int full()",
        "int passes()", "int fastest(int)", "int storey(int)", "int together()", "int bestRank(int)",
        "int loadOf(int, int)", "int loadMoves(int)", "int leastTotal(int)", "int friendly()",
        "int friendlyOf(int)", "int leastFor(int, int)", "int toMove(int)", "int waterFor(int, int)",
        "int bestSwap(int)", "int bestLane(int)", "int fires()", "int fireAt(int)", "int could()",
        "int surely()", "int ask()", "int askLeaves()", "int judge()", "long odds(int, int, boolean)",
        "long mean(int, boolean)", "long hopes(int, boolean)", "int wins(int, int, int)",
        "int record(int, int)", "int weir(int, boolean, boolean, boolean)", "int rests(int)",
        "int rest(int)", "int board(int, int)", "boolean ashore(int)", "boolean light(int, boolean)",
        "int cross(int)", "boolean raise(int)", "boolean undo()", "int image()", "boolean back(int)",
        "int led(int)", "int size(int)", "int trouble()"
    };

    private static String signature(Method method) {
        String types = Arrays.toString(method.getParameterTypes());
        return method.getReturnType() + " " + method.getName() + "(" + types.substring(1, types.length() - 1) + ")";
    }

    public static void main(String[] args) throws NoSuchMethodException {
        Bench bench = new Bench();
        Class<RoofRegatta> face = RoofRegatta.class;
        Set<String> want = new TreeSet<>(Arrays.asList(FACE));
        Set<String> names = new TreeSet<>();
        Set<String> got = new TreeSet<>();
        for (Method method : face.getDeclaredMethods()) {
            if (!Modifier.isPrivate(method.getModifiers()) && !method.isSynthetic()) {
                got.add(signature(method));
                names.add(method.getName());
            }
        }
        bench.due("methods of the face " + got + " for " + want, got.equals(want), true);
        for (Field field : face.getDeclaredFields()) {
            boolean hidden = Modifier.isPrivate(field.getModifiers());
            bench.due("field " + field.getName(), hidden, !field.getName().equals("NONE"));
        }
        for (Constructor<?> constructor : face.getDeclaredConstructors()) {
            bench.due("constructor's parameters", constructor.getParameterCount(), 0);
            bench.due("constructor public", Modifier.isPublic(constructor.getModifiers()), true);
        }
        bench.due("class public and final", Modifier.isPublic(face.getModifiers())
            && Modifier.isFinal(face.getModifiers()), true);
        Class<?>[] thrown = face.getMethod("led", int.class).getExceptionTypes();
        bench.due("led throws", Arrays.toString(thrown).equals("[class java.util.NoSuchElementException]"), true);
        innerNamesAreTheirOwn(bench, face, names);
        bench.due("NONE", RoofRegatta.NONE, -1);
        bench.end();
    }

    private static void innerNamesAreTheirOwn(Bench bench, Class<?> face, Set<String> names) {
        for (Method method : face.getDeclaredMethods()) {
            if (Modifier.isPrivate(method.getModifiers())) {
                bench.due("private " + method.getName(), names.contains(method.getName()), false);
            }
        }
        for (Class<?> inner : face.getDeclaredClasses()) {
            bench.due("static " + inner.getName(), Modifier.isStatic(inner.getModifiers()), true);
            for (Method method : inner.getDeclaredMethods()) {
                bench.due(inner.getName() + "." + method.getName(), names.contains(method.getName()), false);
            }
        }
    }
}
