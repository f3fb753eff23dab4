import java.lang.reflect.Constructor;
import java.lang.reflect.Field;
import java.lang.reflect.Method;
import java.lang.reflect.Modifier;
import java.nio.file.Files;
import java.nio.file.Path;
import java.util.ArrayList;
import java.util.List;
import java.util.TreeSet;

/** The face of the class, and those rules of LANGUAGE.md that can be read off the text. */
public final class FaceTests {
    private static final String[] FACE = {
        "addArrow(int,int)", "addPlace(int,int)", "badRings(int,int)", "choose(int,int)",
        "chooseWell(int)", "clearText()", "count(int)", "forced(int,int)", "judged(int,int)",
        "keep()", "measure(int,int,int)", "pivots(int)", "place(int,int)", "rank(int,int,int)",
        "readArrows()", "removeArrow(int,int)", "restore()", "rounds(int)", "setColour(int,int)",
        "setOwner(int,int)", "start(int)", "step(int)", "token(int)", "trap(int,int)",
        "turnOver()", "type(char)", "undo()", "weakArrows(int)", "winningChoice(int)", "wins(int)",
    };
    private static final String[] CONSTANTS = {
        "BAD_VALUE=-2", "FULL=-3", "NONE=-5", "NOT_POSSIBLE=-4", "UNKNOWN=-1",
    };
    private static final String[] FORBIDDEN = {
        "throw", "try", "catch", "finally", "synchronized", "assert", "import", "package",
        "volatile", "native", "transient", "strictfp", "equals", "hashCode", "toString",
    };
    private static int wrong = 0;

    public static void main(String[] args) throws Exception {
        face();
        source();
        System.out.println(wrong == 0 ? "all as due" : wrong + " not as due");
        if (wrong != 0) {
            System.exit(1);
        }
    }

    private static void due(String what, Object got, Object want) {
        if (!got.equals(want)) {
            wrong++;
            System.out.println(what + " is " + got + ", due is " + want);
        }
    }

    private static void face() throws Exception {
        Class<RingGames> type = RingGames.class;
        due("public and final", Modifier.toString(type.getModifiers()), "public final");
        TreeSet<String> names = new TreeSet<>();
        TreeSet<String> methods = new TreeSet<>();
        for (Method method : type.getDeclaredMethods()) {
            if (Modifier.isPublic(method.getModifiers())) {
                methods.add(signature(method));
                names.add(method.getName());
                due("the answer of " + method, method.getReturnType(), int.class);
                due("static " + method, Modifier.isStatic(method.getModifiers()), false);
            }
        }
        due("the methods", methods, new TreeSet<>(List.of(FACE)));
        privates(type, names);
        TreeSet<String> constants = new TreeSet<>();
        for (Field field : type.getDeclaredFields()) {
            int modifiers = field.getModifiers();
            if (Modifier.isPublic(modifiers)) {
                due("modifiers of " + field, Modifier.toString(modifiers), "public static final");
                constants.add(field.getName() + "=" + field.getInt(null));
            } else {
                due("private " + field, Modifier.isPrivate(modifiers), true);
            }
        }
        due("the constants", constants, new TreeSet<>(List.of(CONSTANTS)));
        due("constructors", type.getDeclaredConstructors().length, 1);
        for (Constructor<?> constructor : type.getDeclaredConstructors()) {
            due("the constructor", constructor.toString(), "public RingGames()");
        }
    }

    private static String signature(Method method) {
        List<String> parameters = new ArrayList<>();
        for (Class<?> parameter : method.getParameterTypes()) {
            parameters.add(parameter.getName());
        }
        return method.getName() + "(" + String.join(",", parameters) + ")";
    }

    private static void privates(Class<?> type, TreeSet<String> names) {
        for (Method method : type.getDeclaredMethods()) {
            if (!Modifier.isPublic(method.getModifiers())) {
                due("private " + method, Modifier.isPrivate(method.getModifiers()), true);
                due("a public name for " + method, names.contains(method.getName()), false);
            }
        }
        due("classes inside, at most 11", type.getDeclaredClasses().length <= 11, true);
        for (Class<?> inner : type.getDeclaredClasses()) {
            due("static " + inner, Modifier.isStatic(inner.getModifiers()), true);
            due("public " + inner, Modifier.isPublic(inner.getModifiers()), false);
            for (Method method : inner.getDeclaredMethods()) {
                due("a public name for " + method, names.contains(method.getName()), false);
            }
        }
    }

    private static void source() throws Exception {
        List<String> lines = Files.readAllLines(Path.of("src/main/java/RingGames.java"));
        int methodLines = 0;
        for (String line : lines) {
            String code = line.replaceAll("//.*", "").replaceAll("^\\s*/?\\*.*", "");
            for (String word : FORBIDDEN) {
                boolean found = code.matches(".*\\b" + word + "\\b.*");
                due("'" + word + "' in: " + line.trim(), found, false);
            }
            due("a lambda or method reference in: " + line, code.matches(".*(->|::).*"), false);
            // All that is made is made in constructors, so that no call fills the room.
            due("an object made by a call in: " + line, code.matches(".*\\bnew\\b.*")
                    && !code.matches("\\s+(private )?final .* = new [^;]*;")
                    && !code.trim().equals("states[i] = new State();"), false);
            for (char sign : line.toCharArray()) {
                due("a sign outside 1 to 127 in: " + line, sign >= 1 && sign <= 127, true);
            }
            methodLines = line.matches("    (    )?\\}") ? 0 : methodLines + 1;
            due("a method that is too long, at: " + line, methodLines <= 62, true);
        }
    }
}
