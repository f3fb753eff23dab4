import java.io.IOException;
import java.nio.file.Files;
import java.nio.file.Path;
import java.util.ArrayList;
import java.util.LinkedHashMap;
import java.util.List;
import java.util.Map;
import java.util.function.Supplier;
import java.util.function.ToIntBiFunction;
import java.util.function.ToIntFunction;

/**
 * The sentences of the document, the checks that tests make for each of them, and those that have
 * none. A sentence is cut at its ";"; the numbers of a `what` stand for themselves.
 */
final class Doc {
    private static final Path PAGE = Path.of("../shared/DOC.md");
    private static final int[] FAR = {
        Integer.MIN_VALUE, Integer.MIN_VALUE + 1, -(1 << 30), -65536, -256, -64, -33, -32, -31, -29,
        -16, -14, -8, -6, -5, -4, -3, -2, -1, 14, 15, 16, 31, 32, 33, 34, 63, 64, 100, 255, 256,
        65536, 1 << 30, Integer.MAX_VALUE - 1, Integer.MAX_VALUE,
    };

    private static final Map<String, Map<String, Integer>> CHECKS = new LinkedHashMap<>();
    private static String heading = "";
    private static String sentence = "";
    private static int checks = 0;
    private static int wrong = 0;

    private Doc() {
    }

    static void read() throws IOException {
        String at = "";
        boolean inside = false;
        for (String line : Files.readAllLines(PAGE)) {
            if (line.startsWith("## ")) {
                inside = line.equals("## Terms") || line.startsWith("## Promise ");
                at = line.replaceAll("## (Promise [0-9]+|.*).*", "$1");
            } else if (line.matches("[A-Z ]+") && !line.isBlank()) {
                at = line;
            } else if (inside && !line.isBlank() && !line.startsWith("Ahead of the calls")) {
                String text = line.replaceFirst("^`[a-zA-Z ]+\\([^`]*\\)`: ", "");
                for (String part : parts(text)) {
                    CHECKS.computeIfAbsent(at, key -> new LinkedHashMap<>()).put(part, 0);
                }
            }
        }
    }

    private static List<String> parts(String line) {
        String cut = line.startsWith("- ") ? ", (?=[0-9] for )" : "; |(?<=[.)]) (?=[A-Z(])";
        List<String> parts = new ArrayList<>();
        for (String part : line.replaceFirst("^(- |Returns )", "").split(cut)) {
            parts.add(part.replaceFirst("\\.$", ""));
        }
        return parts;
    }

    static void at(String asked) {
        heading = asked;
        sentence = "";
        if (!CHECKS.containsKey(asked)) {
            fail("the document has no such heading");
        }
    }

    /** Names the sentence for which the next checks are; its first words are enough. */
    static void says(String words) {
        List<String> found = new ArrayList<>();
        for (String part : CHECKS.getOrDefault(heading, Map.of()).keySet()) {
            if (part.equals(words)) {
                sentence = part;
                return;
            }
            if (part.startsWith(words)) {
                found.add(part);
            }
        }
        sentence = found.isEmpty() ? words : found.get(0);
        if (found.size() != 1) {
            fail("stands " + found.size() + " times in the document");
        }
    }

    private static void fail(String what) {
        wrong++;
        System.out.println(heading + ", '" + sentence + "': " + what);
    }

    private static void checked() {
        checks++;
        CHECKS.getOrDefault(heading, Map.of()).computeIfPresent(sentence, (key, sum) -> sum + 1);
    }

    static void due(String call, int got, int want) {
        checked();
        if (got != want) {
            fail(call + " is " + got + ", due is " + want);
        }
    }

    static void same(String call, String got, String want) {
        checked();
        if (!got.equals(want)) {
            fail(call + " leaves\n" + got + "\ninstead of\n" + want);
        }
    }

    /** A call that must change nothing, neither what can be asked nor what is kept. */
    static void leaves(
            String call, Supplier<RingGames> made, ToIntFunction<RingGames> asked, int want) {
        due(call, asked.applyAsInt(made.get()), want);
        same(call, Told.whole(() -> {
            RingGames x = made.get();
            asked.applyAsInt(x);
            return x;
        }), Told.whole(made));
    }

    /** A text that is refused, and changes nothing. */
    static void refused(String text, Supplier<RingGames> made, int want) {
        leaves("'" + text + "'", () -> Made.typed(made.get(), text), RingGames::readArrows, want);
    }

    /** Every argument beside a range must be refused, and change nothing. */
    static void beside(int low, int high, Supplier<RingGames> made,
            ToIntBiFunction<RingGames, Integer> asked, int want) {
        leaves("the argument " + (low - 1), made, x -> asked.applyAsInt(x, low - 1), want);
        leaves("the argument " + (high + 1), made, x -> asked.applyAsInt(x, high + 1), want);
        for (int value : FAR) {
            if (value < low - 1 || value > high + 1) {
                leaves("the argument " + value, made, x -> asked.applyAsInt(x, value), want);
            }
        }
    }

    /** A call that must record the state before it, so that undo() brings all of that back. */
    static void act(
            String call, Supplier<RingGames> made, ToIntFunction<RingGames> asked, int want) {
        RingGames x = made.get();
        int states = x.count(7);
        due(call, asked.applyAsInt(x), want);
        due("the states after " + call, x.count(7), states + 1);
        due("undo() after " + call, x.undo(), states);
        same(call + " and undo()", Told.whole(() -> afterUndo(made, asked)), Told.whole(made));
    }

    /** The same with a full history: the call must drop the oldest state, and no other one. */
    static void actWhenFull(
            String call, Supplier<RingGames> full, ToIntFunction<RingGames> asked) {
        RingGames x = full.get();
        asked.applyAsInt(x);
        due("the states after " + call, x.count(7), 4);
        same(call + " and undo()", Told.whole(() -> afterUndo(full, asked)),
                Told.whole(() -> afterUndo(full, y -> y.addPlace(0, 0))));
    }

    private static RingGames afterUndo(Supplier<RingGames> made, ToIntFunction<RingGames> asked) {
        RingGames x = made.get();
        asked.applyAsInt(x);
        x.undo();
        return x;
    }

    /** A call that must not record a state. */
    static void noAct(
            String call, Supplier<RingGames> made, ToIntFunction<RingGames> asked, int want) {
        RingGames x = made.get();
        int states = x.count(7);
        due(call, asked.applyAsInt(x), want);
        due("the states after " + call, x.count(7), states);
        due("undo() after " + call, x.undo(), made.get().undo());
    }

    /** Tells what was found, and which sentences have no check; true if all is as due. */
    static boolean end() {
        CHECKS.forEach((at, parts) -> parts.forEach((part, sum) -> {
            if (sum == 0) {
                wrong++;
                System.out.println(at + ", '" + part + "': has no test");
            }
        }));
        int sentences = CHECKS.values().stream().mapToInt(Map::size).sum();
        System.out.println(
                sentences + " sentences, " + checks + " checks, " + wrong + " not as due");
        return wrong == 0;
    }
}
