import java.lang.reflect.Method;
import java.util.Arrays;
import java.util.TreeMap;

/** Long runs of calls, made by a fixed row of numbers, on the class and on RingModel. */
public final class ModelTests {
    private static final int RUNS = 840;
    private static final int CALLS = 512;
    private static final int LONGEST_TEXT = 120;
    private static final String[] CHEAP = {
        "addPlace", "setOwner", "setColour", "addArrow", "addArrow", "addArrow", "addArrow",
        "removeArrow", "turnOver", "choose", "choose", "chooseWell", "start", "step", "undo",
        "keep", "restore",
    };
    private static final String[] ASKED = {
        "place", "wins", "winningChoice", "measure", "rounds", "forced", "rank", "trap", "judged",
        "badRings", "pivots", "weakArrows", "token", "count",
    };
    private static final int[] EDGES = {
        -1, -2, 2, 8, 14, 15, 16, 31, 32, 33, 50, 51, 255, 1 << 14, Integer.MAX_VALUE,
        Integer.MIN_VALUE, Integer.MIN_VALUE + 1, -14, 100,
    };
    private static final TreeMap<String, Method> CLASS = methods(RingGames.class);
    private static final TreeMap<String, Method> MODEL = methods(RingModel.class);
    private static final TreeMap<String, TreeMap<String, Integer>> SEEN = new TreeMap<>();

    private static long seed = 20261119L;
    private static int wrong = 0;
    private static RingGames game;
    private static RingModel model;
    // The calls of the present run: nothing is promised about an object after its 512th.
    private static int calls;

    public static void main(String[] args) throws Exception {
        int runs = args.length > 0 ? Integer.parseInt(args[0]) : RUNS;
        if (args.length > 1) {
            seed = Long.parseLong(args[1]);
        }
        for (int run = 1; run <= runs && wrong == 0; run++) {
            play(run);
        }
        if (args.length > 2) {
            SEEN.forEach((name, kinds) -> System.out.println(name + " " + kinds));
        }
        System.out.println(wrong == 0 ? runs + " runs as due" : wrong + " answers not as due");
        if (wrong != 0) {
            System.exit(1);
        }
    }

    private static TreeMap<String, Method> methods(Class<?> type) {
        TreeMap<String, Method> methods = new TreeMap<>();
        for (Method method : type.getDeclaredMethods()) {
            if (Arrays.asList(CHEAP).contains(method.getName())
                    || Arrays.asList(ASKED).contains(method.getName())
                    || Arrays.asList("readArrows", "type", "clearText").contains(method.getName())) {
                methods.put(method.getName(), method);
            }
        }
        return methods;
    }

    /** A number from 0 to below a bound. */
    private static int draw(int bound) {
        seed = seed * 6364136223846793005L + 1442695040888963407L;
        return (int) ((seed >>> 33) % bound);
    }

    private static void play(int run) throws Exception {
        game = new RingGames();
        model = new RingModel();
        int places = run % 7 == 0 ? 14 : draw(9);
        int colours = 1 + draw(8);
        calls = 0;
        for (int p = 0; p < places; p++) {
            both(run, "addPlace", draw(2), draw(colours));
        }
        int arrows = run % 21 == 0 ? 110 : draw(places * 3 + 1);
        for (int i = 0; i < arrows; i++) {
            both(run, "addArrow", draw(places + 1), draw(places + 1));
        }
        while (calls < CALLS && wrong == 0) {
            int kind = draw(10);
            if (kind == 0 && calls < CALLS - LONGEST_TEXT && draw(run % 4 == 0 ? 1 : 5) == 0) {
                text(run);
            } else if (kind < 4) {
                call(run, CHEAP[draw(CHEAP.length)]);
            } else {
                call(run, ASKED[draw(ASKED.length)]);
            }
        }
    }

    private static void text(int run) throws Exception {
        if (draw(4) > 0) {
            both(run, "clearText");
        }
        StringBuilder text = new StringBuilder();
        int size = 1 + Math.max(0, model.count(0));
        int groups = 1 + draw(draw(5) == 0 ? 9 : 3);
        for (int i = 0; i < groups; i++) {
            text.append(i == 0 ? "" : ";").append(draw(size)).append('>').append(draw(size));
            for (int more = draw(4); more > 1; more--) {
                text.append(',').append(draw(size));
            }
        }
        for (int faults = draw(5); faults > 3; faults--) {
            String signs = "0123456789>,;> :=.-x";
            int at = draw(text.length());
            int kind = draw(3);
            if (kind == 0) {
                text.setCharAt(at, signs.charAt(draw(signs.length())));
            } else if (kind == 1) {
                text.insert(at, draw(4) == 0 ? (char) draw(256) : signs.charAt(draw(signs.length())));
            } else {
                text.setLength(at);
            }
        }
        for (int i = 0; i < text.length(); i++) {
            both(run, "type", text.charAt(i));
        }
        both(run, "readArrows");
    }

    private static void call(int run, String name) throws Exception {
        Class<?>[] types = CLASS.get(name).getParameterTypes();
        Object[] values = new Object[types.length];
        for (int i = 0; i < values.length; i++) {
            values[i] = draw(25) == 0 ? EDGES[draw(EDGES.length)] : likely(name, i);
        }
        if ((name.equals("choose") || name.equals("removeArrow")) && draw(3) > 0) {
            values[1] = arrow((int) values[0], (int) values[1]);
        }
        both(run, name, values);
    }

    /** A place to which a place has an arrow, if it has one. */
    private static int arrow(int place, int otherwise) {
        int first = draw(14);
        for (int i = 0; i < 14; i++) {
            int to = (first + i) % 14;
            if (model.place(place, 2) > 0 && (model.place(place, 2) >> to & 1) == 1) {
                return to;
            }
        }
        return otherwise;
    }

    /** An argument that is mostly in range. */
    private static int likely(String name, int index) {
        int size = Math.max(1, model.count(0));
        int of = draw(12) == 0 ? 2 : 0;
        switch (name) {
            case "addPlace": return index == 0 ? draw(2) : draw(8);
            case "setOwner": return index == 0 ? draw(size) : draw(2);
            case "setColour": return index == 0 ? draw(size) : draw(8);
            case "measure": return index == 0 ? draw(2) : index == 1 ? draw(size) : draw(5) * 2 + 1 - of;
            case "choose": return index == 0 ? draw(size) : draw(6) == 0 ? 14 : draw(size);
            case "forced":
            case "trap":
            case "rank": return index == 0 ? draw(2) : index == 1 ? draw(1 << size) : draw(size);
            case "judged": return index == 0 ? draw(2) : draw(size);
            case "place": return index == 0 ? draw(size) : draw(7);
            case "badRings": return index == 0 ? draw(2) : draw(4);
            case "wins":
            case "rounds":
            case "chooseWell": return draw(2);
            case "step": return draw(3) == 0 ? draw(52) : 1 + draw(4);
            case "token": return draw(6);
            case "count": return draw(10);
            default: return draw(size + (of > 0 ? 1 : 0));
        }
    }

    private static void both(int run, String name, Object... values) throws Exception {
        calls++;
        int got = (int) CLASS.get(name).invoke(game, values);
        int want = (int) MODEL.get(name).invoke(model, values);
        String kind = want < 0 ? String.valueOf(Math.max(want, -100)) : "number";
        SEEN.computeIfAbsent(name, key -> new TreeMap<>()).merge(kind, 1, Integer::sum);
        if (got != want) {
            wrong++;
            System.out.println("run " + run + ": " + name + Arrays.toString(values)
                    + " answered " + got + ", due is " + want);
        }
    }
}
