import java.util.ArrayDeque;
import java.util.ArrayList;
import java.util.Arrays;
import java.util.Deque;
import java.util.List;
import java.util.TreeMap;
import java.util.TreeSet;
import java.util.regex.Matcher;
import java.util.regex.Pattern;

/**
 * The document once more, plainly and slowly, by other ways than the class goes: sets and lists
 * instead of bits, measures as rows, rings by a search over places and least colours, winners by
 * the recursion over forced sets, texts by a pattern.
 */
final class RingModel {
    private static final int UNKNOWN = -1;
    private static final int BAD_VALUE = -2;
    private static final int FULL = -3;
    private static final int NOT_POSSIBLE = -4;
    private static final int NONE = -5;
    private static final String PLACE = "(?:0|[1-9][0-9]?)";
    private static final String GROUP = PLACE + ">" + PLACE + "(?:," + PLACE + ")*";
    private static final Pattern ROW = Pattern.compile(GROUP + "(?:;" + GROUP + ")*");

    /** A game and what belongs to its state. */
    private static final class World {
        final List<Integer> owners = new ArrayList<>();
        final List<Integer> colours = new ArrayList<>();
        final List<TreeSet<Integer>> arrows = new ArrayList<>();
        final TreeMap<Integer, Integer> hand = new TreeMap<>();
        Integer token = null;
        int gone = 0;

        World copy() {
            World copy = new World();
            copy.owners.addAll(owners);
            copy.colours.addAll(colours);
            for (TreeSet<Integer> row : arrows) {
                copy.arrows.add(new TreeSet<>(row));
            }
            copy.hand.putAll(hand);
            copy.token = token;
            copy.gone = gone;
            return copy;
        }

        int size() {
            return owners.size();
        }

        int arrowCount() {
            return arrows.stream().mapToInt(TreeSet::size).sum();
        }

        World exchanged() {
            World other = copy();
            for (int p = 0; p < size(); p++) {
                other.owners.set(p, 1 - owners.get(p));
                other.colours.set(p, colours.get(p) + 1);
            }
            return other;
        }
    }

    private World world = new World();
    private final Deque<World> history = new ArrayDeque<>();
    private World snapshot = null;
    private final StringBuilder text = new StringBuilder();

    private void record() {
        history.addLast(world.copy());
        if (history.size() > 4) {
            history.removeFirst();
        }
    }

    private boolean noPlace(int place) {
        return place < 0 || place >= world.size();
    }

    private static boolean noPlayer(int player) {
        return player != 0 && player != 1;
    }

    // ---- the acts

    int addPlace(int owner, int colour) {
        if (noPlayer(owner) || colour < 0 || colour > 7) {
            return BAD_VALUE;
        }
        if (world.size() == 14) {
            return FULL;
        }
        record();
        world.owners.add(owner);
        world.colours.add(colour);
        world.arrows.add(new TreeSet<>());
        return world.size() - 1;
    }

    int setOwner(int place, int owner) {
        if (noPlace(place)) {
            return UNKNOWN;
        }
        if (noPlayer(owner)) {
            return BAD_VALUE;
        }
        if (world.owners.get(place) == owner) {
            return NONE;
        }
        record();
        world.owners.set(place, owner);
        return wins(0);
    }

    int setColour(int place, int colour) {
        if (noPlace(place)) {
            return UNKNOWN;
        }
        if (colour < 0 || colour > 7) {
            return BAD_VALUE;
        }
        if (world.colours.get(place) == colour) {
            return NONE;
        }
        record();
        return world.colours.set(place, colour);
    }

    int addArrow(int from, int to) {
        if (noPlace(from) || noPlace(to)) {
            return UNKNOWN;
        }
        if (world.arrowCount() == 60) {
            return FULL;
        }
        if (world.arrows.get(from).contains(to)) {
            return NONE;
        }
        record();
        world.arrows.get(from).add(to);
        return world.arrows.get(from).size();
    }

    int removeArrow(int from, int to) {
        if (noPlace(from) || noPlace(to)) {
            return UNKNOWN;
        }
        if (!world.arrows.get(from).contains(to)) {
            return NONE;
        }
        record();
        world.arrows.get(from).remove(to);
        world.hand.remove(from, to);
        return world.arrows.get(from).size();
    }

    int readArrows() {
        int fault = fault(text.toString());
        if (fault >= 0) {
            return -100 - fault;
        }
        World wanted = world.copy();
        for (String group : text.toString().split(";")) {
            String[] sides = group.split(">");
            for (String to : sides[1].split(",")) {
                int a = Integer.parseInt(sides[0]);
                int b = Integer.parseInt(to);
                if (noPlace(a) || noPlace(b)) {
                    return UNKNOWN;
                }
                wanted.arrows.get(a).add(b);
            }
        }
        if (wanted.arrowCount() > 60) {
            return FULL;
        }
        record();
        int more = wanted.arrowCount() - world.arrowCount();
        world = wanted;
        return more;
    }

    private static int fault(String text) {
        for (int i = 1; i <= text.length(); i++) {
            Matcher matcher = ROW.matcher(text.substring(0, i));
            if (!matcher.matches() && !matcher.hitEnd()) {
                return i - 1;
            }
        }
        return ROW.matcher(text).matches() ? -1 : text.length();
    }

    int turnOver() {
        if (world.colours.contains(7)) {
            return NOT_POSSIBLE;
        }
        record();
        world = world.exchanged();
        return wins(1);
    }

    int choose(int place, int to) {
        if (noPlace(place)) {
            return UNKNOWN;
        }
        if (to < 0 || to > 14) {
            return BAD_VALUE;
        }
        if (to != 14 && !world.arrows.get(place).contains(to)) {
            return NOT_POSSIBLE;
        }
        int before = world.hand.getOrDefault(place, 14);
        if (before == to) {
            return NONE;
        }
        record();
        if (to == 14) {
            world.hand.remove(place);
        } else {
            world.hand.put(place, to);
        }
        return before;
    }

    int chooseWell(int player) {
        if (noPlayer(player)) {
            return UNKNOWN;
        }
        record();
        int chosen = 0;
        for (int p = 0; p < world.size(); p++) {
            if (world.owners.get(p) == player) {
                world.hand.remove(p);
                if (winningChoice(p) != NONE) {
                    world.hand.put(p, winningChoice(p));
                    chosen++;
                }
            }
        }
        return chosen;
    }

    int start(int place) {
        if (noPlace(place)) {
            return UNKNOWN;
        }
        record();
        world.token = place;
        world.gone = 0;
        return winners(world).contains(place) ? 0 : 1;
    }

    /** The place to which a token goes on, -1 if it cannot. */
    private int onward(int place) {
        if (world.hand.containsKey(place)) {
            return world.hand.get(place);
        }
        int winning = winningChoice(place);
        if (winning != NONE) {
            return winning;
        }
        return world.arrows.get(place).isEmpty() ? -1 : world.arrows.get(place).first();
    }

    int step(int steps) {
        if (steps < 1 || steps > 50) {
            return BAD_VALUE;
        }
        if (world.token == null || onward(world.token) < 0) {
            return NOT_POSSIBLE;
        }
        record();
        for (int i = 0; i < steps; i++) {
            int to = onward(world.token);
            if (to >= 0) {
                world.token = to;
                world.gone++;
            }
        }
        return world.token;
    }

    int type(char character) {
        if (text.length() == 60) {
            return FULL;
        }
        return text.append(character).length();
    }

    int clearText() {
        int length = text.length();
        text.setLength(0);
        return length;
    }

    int undo() {
        if (history.isEmpty()) {
            return NONE;
        }
        world = history.removeLast();
        return history.size();
    }

    int keep() {
        snapshot = world.copy();
        return world.size();
    }

    int restore() {
        if (snapshot == null) {
            return NONE;
        }
        record();
        world = snapshot.copy();
        return world.size();
    }

    // ---- what is told

    int place(int place, int what) {
        if (noPlace(place)) {
            return UNKNOWN;
        }
        if (what < 0 || what > 5) {
            return BAD_VALUE;
        }
        TreeSet<Integer> sources = new TreeSet<>();
        for (int p = 0; p < world.size(); p++) {
            if (world.arrows.get(p).contains(place)) {
                sources.add(p);
            }
        }
        int[] answers = {
            world.owners.get(place), world.colours.get(place), bits(world.arrows.get(place)),
            bits(sources), winners(world).contains(place) ? 0 : 1,
            world.hand.getOrDefault(place, NONE),
        };
        return answers[what];
    }

    int wins(int player) {
        if (noPlayer(player)) {
            return UNKNOWN;
        }
        TreeSet<Integer> won = winners(world);
        TreeSet<Integer> rest = all(world);
        rest.removeAll(won);
        return bits(player == 0 ? won : rest);
    }

    int winningChoice(int place) {
        if (noPlace(place)) {
            return UNKNOWN;
        }
        World game = world.owners.get(place) == 0 ? world : world.exchanged();
        List<int[]> measures = new ArrayList<>();
        measures(game, measures);
        int best = NONE;
        int[] least = null;
        for (int to : game.arrows.get(place)) {
            int[] wanted = wanted(game, game.colours.get(place), measures.get(to));
            if (wanted != null && (best == NONE || Arrays.compare(wanted, least) < 0)) {
                best = to;
                least = wanted;
            }
        }
        return measures.get(place) == null ? NONE : best;
    }

    int measure(int player, int place, int colour) {
        if (noPlayer(player) || noPlace(place)) {
            return UNKNOWN;
        }
        if (!List.of(1, 3, 5, 7).contains(colour)) {
            return BAD_VALUE;
        }
        List<int[]> measures = new ArrayList<>();
        measures(player == 0 ? world : world.exchanged(), measures);
        int[] row = measures.get(place);
        return row == null ? NONE : row[(colour - 1) / 2];
    }

    int rounds(int player) {
        if (noPlayer(player)) {
            return UNKNOWN;
        }
        return measures(player == 0 ? world : world.exchanged(), new ArrayList<>());
    }

    int forced(int player, int set) {
        if (noPlayer(player)) {
            return UNKNOWN;
        }
        if (noSet(set)) {
            return BAD_VALUE;
        }
        return bits(new TreeSet<>(ranks(world, all(world), player, places(set)).keySet()));
    }

    int rank(int player, int set, int place) {
        if (noPlayer(player) || noPlace(place)) {
            return UNKNOWN;
        }
        if (noSet(set)) {
            return BAD_VALUE;
        }
        return ranks(world, all(world), player, places(set)).getOrDefault(place, NONE);
    }

    int trap(int player, int set) {
        if (noPlayer(player)) {
            return UNKNOWN;
        }
        if (noSet(set)) {
            return BAD_VALUE;
        }
        TreeSet<Integer> inside = places(set);
        for (int p : inside) {
            TreeSet<Integer> kept = new TreeSet<>(world.arrows.get(p));
            kept.retainAll(inside);
            if (world.owners.get(p) == player && kept.size() < world.arrows.get(p).size()) {
                return 0;
            }
            if (world.owners.get(p) != player && kept.isEmpty()) {
                return 0;
            }
        }
        return 1;
    }

    int judged(int player, int place) {
        if (noPlayer(player) || noPlace(place)) {
            return UNKNOWN;
        }
        World game = judgedGame(player);
        TreeSet<Integer> seen = new TreeSet<>();
        Deque<Integer> open = new ArrayDeque<>(List.of(place));
        while (!open.isEmpty()) {
            int p = open.removeFirst();
            if (seen.add(p)) {
                open.addAll(game.arrows.get(p));
            }
        }
        for (int p : seen) {
            if (game.arrows.get(p).isEmpty() && game.owners.get(p) == player) {
                return 0;
            }
            if (!badRingsThrough(game, player, p).isEmpty()) {
                return 0;
            }
        }
        return 1;
    }

    int badRings(int player, int what) {
        if (noPlayer(player)) {
            return UNKNOWN;
        }
        if (what < 0 || what > 2) {
            return BAD_VALUE;
        }
        World game = judgedGame(player);
        TreeSet<Integer> on = new TreeSet<>();
        TreeSet<Integer> colours = new TreeSet<>();
        TreeSet<Integer> lengths = new TreeSet<>();
        for (int p = 0; p < game.size(); p++) {
            TreeMap<Integer, Integer> rings = badRingsThrough(game, player, p);
            if (!rings.isEmpty()) {
                on.add(p);
            }
            colours.addAll(rings.keySet());
            lengths.addAll(rings.values());
        }
        if (what == 0) {
            return bits(on);
        }
        TreeSet<Integer> asked = what == 1 ? colours : lengths;
        return asked.isEmpty() ? NONE : asked.first();
    }

    int pivots(int place) {
        if (noPlace(place)) {
            return UNKNOWN;
        }
        boolean won = winners(world).contains(place);
        TreeSet<Integer> found = new TreeSet<>();
        for (int p = 0; p < world.size(); p++) {
            World other = world.copy();
            other.owners.set(p, 1 - other.owners.get(p));
            if (winners(other).contains(place) != won) {
                found.add(p);
            }
        }
        return bits(found);
    }

    int weakArrows(int place) {
        if (noPlace(place)) {
            return UNKNOWN;
        }
        boolean won = winners(world).contains(place);
        TreeSet<Integer> found = new TreeSet<>();
        for (int to : world.arrows.get(place)) {
            World other = world.copy();
            other.arrows.get(place).remove(to);
            if (winners(other).contains(place) != won) {
                found.add(to);
            }
        }
        return bits(found);
    }

    int token(int what) {
        if (what < 0 || what > 4) {
            return BAD_VALUE;
        }
        if (world.token == null) {
            return NOT_POSSIBLE;
        }
        List<Integer> way = new ArrayList<>();
        int at = world.token;
        while (at >= 0 && !way.contains(at)) {
            way.add(at);
            at = onward(at);
        }
        if (at < 0) {
            int last = way.get(way.size() - 1);
            int[] answers = {world.token, way.size() - 1, NONE, NONE, 1 - world.owners.get(last)};
            return answers[what];
        }
        int least = 8;
        for (int p : way.subList(way.indexOf(at), way.size())) {
            least = Math.min(least, world.colours.get(p));
        }
        int[] answers = {world.token, NONE, least, way.size(), least % 2};
        return answers[what];
    }

    int count(int what) {
        if (what < 0 || what > 8) {
            return BAD_VALUE;
        }
        TreeSet<Integer> bare = all(world);
        bare.removeIf(p -> !world.arrows.get(p).isEmpty());
        int[] answers = {
            world.size(), world.arrowCount(),
            (int) world.owners.stream().filter(owner -> owner == 0).count(), bits(bare),
            world.colours.stream().mapToInt(c -> c).min().orElse(NONE), world.hand.size(),
            world.gone, history.size(), text.length(),
        };
        return answers[what];
    }

    // ---- how it is found

    private static int bits(TreeSet<Integer> set) {
        return set.stream().mapToInt(p -> 1 << p).sum();
    }

    private static TreeSet<Integer> places(int set) {
        TreeSet<Integer> places = new TreeSet<>();
        for (int p = 0; p < 14; p++) {
            if ((set & 1 << p) != 0) {
                places.add(p);
            }
        }
        return places;
    }

    private boolean noSet(int set) {
        return set < 0 || set >= 1 << world.size();
    }

    private static TreeSet<Integer> all(World game) {
        return places((1 << game.size()) - 1);
    }

    /** The ranks of the places that a player can force within some places of a game. */
    private static TreeMap<Integer, Integer> ranks(
            World game, TreeSet<Integer> within, int player, TreeSet<Integer> goal) {
        TreeMap<Integer, Integer> ranks = new TreeMap<>();
        for (int p : goal) {
            ranks.put(p, 0);
        }
        for (int round = 1; round <= 20; round++) {
            TreeSet<Integer> coming = new TreeSet<>();
            for (int p : within) {
                TreeSet<Integer> arrows = new TreeSet<>(game.arrows.get(p));
                arrows.retainAll(within);
                TreeSet<Integer> into = new TreeSet<>(arrows);
                into.retainAll(ranks.keySet());
                boolean own = game.owners.get(p) == player;
                if (!into.isEmpty() && (own || into.size() == arrows.size())) {
                    coming.add(p);
                }
            }
            for (int p : coming) {
                ranks.putIfAbsent(p, round);
            }
        }
        return ranks;
    }

    /** The places that the player 0 wins. */
    private static TreeSet<Integer> winners(World game) {
        TreeSet<Integer> rest = all(game);
        TreeSet<Integer> won = new TreeSet<>();
        for (int player = 0; player <= 1; player++) {
            TreeSet<Integer> stuck = new TreeSet<>();
            for (int p : rest) {
                boolean none = game.arrows.get(p).stream().noneMatch(rest::contains);
                if (none && game.owners.get(p) != player) {
                    stuck.add(p);
                }
            }
            TreeSet<Integer> forced =
                    new TreeSet<>(ranks(game, rest, player, stuck).keySet());
            rest.removeAll(forced);
            if (player == 0) {
                won.addAll(forced);
            }
        }
        won.addAll(solve(game, rest));
        return won;
    }

    /** The same within some places of which each has an arrow to one of them. */
    private static TreeSet<Integer> solve(World game, TreeSet<Integer> within) {
        if (within.isEmpty()) {
            return within;
        }
        int least = within.stream().mapToInt(game.colours::get).min().getAsInt();
        int player = least % 2;
        TreeSet<Integer> goal = new TreeSet<>(within);
        goal.removeIf(p -> game.colours.get(p) != least);
        TreeSet<Integer> first = without(within, ranks(game, within, player, goal));
        TreeSet<Integer> lost = wonBy(game, first, 1 - player);
        if (lost.isEmpty()) {
            return player == 0 ? within : new TreeSet<>();
        }
        TreeMap<Integer, Integer> drawn = ranks(game, within, 1 - player, lost);
        TreeSet<Integer> won = wonBy(game, without(within, drawn), 0);
        if (player == 1) {
            won.addAll(drawn.keySet());
        }
        return won;
    }

    private static TreeSet<Integer> wonBy(World game, TreeSet<Integer> within, int player) {
        TreeSet<Integer> won = new TreeSet<>(solve(game, within));
        if (player == 0) {
            return won;
        }
        TreeSet<Integer> rest = new TreeSet<>(within);
        rest.removeAll(won);
        return rest;
    }

    private static TreeSet<Integer> without(
            TreeSet<Integer> within, TreeMap<Integer, Integer> gone) {
        TreeSet<Integer> rest = new TreeSet<>(within);
        rest.removeAll(gone.keySet());
        return rest;
    }

    /** Finds the measures as the document says, null for LOST, and answers the last round. */
    private static int measures(World game, List<int[]> measures) {
        for (int p = 0; p < game.size(); p++) {
            measures.add(new int[4]);
        }
        for (int round = 1;; round++) {
            boolean greater = false;
            for (int p = 0; p < game.size(); p++) {
                int[] asked = asked(game, measures, p);
                if (compare(measures.get(p), asked) < 0) {
                    measures.set(p, asked);
                    greater = true;
                }
            }
            if (!greater) {
                return round;
            }
        }
    }

    private static int compare(int[] one, int[] other) {
        if (one == null || other == null) {
            return (one == null ? 1 : 0) - (other == null ? 1 : 0);
        }
        return Arrays.compare(one, other);
    }

    private static int[] asked(World game, List<int[]> measures, int place) {
        List<int[]> wanted = new ArrayList<>();
        for (int to : game.arrows.get(place)) {
            wanted.add(wanted(game, game.colours.get(place), measures.get(to)));
        }
        wanted.sort(RingModel::compare);
        if (game.owners.get(place) == 0) {
            return wanted.isEmpty() ? null : wanted.get(0);
        }
        return wanted.isEmpty() ? new int[4] : wanted.get(wanted.size() - 1);
    }

    private static int[] wanted(World game, int colour, int[] measure) {
        if (measure == null) {
            return null;
        }
        int[] row = measure.clone();
        for (int c = 1; c <= 7; c += 2) {
            if (c > colour) {
                row[(c - 1) / 2] = 0;
            }
        }
        if (colour % 2 == 0) {
            return row;
        }
        for (int c = colour; c >= 1; c -= 2) {
            int most = 0;
            for (int other : game.colours) {
                most += other == c ? 1 : 0;
            }
            row[(c - 1) / 2]++;
            if (row[(c - 1) / 2] <= most) {
                return row;
            }
            row[(c - 1) / 2] = 0;
        }
        return null;
    }

    private World judgedGame(int player) {
        World game = world.copy();
        for (int p : world.hand.keySet()) {
            if (world.owners.get(p) == player) {
                game.arrows.set(p, new TreeSet<>(List.of(world.hand.get(p))));
            }
        }
        return game;
    }

    /** For each least colour of a bad ring through a place the length of the shortest such ring. */
    private static TreeMap<Integer, Integer> badRingsThrough(World game, int player, int place) {
        TreeMap<Integer, Integer> rings = new TreeMap<>();
        TreeSet<Integer> seen = new TreeSet<>();
        // An element is a place and the least colour so far, as place * 10 + colour.
        List<Integer> layer = List.of(place * 10 + game.colours.get(place));
        for (int length = 1; !layer.isEmpty(); length++) {
            List<Integer> next = new ArrayList<>();
            for (int element : layer) {
                for (int to : game.arrows.get(element / 10)) {
                    int least = Math.min(element % 10, game.colours.get(to));
                    if (seen.add(to * 10 + least)) {
                        next.add(to * 10 + least);
                        if (to == place && least % 2 != player) {
                            rings.put(least, length);
                        }
                    }
                }
            }
            layer = next;
        }
        return rings;
    }
}
