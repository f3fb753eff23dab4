/**
 * Games of two players that go on without end. README.md tells how to use the class; the promises
 * that it keeps stand in DOC.md.
 */
public final class RingGames {
    public static final int UNKNOWN = -1;
    public static final int BAD_VALUE = -2;
    public static final int FULL = -3;
    public static final int NOT_POSSIBLE = -4;
    public static final int NONE = -5;

    private static final int MOST_PLACES = 14;
    private static final int MOST_ARROWS = 60;
    private static final int MOST_COLOUR = 7;
    private static final int MOST_STEPS = 50;
    private static final int MOST_SIGNS = 60;
    private static final int MOST_STATES = 4;
    private static final int FAULT_BASE = -100;
    // The face takes and gives 14 where there is no place; the fields do the same.
    private static final int NOWHERE = MOST_PLACES;

    private final State now = new State();
    private final History history = new History();
    private final State snapshot = new State();
    private boolean hasSnapshot = false;
    private final ArrowText text = new ArrowText();
    // What calls work on is made once here, so that no call makes an object.
    private final Game trial = new Game();
    private final Measures measures = new Measures();
    private final Walk walk = new Walk();

    /** Creates a game without places. */
    public RingGames() {
    }

    // ---- places and arrows

    public int addPlace(int owner, int colour) {
        if (!isPlayer(owner) || !isColour(colour)) {
            return BAD_VALUE;
        }
        if (now.game.size >= MOST_PLACES) {
            return FULL;
        }
        history.remember(now);
        return now.append(owner, colour);
    }

    public int setOwner(int place, int owner) {
        if (!now.game.has(place)) {
            return UNKNOWN;
        }
        if (!isPlayer(owner)) {
            return BAD_VALUE;
        }
        if (now.game.owners[place] == owner) {
            return NONE;
        }
        history.remember(now);
        now.game.owners[place] = owner;
        return wonBy(0);
    }

    public int setColour(int place, int colour) {
        if (!now.game.has(place)) {
            return UNKNOWN;
        }
        if (!isColour(colour)) {
            return BAD_VALUE;
        }
        int previous = now.game.colours[place];
        if (previous == colour) {
            return NONE;
        }
        history.remember(now);
        now.game.colours[place] = colour;
        return previous;
    }

    public int addArrow(int from, int to) {
        if (!now.game.has(from) || !now.game.has(to)) {
            return UNKNOWN;
        }
        if (now.game.arrowCount() >= MOST_ARROWS) {
            return FULL;
        }
        if (now.game.leads(from, to)) {
            return NONE;
        }
        history.remember(now);
        now.game.arrows[from] |= bit(to);
        return Integer.bitCount(now.game.arrows[from]);
    }

    public int removeArrow(int from, int to) {
        if (!now.game.has(from) || !now.game.has(to)) {
            return UNKNOWN;
        }
        if (!now.game.leads(from, to)) {
            return NONE;
        }
        history.remember(now);
        now.game.arrows[from] &= ~bit(to);
        if (now.choices[from] == to) {
            now.choices[from] = NOWHERE;
        }
        return Integer.bitCount(now.game.arrows[from]);
    }

    public int readArrows() {
        int fault = text.fault();
        if (fault >= 0) {
            return FAULT_BASE - fault;
        }
        trial.become(now.game);
        if (!text.drawInto(trial)) {
            return UNKNOWN;
        }
        if (trial.arrowCount() > MOST_ARROWS) {
            return FULL;
        }
        int coming = trial.arrowCount() - now.game.arrowCount();
        history.remember(now);
        now.game.become(trial);
        return coming;
    }

    public int turnOver() {
        if (now.game.hasColour(MOST_COLOUR)) {
            return NOT_POSSIBLE;
        }
        history.remember(now);
        now.game.exchange();
        return wonBy(1);
    }

    // ---- choices by hand, the token

    public int choose(int place, int to) {
        if (!now.game.has(place)) {
            return UNKNOWN;
        }
        if (to < 0 || to > NOWHERE) {
            return BAD_VALUE;
        }
        if (to != NOWHERE && !now.game.leads(place, to)) {
            return NOT_POSSIBLE;
        }
        int previous = now.choices[place];
        if (previous == to) {
            return NONE;
        }
        history.remember(now);
        now.choices[place] = to;
        return previous;
    }

    public int chooseWell(int player) {
        if (!isPlayer(player)) {
            return UNKNOWN;
        }
        history.remember(now);
        solveFor(player);
        int chosen = 0;
        for (int place = 0; place < now.game.size; place++) {
            if (now.game.owners[place] == player) {
                now.choices[place] = measures.bestArrow(trial, place);
                chosen += now.choices[place] == NOWHERE ? 0 : 1;
            }
        }
        return chosen;
    }

    public int start(int place) {
        if (!now.game.has(place)) {
            return UNKNOWN;
        }
        history.remember(now);
        now.tokenAt = place;
        now.tokenSteps = 0;
        return winnerOf(place);
    }

    public int step(int steps) {
        if (steps < 1 || steps > MOST_STEPS) {
            return BAD_VALUE;
        }
        if (!now.game.has(now.tokenAt)) {
            return NOT_POSSIBLE;
        }
        findWays();
        if (walk.wayFrom(now.tokenAt) == NOWHERE) {
            return NOT_POSSIBLE;
        }
        history.remember(now);
        for (int i = 0; i < steps && walk.wayFrom(now.tokenAt) != NOWHERE; i++) {
            now.tokenAt = walk.wayFrom(now.tokenAt);
            now.tokenSteps++;
        }
        return now.tokenAt;
    }

    // ---- texts

    public int type(char character) {
        return text.append(character) ? text.length : FULL;
    }

    public int clearText() {
        int length = text.length;
        text.length = 0;
        return length;
    }

    // ---- history

    public int undo() {
        return history.takeInto(now) ? history.count : NONE;
    }

    public int keep() {
        snapshot.become(now);
        hasSnapshot = true;
        return now.game.size;
    }

    public int restore() {
        if (!hasSnapshot) {
            return NONE;
        }
        history.remember(now);
        now.become(snapshot);
        return now.game.size;
    }

    // ---- what is told

    public int place(int place, int what) {
        if (!now.game.has(place)) {
            return UNKNOWN;
        }
        switch (what) {
            case 0:
                return now.game.owners[place];
            case 1:
                return now.game.colours[place];
            case 2:
                return now.game.arrows[place];
            case 3:
                return now.game.sources(bit(place));
            case 4:
                return winnerOf(place);
            case 5:
                return placeOrNone(now.choices[place]);
            default:
                return BAD_VALUE;
        }
    }

    public int wins(int player) {
        return isPlayer(player) ? wonBy(player) : UNKNOWN;
    }

    public int winningChoice(int place) {
        if (!now.game.has(place)) {
            return UNKNOWN;
        }
        solveFor(now.game.owners[place]);
        return placeOrNone(measures.bestArrow(trial, place));
    }

    public int measure(int player, int place, int colour) {
        if (!isPlayer(player) || !now.game.has(place)) {
            return UNKNOWN;
        }
        if (!isColour(colour) || colour % 2 == 0) {
            return BAD_VALUE;
        }
        solveFor(player);
        return measures.isLost(place) ? NONE : measures.number(place, colour);
    }

    public int rounds(int player) {
        if (!isPlayer(player)) {
            return UNKNOWN;
        }
        solveFor(player);
        return measures.lastRound;
    }

    public int forced(int player, int set) {
        if (!isPlayer(player)) {
            return UNKNOWN;
        }
        if (!now.game.hasAll(set)) {
            return BAD_VALUE;
        }
        int reached = set;
        for (int round = 1; round <= now.game.size; round++) {
            reached = now.game.forcedNext(player, reached);
        }
        return reached;
    }

    public int rank(int player, int set, int place) {
        if (!isPlayer(player) || !now.game.has(place)) {
            return UNKNOWN;
        }
        if (!now.game.hasAll(set)) {
            return BAD_VALUE;
        }
        int reached = set;
        for (int round = 0; round <= now.game.size; round++) {
            if (contains(reached, place)) {
                return round;
            }
            reached = now.game.forcedNext(player, reached);
        }
        return NONE;
    }

    public int trap(int player, int set) {
        if (!isPlayer(player)) {
            return UNKNOWN;
        }
        if (!now.game.hasAll(set)) {
            return BAD_VALUE;
        }
        return now.game.isTrap(player, set) ? 1 : 0;
    }

    public int judged(int player, int place) {
        if (!isPlayer(player) || !now.game.has(place)) {
            return UNKNOWN;
        }
        judgeFor(player);
        int bad = trial.badRingPlaces(player) | (trial.owned(player) & trial.withoutArrows());
        int reached = bit(place) | trial.reached(bit(place), trial.all());
        return (reached & bad) == 0 ? 1 : 0;
    }

    public int badRings(int player, int what) {
        if (!isPlayer(player)) {
            return UNKNOWN;
        }
        judgeFor(player);
        switch (what) {
            case 0:
                return trial.badRingPlaces(player);
            case 1:
                return trial.leastBadColour(player);
            case 2:
                return trial.shortestBadRing(player);
            default:
                return BAD_VALUE;
        }
    }

    public int pivots(int place) {
        if (!now.game.has(place)) {
            return UNKNOWN;
        }
        int winner = winnerOf(place);
        int found = 0;
        trial.become(now.game);
        for (int other = 0; other < now.game.size; other++) {
            trial.owners[other] = 1 - now.game.owners[other];
            measures.find(trial);
            if (measures.winner(place) != winner) {
                found |= bit(other);
            }
            trial.owners[other] = now.game.owners[other];
        }
        return found;
    }

    public int weakArrows(int place) {
        if (!now.game.has(place)) {
            return UNKNOWN;
        }
        int winner = winnerOf(place);
        int found = 0;
        trial.become(now.game);
        for (int to = 0; to < now.game.size; to++) {
            if (now.game.leads(place, to)) {
                trial.arrows[place] = now.game.arrows[place] & ~bit(to);
                measures.find(trial);
                if (measures.winner(place) != winner) {
                    found |= bit(to);
                }
            }
        }
        return found;
    }

    public int token(int what) {
        if (what < 0 || what > 4) {
            return BAD_VALUE;
        }
        if (!now.game.has(now.tokenAt)) {
            return NOT_POSSIBLE;
        }
        findWays();
        walk.follow(now.tokenAt);
        switch (what) {
            case 0:
                return now.tokenAt;
            case 1:
                return walk.endless ? NONE : walk.steps;
            case 2:
                return walk.endless ? walk.leastColourAgain(now.game) : NONE;
            case 3:
                return walk.endless ? walk.steps : NONE;
            default:
                return walk.winner(now.game);
        }
    }

    public int count(int what) {
        switch (what) {
            case 0:
                return now.game.size;
            case 1:
                return now.game.arrowCount();
            case 2:
                return Integer.bitCount(now.game.owned(0));
            case 3:
                return now.game.withoutArrows();
            case 4:
                return now.game.leastColour();
            case 5:
                return now.choiceCount();
            case 6:
                return now.tokenSteps;
            case 7:
                return history.count;
            case 8:
                return text.length;
            default:
                return BAD_VALUE;
        }
    }

    // ---- helpers

    private static boolean isPlayer(int player) {
        return player == 0 || player == 1;
    }

    private static boolean isColour(int colour) {
        return colour >= 0 && colour <= MOST_COLOUR;
    }

    private static int bit(int place) {
        return 1 << place;
    }

    private static boolean contains(int set, int place) {
        return (set >> place & 1) == 1;
    }

    private static int placeOrNone(int place) {
        return place == NOWHERE ? NONE : place;
    }

    /** Finds the measures for a player: those of the game in which this player is the player 0. */
    private void solveFor(int player) {
        trial.become(now.game);
        if (player == 1) {
            trial.exchange();
        }
        measures.find(trial);
    }

    private int wonBy(int player) {
        solveFor(player);
        int won = 0;
        for (int place = 0; place < now.game.size; place++) {
            if (!measures.isLost(place)) {
                won |= bit(place);
            }
        }
        return won;
    }

    private int winnerOf(int place) {
        solveFor(0);
        return measures.winner(place);
    }

    private void findWays() {
        for (int player = 0; player <= 1; player++) {
            solveFor(player);
            for (int place = 0; place < now.game.size; place++) {
                if (now.game.owners[place] == player) {
                    walk.ways[place] = wayOn(place);
                }
            }
        }
    }

    /** Where a token goes on from a place; the measures must be those for its owner. */
    private int wayOn(int place) {
        if (now.choices[place] != NOWHERE) {
            return now.choices[place];
        }
        int best = measures.bestArrow(trial, place);
        return best != NOWHERE ? best : now.game.lowestArrow(place);
    }

    private void judgeFor(int player) {
        trial.become(now.game);
        for (int place = 0; place < now.game.size; place++) {
            if (now.game.owners[place] == player && now.choices[place] != NOWHERE) {
                trial.arrows[place] = bit(now.choices[place]);
            }
        }
    }

    /** Places with owners, colours and arrows; sets of places are told as bits. */
    private static final class Game {
        int size;
        final int[] owners = new int[MOST_PLACES];
        final int[] colours = new int[MOST_PLACES];
        final int[] arrows = new int[MOST_PLACES];

        void become(Game other) {
            size = other.size;
            System.arraycopy(other.owners, 0, owners, 0, MOST_PLACES);
            System.arraycopy(other.colours, 0, colours, 0, MOST_PLACES);
            System.arraycopy(other.arrows, 0, arrows, 0, MOST_PLACES);
        }

        boolean has(int place) {
            return place >= 0 && place < size;
        }

        int all() {
            return bit(size) - 1;
        }

        boolean hasAll(int set) {
            return (set & ~all()) == 0;
        }

        boolean leads(int from, int to) {
            return has(from) && has(to) && contains(arrows[from], to);
        }

        int arrowCount() {
            int sum = 0;
            for (int place = 0; place < size; place++) {
                sum += Integer.bitCount(arrows[place]);
            }
            return sum;
        }

        int lowestArrow(int place) {
            for (int to = 0; to < size; to++) {
                if (leads(place, to)) {
                    return to;
                }
            }
            return NOWHERE;
        }

        int owned(int player) {
            int set = 0;
            for (int place = 0; place < size; place++) {
                if (owners[place] == player) {
                    set |= bit(place);
                }
            }
            return set;
        }

        int withoutArrows() {
            int set = 0;
            for (int place = 0; place < size; place++) {
                if (arrows[place] == 0) {
                    set |= bit(place);
                }
            }
            return set;
        }

        boolean hasColour(int colour) {
            for (int place = 0; place < size; place++) {
                if (colours[place] == colour) {
                    return true;
                }
            }
            return false;
        }

        int leastColour() {
            int least = NONE;
            for (int place = 0; place < size; place++) {
                if (least == NONE || colours[place] < least) {
                    least = colours[place];
                }
            }
            return least;
        }

        void exchange() {
            for (int place = 0; place < size; place++) {
                owners[place] = 1 - owners[place];
                colours[place]++;
            }
        }

        /** The places that have an arrow into a set. */
        int sources(int set) {
            int found = 0;
            for (int place = 0; place < size; place++) {
                if ((arrows[place] & set) != 0) {
                    found |= bit(place);
                }
            }
            return found;
        }

        /** The places to which the places of a set have arrows. */
        int targets(int set) {
            int found = 0;
            for (int place = 0; place < size; place++) {
                if (contains(set, place)) {
                    found |= arrows[place];
                }
            }
            return found;
        }

        /** A set with the places that come in one more round of forcing. */
        int forcedNext(int player, int set) {
            int grown = set;
            for (int place = 0; place < size; place++) {
                boolean some = (arrows[place] & set) != 0;
                boolean none = (arrows[place] & ~set) == 0;
                if (some && (owners[place] == player || none)) {
                    grown |= bit(place);
                }
            }
            return grown;
        }

        boolean isTrap(int player, int set) {
            for (int place = 0; place < size; place++) {
                boolean leaves = (arrows[place] & ~set) != 0;
                boolean stays = (arrows[place] & set) != 0;
                boolean breaks = owners[place] == player ? leaves : !stays;
                if (contains(set, place) && breaks) {
                    return false;
                }
            }
            return true;
        }

        /** The places to which ways of at least one arrow lead from a set, within other places. */
        int reached(int set, int within) {
            int found = 0;
            for (int arrow = 1; arrow <= size; arrow++) {
                found |= targets(set | found) & within;
            }
            return found;
        }

        /** The places from which ways of at least one arrow lead to a set, within other places. */
        int reaching(int set, int within) {
            int found = 0;
            for (int arrow = 1; arrow <= size; arrow++) {
                found |= sources(set | found) & within;
            }
            return found;
        }

        /** The places whose colours are not less than that of a place. */
        int notLess(int place) {
            int set = 0;
            for (int other = 0; other < size; other++) {
                if (colours[other] >= colours[place]) {
                    set |= bit(other);
                }
            }
            return set;
        }

        /** The places on rings through a place on which no colour is less than its own. */
        int ringPlaces(int place) {
            int within = notLess(place);
            int found = reached(bit(place), within) & reaching(bit(place), within);
            return contains(found, place) ? found : 0;
        }

        boolean isBadColour(int player, int colour) {
            return colour % 2 != player;
        }

        int badRingPlaces(int player) {
            int found = 0;
            for (int place = 0; place < size; place++) {
                if (isBadColour(player, colours[place])) {
                    found |= ringPlaces(place);
                }
            }
            return found;
        }

        int leastBadColour(int player) {
            int least = NONE;
            for (int place = 0; place < size; place++) {
                boolean lesser = least == NONE || colours[place] < least;
                if (lesser && isBadColour(player, colours[place]) && ringPlaces(place) != 0) {
                    least = colours[place];
                }
            }
            return least;
        }

        int shortestBadRing(int player) {
            int least = NONE;
            for (int place = 0; place < size; place++) {
                if (isBadColour(player, colours[place])) {
                    int length = shortestRing(place);
                    if (length != NONE && (least == NONE || length < least)) {
                        least = length;
                    }
                }
            }
            return least;
        }

        /** The length of the shortest ring through a place on which no colour is less than its own. */
        int shortestRing(int place) {
            int within = notLess(place);
            int reached = bit(place);
            // No shortest ring goes through a place twice, so none is longer than there are places.
            for (int length = 1; length <= size; length++) {
                reached = targets(reached) & within;
                if (contains(reached, place)) {
                    return length;
                }
            }
            return NONE;
        }
    }

    /** What undo() and restore() bring back. */
    private static final class State {
        final Game game = new Game();
        final int[] choices = new int[MOST_PLACES];
        int tokenAt = NOWHERE;
        int tokenSteps;

        void become(State other) {
            game.become(other.game);
            System.arraycopy(other.choices, 0, choices, 0, MOST_PLACES);
            tokenAt = other.tokenAt;
            tokenSteps = other.tokenSteps;
        }

        /** Adds a place and answers its number; there must be room for it. */
        int append(int owner, int colour) {
            int place = game.size;
            game.owners[place] = owner;
            game.colours[place] = colour;
            game.arrows[place] = 0;
            choices[place] = NOWHERE;
            game.size++;
            return place;
        }

        int choiceCount() {
            int sum = 0;
            for (int place = 0; place < game.size; place++) {
                sum += choices[place] == NOWHERE ? 0 : 1;
            }
            return sum;
        }
    }

    /** The states before the latest acts, the oldest one first. */
    private static final class History {
        private final State[] states = new State[MOST_STATES];
        int count;

        History() {
            for (int i = 0; i < MOST_STATES; i++) {
                states[i] = new State();
            }
        }

        void remember(State state) {
            if (count == MOST_STATES) {
                dropOldest();
            }
            states[count].become(state);
            count++;
        }

        // The dropped state's object goes to the end, where the next one is written into it.
        private void dropOldest() {
            State oldest = states[0];
            for (int i = 1; i < MOST_STATES; i++) {
                states[i - 1] = states[i];
            }
            states[MOST_STATES - 1] = oldest;
            count--;
        }

        boolean takeInto(State state) {
            if (count == 0) {
                return false;
            }
            count--;
            state.become(states[count]);
            return true;
        }
    }

    /** The text with a row of arrows. */
    private static final class ArrowText {
        // What may come next: the first digit of a place, a second one too, or only a sign behind it.
        private static final int FIRST_DIGIT = 0;
        private static final int SECOND_DIGIT = 1;
        private static final int SIGN = 2;

        private final char[] signs = new char[MOST_SIGNS];
        int length;

        boolean append(char character) {
            if (length >= MOST_SIGNS) {
                return false;
            }
            signs[length] = character;
            length++;
            return true;
        }

        private static boolean isDigit(char sign) {
            return sign >= '0' && sign <= '9';
        }

        private static boolean isSignBehind(char sign, boolean behindArrow) {
            return behindArrow ? sign == ',' || sign == ';' : sign == '>';
        }

        /** The index of the fault, -1 if there is none. */
        int fault() {
            int next = FIRST_DIGIT;
            boolean behindArrow = false;
            for (int i = 0; i < length; i++) {
                char sign = signs[i];
                if (isDigit(sign) && next != SIGN) {
                    boolean more = next == FIRST_DIGIT && sign != '0';
                    next = more ? SECOND_DIGIT : SIGN;
                } else if (next != FIRST_DIGIT && isSignBehind(sign, behindArrow)) {
                    next = FIRST_DIGIT;
                    behindArrow = sign != ';';
                } else {
                    return i;
                }
            }
            return behindArrow && next != FIRST_DIGIT ? -1 : length;
        }

        /** Adds the arrows to a game, false if one has no such place; the text must have no fault. */
        boolean drawInto(Game game) {
            int from = 0;
            int place = 0;
            for (int i = 0; i <= length; i++) {
                char sign = i < length ? signs[i] : ';';
                if (isDigit(sign)) {
                    place = place * 10 + (sign - '0');
                } else if (!game.has(place)) {
                    return false;
                } else {
                    if (sign == '>') {
                        from = place;
                    } else {
                        game.arrows[from] |= bit(place);
                    }
                    place = 0;
                }
            }
            return true;
        }
    }

    /** The measures of a game's places, and what follows from them for the player 0. */
    private static final class Measures {
        private static final int ODD_COLOURS = 4;
        private static final int BITS = 4;
        private static final int HIGHEST = (1 << BITS) - 1;
        private static final int MOST_ROUNDS = 1000000;
        // The four numbers stand in one int, that for the colour 1 highest, so that comparing two
        // ints compares the measures, and this one is greater than all.
        private static final int LOST = 1 << ODD_COLOURS * BITS;

        private final int[] most = new int[ODD_COLOURS];
        private final int[] found = new int[MOST_PLACES];
        int lastRound;

        void find(Game game) {
            for (int i = 0; i < ODD_COLOURS; i++) {
                most[i] = 0;
            }
            for (int place = 0; place < game.size; place++) {
                found[place] = 0;
                if (game.colours[place] % 2 == 1) {
                    most[game.colours[place] / 2]++;
                }
            }
            lastRound = 1;
            while (lastRound < MOST_ROUNDS && raise(game)) {
                lastRound++;
            }
        }

        /** Goes through the places once and tells whether a measure became greater. */
        private boolean raise(Game game) {
            boolean raised = false;
            for (int place = 0; place < game.size; place++) {
                int asked = asked(game, place);
                if (found[place] < asked) {
                    found[place] = asked;
                    raised = true;
                }
            }
            return raised;
        }

        private int asked(Game game, int place) {
            boolean least = game.owners[place] == 0;
            int asked = least ? LOST : 0;
            for (int to = 0; to < game.size; to++) {
                if (contains(game.arrows[place], to)) {
                    int wanted = wanted(game, place, to);
                    asked = least ? Math.min(asked, wanted) : Math.max(asked, wanted);
                }
            }
            return asked;
        }

        // One method, not two: calls go at most eight deep, and this one stands at the end of many.
        private int wanted(Game game, int place, int to) {
            if (found[to] == LOST) {
                return LOST;
            }
            int colour = game.colours[place];
            int last = (colour + 1) / 2 - 1;
            int shift = BITS * (ODD_COLOURS - 1 - last);
            int measure = found[to] >> shift << shift;
            if (colour % 2 == 0) {
                return measure;
            }
            for (int i = last; i >= 0; i--) {
                int number = measure >> shift & HIGHEST;
                if (number < most[i]) {
                    return measure + (1 << shift);
                }
                measure -= number << shift;
                shift += BITS;
            }
            return LOST;
        }

        boolean isLost(int place) {
            return found[place] == LOST;
        }

        int winner(int place) {
            return isLost(place) ? 1 : 0;
        }

        int number(int place, int colour) {
            return found[place] >> BITS * (ODD_COLOURS - 1 - colour / 2) & HIGHEST;
        }

        /** The winning choice of a place, NOWHERE unless the player 0 owns and wins it. */
        int bestArrow(Game game, int place) {
            int best = NOWHERE;
            int least = LOST;
            for (int to = 0; to < game.size; to++) {
                int wanted = game.leads(place, to) ? wanted(game, place, to) : LOST;
                if (wanted < least) {
                    best = to;
                    least = wanted;
                }
            }
            return game.owners[place] == 0 ? best : NOWHERE;
        }
    }

    /** A play that goes on by fixed ways until it cannot, or comes to a place again. */
    private static final class Walk {
        final int[] ways = new int[MOST_PLACES];
        int steps;
        boolean endless;
        private int last;

        int wayFrom(int place) {
            return place >= 0 && place < MOST_PLACES ? ways[place] : NOWHERE;
        }

        void follow(int place) {
            int met = bit(place);
            steps = 0;
            endless = false;
            last = place;
            while (steps < MOST_PLACES && !endless && wayFrom(last) != NOWHERE) {
                last = wayFrom(last);
                steps++;
                endless = contains(met, last);
                met |= bit(last);
            }
        }

        /** The least colour on the ring on which the followed walk ends. */
        int leastColourAgain(Game game) {
            int least = game.colours[last];
            int at = wayFrom(last);
            for (int i = 0; i < MOST_PLACES && game.has(at) && at != last; i++) {
                least = Math.min(least, game.colours[at]);
                at = wayFrom(at);
            }
            return least;
        }

        int winner(Game game) {
            return endless ? leastColourAgain(game) % 2 : 1 - game.owners[last];
        }
    }
}
