import java.util.function.Supplier;

/** Games that tests begin with; each makes a new object and uses less than 200 of its calls. */
final class Made {
    // The player 1 wins all of it, by the ring of the places 0 and 1.
    static final String[] RING = {"01 12 00", "0>1;1>0,2;2>0"};
    // The number for the colour 3 of the place 0 becomes too great once, which raises that for 1.
    static final String[] CARRY = {"03 01 00", "0>0,1;1>2;2>2"};
    // A valid text of 60 characters, for a game with at least 11 places.
    static final String LONGEST = "10>0;" + "0>1;".repeat(13) + "0>2";

    private Made() {
    }

    /** A game of places, each with its owner and its colour, and of arrows as in a text. */
    static RingGames game(String... parts) {
        RingGames x = new RingGames();
        for (String place : parts[0].split(" ")) {
            x.addPlace(place.charAt(0) - '0', place.charAt(1) - '0');
        }
        if (parts.length > 1) {
            for (String group : parts[1].split(";")) {
                String[] sides = group.split(">");
                for (String to : sides[1].split(",")) {
                    x.addArrow(Integer.parseInt(sides[0]), Integer.parseInt(to));
                }
            }
        }
        return x;
    }

    static Supplier<RingGames> of(String... parts) {
        return () -> game(parts);
    }

    /** The same object with this text alone. */
    static RingGames typed(RingGames x, String text) {
        x.clearText();
        for (char sign : text.toCharArray()) {
            x.type(sign);
        }
        return x;
    }

    static int read(RingGames x, String text) {
        return typed(x, text).readArrows();
    }

    /**
     * Four places, of which 3 has no arrow; a choice, a token that has gone, a text, a snapshot and
     * a full history, all states of which differ from one another and from the present one.
     */
    static RingGames rich() {
        RingGames x = game("01 12 00 13", "0>1;1>0,2;2>0");
        x.keep();
        x.choose(1, 2);
        x.start(1);
        x.step(2);
        x.setColour(3, 5);
        return typed(x, "2>2;0>3");
    }

    /** The same with room for two more states in the history. */
    static RingGames roomy() {
        RingGames x = rich();
        x.undo();
        x.undo();
        return x;
    }

    static RingGames bare() {
        return new RingGames();
    }

    /** Places without arrows, as many as asked for. */
    static RingGames places(int number) {
        RingGames x = new RingGames();
        for (int p = 0; p < number; p++) {
            x.addPlace(p % 2, p % 7);
        }
        return x;
    }

    static RingGames fourteen() {
        return places(14);
    }

    /** 14 places and the first arrows of the places 0 to 4, as many as asked for. */
    static RingGames arrows(int number) {
        RingGames x = places(14);
        for (int i = 0; i < number; i++) {
            x.addArrow(i / 14, i % 14);
        }
        return x;
    }

    static RingGames sixty() {
        return arrows(60);
    }

    /** A token that cannot go on. */
    static RingGames stuck() {
        RingGames x = rich();
        x.start(3);
        return x;
    }
}
