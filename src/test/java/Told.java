import java.util.function.Supplier;

/** What an object tells and what it keeps, written down, so that two objects can be compared. */
final class Told {
    private Told() {
    }

    /** What the questions tell of the state and of the text's length; uses at most 130 calls. */
    static String state(RingGames x) {
        StringBuilder told = new StringBuilder("counts");
        for (int what : new int[] {0, 1, 2, 3, 4, 5, 6, 8}) {
            told.append(' ').append(x.count(what));
        }
        for (int p = 0; p < x.count(0); p++) {
            told.append("; place ").append(p).append(':');
            for (int what = 0; what < 6; what++) {
                told.append(' ').append(x.place(p, what));
            }
            told.append(' ').append(x.winningChoice(p));
        }
        for (int player = 0; player < 2; player++) {
            told.append("; player ").append(player).append(": ").append(x.wins(player));
            for (int what = 0; what < 3; what++) {
                told.append(' ').append(x.badRings(player, what));
            }
        }
        told.append("; token");
        for (int what = 0; what < 5; what++) {
            told.append(' ').append(x.token(what));
        }
        return told.toString();
    }

    /** The state, the text, the snapshot and the history; each on an object of its own. */
    static String whole(Supplier<RingGames> made) {
        StringBuilder told = new StringBuilder("states " + made.get().count(7));
        told.append("\nnow ").append(state(made.get()));
        RingGames x = made.get();
        told.append("\ntext ").append(x.readArrows()).append(' ').append(state(x));
        x = made.get();
        told.append("\nsnapshot ").append(x.restore()).append(' ').append(state(x));
        for (int depth = 1; depth <= 5; depth++) {
            x = made.get();
            told.append("\nundo");
            for (int i = 0; i < depth; i++) {
                told.append(' ').append(x.undo());
            }
            told.append(' ').append(state(x));
        }
        return told.toString();
    }
}
