import java.util.function.Supplier;
import java.util.function.ToIntFunction;

/** The sentences of the document's terms, with their edges. */
final class TermEdges {
    private static final int UNKNOWN = -1;
    private static final int BAD_VALUE = -2;
    private static final int FULL = -3;
    private static final int NOT_POSSIBLE = -4;
    private static final int NONE = -5;
    private static final int ALL = (1 << 14) - 1;

    private TermEdges() {
    }

    static void all() {
        placesAndArrows();
        plays();
        measures();
        wantedMeasures();
        carries();
        askedMeasures();
        roundsOfMeasures();
        winningChoices();
        forcing();
        choicesByHand();
        playThatIsStepped();
        texts();
        faults();
        history();
        acts();
        states();
        errors();
        orders();
        noneAfterErrors();
        refusedCalls();
        constants();
    }

    private static void placesAndArrows() {
        Doc.at("PLACES AND ARROWS");
        Doc.says("There are at most 14 places, numbered from 0");
        RingGames x = new RingGames();
        for (int p = 0; p < 14; p++) {
            Doc.due("place " + p + " before", x.place(p, 0), UNKNOWN);
            Doc.due("place " + p, x.addPlace(1, 7), p);
            Doc.due("place " + p + " then", x.place(p, 0), 1);
        }
        Doc.due("place 14", x.place(14, 0), UNKNOWN);
        Doc.leaves("a fifteenth", Made::fourteen, y -> y.addPlace(0, 0), FULL);

        Doc.says("A place has an owner (player 0 or 1), a colour (0 to 7), and arrows");
        for (int colour = 0; colour < 8; colour++) {
            x = Made.game("0" + colour + " 1" + colour);
            Doc.due("owner 0", x.place(0, 0), 0);
            Doc.due("owner 1", x.place(1, 0), 1);
            Doc.due("colour of 0", x.place(0, 1), colour);
            Doc.due("colour of 1", x.place(1, 1), colour);
        }
        Doc.beside(0, 1, Made::rich, (y, value) -> y.addPlace(value, 0), BAD_VALUE);
        Doc.beside(0, 7, Made::rich, (y, value) -> y.addPlace(0, value), BAD_VALUE);
        Doc.due("to itself", x.addArrow(1, 1), 1);
        Doc.due("to itself, told", x.place(1, 2), 2);
        Doc.leaves("twice", Made.of("00 00", "1>1"), y -> y.addArrow(1, 1), NONE);
        Doc.due("twice in a text", Made.read(x, "0>1,1;0>1"), 1);
        Doc.due("arrows", x.count(1), 2);

        Doc.says("There are at most 60 arrows");
        x = Made.arrows(59);
        Doc.due("the 60th", x.addArrow(13, 13), 1);
        Doc.due("arrows", x.count(1), 60);
        Doc.due("the 61st", x.addArrow(13, 12), FULL);
        Doc.due("the 60th by a text", Made.read(Made.arrows(59), "13>13"), 1);
        Doc.due("the 61st by a text", Made.read(Made.arrows(59), "13>13,12"), FULL);
        Doc.leaves("one too many", Made::sixty, y -> y.addArrow(13, 12), FULL);
    }

    private static void plays() {
        Doc.at("PLAYS");
        Doc.says("A play begins at a place");
        RingGames x = Made.game("00 00 01", "0>1,2;1>1;2>2");
        for (int p = 0; p < 3; p++) {
            Doc.due("who wins from " + p, x.place(p, 4), p / 2);
        }
        Doc.says("the owner of the place at which it is chooses one of its arrows");
        Doc.due("the owner 0 chooses", x.wins(0), 3);
        Doc.due("the owner 1 chooses", Made.game("10 00 01", "0>1,2;1>1;2>2").wins(0), 2);

        Doc.says("If there is none, the owner loses");
        for (int colour = 0; colour < 8; colour++) {
            Doc.due("owner 0", Made.game("0" + colour).wins(1), 1);
            Doc.due("owner 1", Made.game("1" + colour).wins(0), 1);
        }
        Doc.due("on the way there", Made.game("01 00 10", "0>1;1>2").wins(0), 7);

        Doc.says("If the play goes on without end, the player 0 wins if the least of the colours");
        for (int least = 0; least < 8; least++) {
            for (int other = least; other < 8; other++) {
                x = Made.game("0" + other + " 1" + least, "0>1;1>0");
                Doc.due("the ring of " + least + " and " + other, x.wins(least % 2), 3);
            }
        }
        Doc.due("a lesser one that does not come again", Made.game("01 02", "0>1;1>1").wins(0), 3);
        Doc.due("a lesser one that does not come again", Made.game("00 03", "0>1;1>1").wins(1), 3);

        Doc.says("Each place is won by just one of the players");
        Doc.due("none without places, 0", new RingGames().wins(0), 0);
        Doc.due("none without places, 1", new RingGames().wins(1), 0);
        for (int arrows = 0; arrows <= 60; arrows += 6) {
            x = Made.arrows(arrows);
            Doc.due("both together", x.wins(0) | x.wins(1), ALL);
            Doc.due("both at once", x.wins(0) & x.wins(1), 0);
            for (int player = 0; player < 2; player++) {
                x.chooseWell(player);
                for (int p = 0; p < 14; p++) {
                    Doc.due("by these choices", x.judged(player, p), x.wins(player) >> p & 1);
                }
            }
        }
    }

    /** The four numbers of a measure, without a number where it is LOST. */
    private static void measured(RingGames x, int player, int place, int... numbers) {
        for (int i = 0; i < 4; i++) {
            Doc.due("number " + i + " of the place " + place,
                    x.measure(player, place, 2 * i + 1), numbers.length == 0 ? NONE : numbers[i]);
        }
    }

    private static void measures() {
        Doc.at("MEASURES");
        Doc.says("A measure is four numbers, for the colours 1, 3, 5 and 7, or it is LOST");
        RingGames x = Made.game("01 03 05 07 10", "0>1;1>2;2>3;3>4");
        measured(x, 0, 0, 1, 0, 0, 0);
        measured(x, 0, 1, 0, 1, 0, 0);
        measured(x, 0, 2, 0, 0, 1, 0);
        measured(x, 0, 3, 0, 0, 0, 1);
        measured(Made.game("06 01 00 04", "0>1,3;1>2;2>2"), 0, 0, 1, 0, 0, 0);
        measured(Made.game("16 01 00 04", "0>1,3;1>2;2>2"), 0, 0);
        measured(Made.game("06 04 01 00", "0>1,2;2>3;3>3"), 0, 0, 1, 0, 0, 0);

        Doc.says("The number for a colour is at most the number of places with this colour");
        for (int colour = 1; colour < 8; colour += 2) {
            String c = "0" + colour;
            String way = String.join(" ", c, c, c, c, c, c, c, c, c, c, c, c, c, "10");
            x = Made.game(way, "0>1;1>2;2>3;3>4;4>5;5>6;6>7;7>8;8>9;9>10;10>11;11>12;12>13");
            for (int p = 0; p < 14; p++) {
                Doc.due("the number on a way", x.measure(0, p, colour), 13 - p);
            }
            // One round for each number that the colour can have, one to LOST, the last one.
            x = Made.game(c, "0>0");
            for (int number = 1; number < 14; number++) {
                Doc.due("rounds with " + number + " of it", x.rounds(0), number + 2);
                x.addPlace(1, colour);
                measured(x, 0, 0);
            }
        }

        Doc.says("Measures are compared by their numbers, that for the colour 1 first");
        lesserOfTwo("06 01 03 03 00", "0>1,2;1>4;2>3;3>4;4>4", new int[] {0, 2, 0, 0});
        lesserOfTwo("06 01 05 05 00", "0>1,2;1>4;2>3;3>4;4>4", new int[] {0, 0, 2, 0});
        lesserOfTwo("06 03 05 05 00", "0>1,2;1>4;2>3;3>4;4>4", new int[] {0, 0, 2, 0});
        lesserOfTwo("07 01 07 07 00", "0>1,2;1>4;2>3;3>4;4>4", new int[] {0, 0, 0, 3});
        lesserOfTwo("07 03 07 07 00", "0>1,2;1>4;2>3;3>4;4>4", new int[] {0, 0, 0, 3});
        lesserOfTwo("07 05 07 07 00", "0>1,2;1>4;2>3;3>4;4>4", new int[] {0, 0, 0, 3});
    }

    /** The place 0 must take the arrow to 2, which has more of a greater colour. */
    private static void lesserOfTwo(String places, String arrows, int[] numbers) {
        RingGames x = Made.game(places, arrows);
        measured(x, 0, 0, numbers);
        Doc.due("the winning choice", x.winningChoice(0), 2);
        x.setOwner(0, 1);
        int first = x.place(1, 1);
        Doc.due("the greater one for the player 1", x.measure(0, 0, first), 1);
    }

    private static void wantedMeasures() {
        Doc.says("For a place with the colour c and an arrow to a place with a measure m");
        for (int colour = 0; colour < 8; colour++) {
            measured(Made.game("0" + colour + " 00", "0>1"), 0, 0);
            measured(Made.game("1" + colour + " 00", "0>1"), 0, 0);
        }

        Doc.says("otherwise the numbers for colours up to c are those of m, and those for greater");
        String way = "0>0;1>0;2>1;3>2;4>3;5>4";
        int[][] due = {{0, 0, 0, 0}, {2, 0, 0, 0}, {1, 0, 0, 0}, {1, 2, 0, 0}, {1, 1, 0, 0},
            {1, 1, 2, 0}, {1, 1, 1, 0}, {1, 1, 1, 2}};
        for (int colour = 0; colour < 8; colour++) {
            RingGames x = Made.game("00 01 03 05 07 0" + colour, way);
            measured(x, 0, 4, 1, 1, 1, 1);
            measured(x, 0, 5, due[colour]);
        }

        Doc.says("if c is odd, it is then the least measure that is greater than that and has 0");
        for (int colour = 1; colour < 8; colour += 2) {
            int[] numbers = new int[4];
            numbers[colour / 2] = 1;
            measured(Made.game("0" + colour + " 00", "0>1;1>1"), 0, 0, numbers);
            numbers[colour / 2] = 2;
            String places = "0" + colour + " 0" + colour + " 00";
            measured(Made.game(places, "0>1;1>2;2>2"), 0, 0, numbers);
        }
    }

    private static void carries() {
        Doc.says("if this is more than it can be, it becomes 0, and that for the next lesser odd");
        measured(Made.game(Made.CARRY), 0, 0, 1, 1, 0, 0);
        Doc.due("3 to 1", Made.game(Made.CARRY).rounds(0), 4);
        Doc.due("7 to 1, none of 5 and 3", Made.game("07 01 00", "0>0,1;1>2;2>2").rounds(0), 4);
        Doc.due("7 to 3, none of 5", Made.game("07 03 00", "0>0,1;1>2;2>2").rounds(0), 4);
        Doc.due("5 to 1, none of 3", Made.game("05 01 00", "0>0,1;1>2;2>2").rounds(0), 4);
        // A ring of one place passes all measures that there are before it is LOST.
        Doc.due("7, 1", Made.game("07 11", "0>0").rounds(0), 5);
        Doc.due("7, 5, 1", Made.game("07 15 11", "0>0").rounds(0), 9);
        Doc.due("7, 5, 3, 1", Made.game("07 15 13 11", "0>0").rounds(0), 17);
        Doc.due("7, 5, 5, 1", Made.game("07 15 15 11", "0>0").rounds(0), 13);
        Doc.due("5, 3, 3, 1, 1", Made.game("05 13 13 11 11", "0>0").rounds(0), 19);
        Doc.due("3, 1, but 5 and 7 are greater", Made.game("03 15 17 11", "0>0").rounds(0), 5);
        Doc.due("14 places", Made.game("07 17 17 17 15 15 15 15 13 13 13 11 11 11", "0>0").rounds(0),
                5 * 5 * 4 * 4 + 1);

        Doc.says("if there is no lesser one, it is LOST");
        measured(Made.game("01", "0>0"), 0, 0);
        Doc.due("1, then LOST", Made.game("01", "0>0").rounds(0), 3);
        Doc.due("3, none of 1, then LOST", Made.game("03", "0>0").rounds(0), 3);
        measured(Made.game("07", "0>0"), 0, 0);
        measured(Made.game("01 11", "0>0"), 0, 0);
    }

    private static void askedMeasures() {
        Doc.says("What a place asks for is, if its owner is the player 0, the least of the wanted");
        measured(Made.game("06 01 03 05 00", "0>1,2,3;1>4;2>4;3>4;4>4"), 0, 0, 0, 0, 1, 0);
        measured(Made.game("06"), 0, 0);
        measured(Made.game("01"), 0, 0);

        Doc.says("if its owner is the player 1, the greatest of them, and all four numbers 0");
        measured(Made.game("16 03 01 05 00", "0>1,2,3;1>4;2>4;3>4;4>4"), 0, 0, 1, 0, 0, 0);
        measured(Made.game("16"), 0, 0, 0, 0, 0, 0);
        measured(Made.game("11"), 0, 0, 0, 0, 0, 0);

        Doc.says("The measures of all places are the least ones with which each place has at least");
        RingGames x = Made.game("00 02 12", "0>1;1>2;2>0");
        for (int p = 0; p < 3; p++) {
            measured(x, 0, p, 0, 0, 0, 0);
        }
        x = Made.game(Made.RING);
        measured(x, 1, 0, 0, 0, 0, 0);
        measured(x, 1, 1, 0, 1, 0, 0);
        measured(x, 1, 2, 1, 0, 0, 0);
    }

    private static void roundsOfMeasures() {
        Doc.says("They are found in rounds: at first all numbers of all places are 0");
        Doc.due("nothing to raise", Made.game("00 12 10", "0>1;1>0").rounds(0), 1);
        Doc.due("no places, 0", new RingGames().rounds(0), 1);
        Doc.due("no places, 1", new RingGames().rounds(1), 1);

        Doc.says("in each round, the places are gone through by their numbers");
        Doc.due("a higher place takes what a lower one got",
                Made.game("01 12 12 10", "0>3;1>0;2>1;3>3").rounds(0), 2);
        Doc.due("a lower place takes it a round later",
                Made.game("12 12 01 10", "0>1;1>2;2>3;3>3").rounds(0), 4);
        measured(Made.game("12 12 01 10", "0>1;1>2;2>3;3>3"), 0, 0, 1, 0, 0, 0);

        Doc.says("the first round in which none becomes greater is the last one");
        Doc.due("one that rises", Made.game("01 10", "0>1").rounds(0), 2);
        Doc.due("one that is LOST", Made.game("00").rounds(0), 2);
        Doc.due("the last place rises", Made.game("10 10 01", "2>0").rounds(0), 2);
        Doc.due("only the first place rises again", Made.game("03 01 10", "0>0,1;1>2").rounds(0), 4);
    }

    private static void winningChoices() {
        Doc.says("The player 0 wins the places whose measure is not LOST");
        RingGames x = Made.game("02 13 01 10 04 05", "0>1,3;1>1,2;2>2,3;3>4;4>3,2;5>3");
        for (int p = 0; p < 6; p++) {
            int won = x.measure(0, p, 1) == NONE ? 0 : 1;
            Doc.due("the place " + p, x.wins(0) >> p & 1, won);
        }
        Doc.due("all but 1", x.wins(0), 61);

        Doc.says("The winning choice of a place that the player 0 owns and wins is the arrow");
        Doc.due("the least", Made.game("06 01 03 05 00", "0>1,2,3;1>4;2>4;3>4;4>4")
                .winningChoice(0), 3);
        Doc.due("the lowest of three", Made.game("01 12 12 12", "0>1,2,3").winningChoice(0), 1);
        Doc.due("the lowest of two", Made.game("07 00 12 12", "0>1,3,2").winningChoice(0), 2);
        Doc.due("itself, as the lowest", Made.game("00 10", "0>1,0").winningChoice(0), 0);
        Doc.due("wanted are equal though had are not",
                Made.game("00 01 10", "0>2,1;1>2").winningChoice(0), 1);
        Doc.due("the place 13", Made.game("00 00 00 00 00 00 00 00 00 00 00 00 00 10", "0>13,12")
                .winningChoice(0), 13);

        Doc.says("For the player 1 all of that is done in the game that comes of this one");
        x = Made.game("17 10 12 14 16 17", "0>0;1>0;2>1;3>2;4>3;5>4");
        measured(x, 1, 0, 0, 0, 0, 0);
        measured(x, 1, 4, 1, 1, 1, 1);
        measured(x, 1, 5, 1, 1, 1, 1);
        Doc.due("wins", x.wins(1), 63);
        Doc.due("the least", Made.game("15 10 12 14 17", "0>1,2,3;1>4;2>4;3>4;4>4")
                .winningChoice(0), 3);
        Doc.due("the lowest", Made.game("15 07 07", "0>2,1;1>1;2>2").winningChoice(0), 1);
        Doc.due("without an arrow", Made.game("05").wins(1), 1);
        Doc.due("rounds of the other game", Made.game("16", "0>0").rounds(1), 3);
    }

    private static void forcing() {
        Doc.at("FORCING");
        Doc.says("The set that a player can force for some places are those places");
        RingGames x = Made.game("00 10 00 10 00 10", "0>1,4;1>2;2>3;3>3,2;5>5");
        Doc.due("nothing for nothing", x.forced(0, 0), 0);
        Doc.due("all for all", x.forced(1, 63), 63);
        Doc.due("one arrow of the own is enough", x.forced(0, 16), 17);
        Doc.due("one arrow of the other is not", x.forced(1, 16), 16);
        Doc.due("all of the other's, and on and on", x.forced(0, 8), 15);
        Doc.due("all of the other's but those of 0", x.forced(1, 8), 14);
        Doc.due("the other's without an arrow", x.forced(1, 32), 32);
        Doc.due("the own without an arrow", x.forced(0, 32), 32);

        Doc.says("The rank of a place of it is 0 for the places that it was made for");
        int[] ranks = {3, 2, 1, 0, NONE, NONE};
        for (int p = 0; p < 6; p++) {
            Doc.due("the rank of " + p, x.rank(0, 8, p), ranks[p]);
        }
        Doc.due("two at once", x.rank(0, 12, 1), 1);
        Doc.due("0 though it could come later", x.rank(0, 10, 1), 0);
        x = Made.game("00 10 10", "0>1;1>2;2>2");
        Doc.due("the round 1 is by the places themselves", x.rank(0, 4, 0), 2);
        x = Made.game("10 00 00", "0>1,2;1>2;2>2");
        Doc.due("when the last of its arrows leads there", x.rank(0, 4, 0), 2);

        Doc.says("A set of places is a trap for a player");
        x = Made.game("00 10 00 10", "0>1;1>0,2;2>0");
        Doc.due("none", x.trap(0, 0), 1);
        Doc.due("own stay, the other can", x.trap(0, 3), 1);
        Doc.due("an own one leaves", x.trap(1, 3), 0);
        Doc.due("the other cannot stay", x.trap(1, 1), 0);
        Doc.due("all but 3", x.trap(0, 7), 1);
        Doc.due("the own without an arrow", x.trap(1, 8), 1);
        Doc.due("the other's without an arrow", x.trap(0, 8), 0);
        Doc.due("all of them for 0", x.trap(0, 15), 0);
        Doc.due("all of them for 1", x.trap(1, 15), 1);
    }

    private static void choicesByHand() {
        Doc.at("CHOICES BY HAND");
        Doc.says("For each place a choice can be made by hand: one of its arrows");
        RingGames x = Made.places(14);
        for (int p = 0; p < 14; p++) {
            Doc.due("no arrow yet", x.choose(p, 13 - p), NOT_POSSIBLE);
            x.addArrow(p, 13 - p);
            Doc.due("made", x.choose(p, 13 - p), 14);
        }
        Doc.due("choices", x.count(5), 14);
        Doc.leaves("another's arrow", Made.of("00 00", "0>1"), y -> y.choose(1, 0), NOT_POSSIBLE);

        Doc.says("The judged game of a player is the one in which the places that this player owns");
        x = Made.game("01 11 02 12", "0>0,2;1>1,3;2>2;3>3");
        Doc.due("no choice, 0", x.badRings(0, 0), 3);
        x.choose(0, 2);
        Doc.due("the own choice alone", x.badRings(0, 0), 2);
        x.choose(1, 3);
        Doc.due("not the other's", x.badRings(0, 0), 2);
        Doc.due("the other's game", x.badRings(1, 0), 12);

        Doc.says("A ring is a way along arrows of it, of at least one arrow");
        Doc.due("no arrow, no ring", Made.game("01").badRings(0, 0), 0);
        Doc.due("one arrow", Made.game("01", "0>0").badRings(0, 2), 1);
        Doc.due("a way that does not come back", Made.game("01 01", "0>1").badRings(0, 0), 0);
        Doc.due("back, but not to where it began", Made.game("01 02", "0>1;1>1").badRings(0, 0), 0);
        // The ring of 0, 1, 2, 1 is the only one through 0 and 2: twice through 1.
        x = Made.game("05 04 03", "0>1;1>0,2;2>1");
        Doc.due("twice through a place", x.badRings(0, 0), 7);

        Doc.says("A ring is bad for the player 0 if its least colour is odd, for the player 1");
        for (int colour = 0; colour < 8; colour++) {
            x = Made.game("0" + colour + " 17", "0>1;1>0");
            Doc.due("for 0", x.badRings(0, 0), colour % 2 == 1 ? 3 : 0);
            Doc.due("for 1", x.badRings(1, 0), colour % 2 == 0 ? 3 : 0);
        }
    }

    private static void playThatIsStepped() {
        Doc.at("A PLAY THAT IS STEPPED");
        Doc.says("There can be a token at a place");
        RingGames x = Made.game("00 00");
        Doc.due("none at first", x.token(0), NOT_POSSIBLE);
        x.start(1);
        Doc.due("at 1", x.token(0), 1);
        x.start(0);
        Doc.due("at 0 alone", x.token(0), 0);

        Doc.says("In a step it goes along the choice that was made by hand for its place");
        x = Made.game("01 02 00", "0>0,1,2;1>1;2>2");
        x.start(0);
        x.choose(0, 2);
        Doc.due("by hand", x.step(1), 2);
        x.start(0);
        x.choose(0, 0);
        Doc.due("by hand, though it loses", x.step(1), 0);

        Doc.says("without one, along the winning choice, if there is one");
        x.choose(0, 14);
        Doc.due("the winning choice", x.step(1), 1);
        x = Made.game("17 02 03", "0>1,2;1>1;2>2");
        x.start(0);
        Doc.due("of the player 1", x.step(1), 2);

        Doc.says("otherwise along the arrow to the lowest place");
        x = Made.game("01 03 05", "0>2,1;1>1;2>2");
        x.start(0);
        Doc.due("lost for 0", x.step(1), 1);
        x = Made.game("10 02 04", "0>2,1;1>1;2>2");
        x.start(0);
        Doc.due("lost for 1", x.step(1), 1);

        Doc.says("Without an arrow it cannot");
        Doc.leaves("a token that cannot", Made::stuck, y -> y.step(1), NOT_POSSIBLE);
        x = Made.game("00 00", "0>1");
        x.start(0);
        Doc.due("as far as it can", x.step(50), 1);
        Doc.due("in one step", x.count(6), 1);

        Doc.says("(A choice by hand stays when owners and colours become others.)");
        x = Made.game("00 00", "0>0,1");
        x.choose(0, 1);
        x.setOwner(0, 1);
        Doc.due("another owner", x.place(0, 5), 1);
        x.setColour(0, 3);
        Doc.due("another colour", x.place(0, 5), 1);
        x.turnOver();
        Doc.due("both", x.place(0, 5), 1);
        x.start(0);
        Doc.due("and it is gone along", x.step(1), 1);
    }

    private static void texts() {
        Doc.at("TEXTS");
        Doc.says("There is a text of at most 60 characters, empty at first");
        RingGames x = new RingGames();
        Doc.due("at first", x.count(8), 0);
        for (int time = 0; time < 2; time++) {
            for (int i = 1; i <= 60; i++) {
                Doc.due("the character " + i, x.type('7'), i);
            }
            Doc.due("one more", x.type('7'), FULL);
            Doc.due("length", x.clearText(), 60);
        }
        Doc.leaves("one more", () -> Made.typed(Made.places(11), Made.LONGEST),
                y -> y.type(','), FULL);

        Doc.says("A row of arrows is one or more groups with \";\" between two");
        fault("", 0);
        fault(";", 0);
        fault(";0>1", 0);
        fault("0>1;", 4);
        fault("0>1;;0>1", 4);
        fault("0>1,0>1", 5);
        fault("0>1 0>1", 3);
        good("0>1", 1);
        good("0>1;1>0", 2);
        good("0>1;1>0;1>1", 3);

        Doc.says("A group is a place, \">\", and one or more places with \",\" between two");
        fault(">1", 0);
        fault("0", 1);
        fault("01", 1);
        fault("0,1", 1);
        fault("0;1>0", 1);
        fault("0>", 2);
        fault("0>;1>0", 2);
        fault("0>>1", 2);
        fault("0>,1", 2);
        fault("0>1,", 4);
        fault("0>1,,0", 4);
        fault("0>1,;1>0", 4);
        fault("0>1>0", 3);
        good("0>0", 1);
        good("0>1,0", 2);
        good("1>1,0,1", 2);

        Doc.says("A place has one or two digits, without a zero in front unless it is the single");
        RingGames all = Made.fourteen();
        for (int p = 0; p < 14; p++) {
            Doc.due("from " + p, Made.read(all, p + ">0"), 1);
            Doc.due("to " + p, Made.read(all, "0>" + p), p == 0 ? 0 : 1);
        }
        fault("00>0", 1);
        fault("01>0", 1);
        fault("0>00", 3);
        fault("0>09", 3);
        fault("0>1,02", 5);
        fault("100>0", 2);
        fault("0>100", 4);
        fault("0>1,100", 6);
        fault("-1>0", 0);
        for (String place : new String[] {"2", "9", "10", "14", "15", "32", "64", "99"}) {
            Doc.due("no fault", Made.read(Made.game("00 00"), place + ">0"), UNKNOWN);
            Doc.due("no fault", Made.read(Made.game("00 00"), "0>" + place), UNKNOWN);
        }
    }

    private static void fault(String text, int index) {
        Doc.refused(text, Made.of("00 00"), -100 - index);
    }

    private static void good(String text, int arrows) {
        Doc.act("'" + text + "'", () -> Made.typed(Made.game("00 00"), text),
                RingGames::readArrows, arrows);
    }

    private static void faults() {
        Doc.says("The fault of the text is the index, from 0, of the first character");
        String text = "0>1,10;12>9";
        // What may stand at each place instead, so that there is no fault yet.
        String[] allowed = {
            "0123456789", ">", "0123456789", "0123456789,;", "0123456789", "0123456789,;", ",;",
            "0123456789", "0123456789>", ">", "0123456789", "0123456789,;",
        };
        for (int i = 0; i <= text.length(); i++) {
            for (char sign = 0; sign < 300; sign++) {
                if (i == 1 && sign >= '0' && sign <= '9' || allowed[i].indexOf(sign) < 0) {
                    fault(Made.game("00"), text.substring(0, i) + sign + "x", i);
                }
            }
        }
        fault(Made.game("00"), text.substring(0, 3) + "\u0661", 3);
        fault(Made.game("00"), "\uff10>1", 0);
        fault(Made.game("00"), "\uffff", 0);
        fault(Made.game("00"), "x;;", 0);
        for (int length : new int[] {0, 1, 2, 4, 7, 8, 9, 10}) {
            fault(Made.game("00"), text.substring(0, length), length);
        }
        for (int length : new int[] {3, 5, 6, 11}) {
            Doc.due("long enough", Made.read(Made.game("00"), text.substring(0, length)), UNKNOWN);
        }
        Doc.due("the last of 60", Made.read(Made.places(11), Made.LONGEST.substring(0, 59) + ";"),
                -159);
        Doc.due("60 that end too early", Made.read(Made.places(11), "0>1;".repeat(15)), -160);
        Doc.due("60 without a fault", Made.read(Made.places(11), Made.LONGEST), 3);
    }

    private static void fault(RingGames x, String text, int index) {
        Doc.due("the fault of '" + text + "'", Made.read(x, text), -100 - index);
    }

    private static void history() {
        Doc.at("HISTORY");
        Doc.says("A history of at most 4 states is kept");
        RingGames x = new RingGames();
        for (int i = 0; i < 12; i++) {
            Doc.due("states", x.count(7), Math.min(i, 4));
            x.addPlace(0, i % 8);
        }

        Doc.says("when one more is recorded, the oldest one is dropped");
        for (int acts = 1; acts <= 14; acts++) {
            x = Made.places(acts);
            for (int left = Math.min(acts, 4); left > 0; left--) {
                Doc.due("undo", x.undo(), left - 1);
            }
            Doc.due("no more", x.undo(), NONE);
            Doc.due("the oldest state that is kept", x.count(0), Math.max(acts - 4, 0));
        }

        Doc.says("undo() removes and restores the latest one");
        x = Made.places(6);
        Doc.due("undo", x.undo(), 3);
        Doc.due("places", x.count(0), 5);
        Doc.due("undo", x.undo(), 2);
        Doc.due("places", x.count(0), 4);
        x.setColour(0, 7);
        x.setColour(0, 6);
        x.setColour(0, 5);
        Doc.due("full again", x.count(7), 4);
        for (int colour : new int[] {6, 7, 0}) {
            x.undo();
            Doc.due("colour", x.place(0, 1), colour);
        }
        Doc.due("the last one", x.undo(), 0);
        Doc.due("places", x.count(0), 3);
        Doc.due("none", x.undo(), NONE);
        Doc.due("an act after that", x.addPlace(1, 1), 3);
        Doc.due("states", x.count(7), 1);
    }

    private static void acts() {
        Doc.says("Each call of a method that is described as an act, and returns no error");
        act("addPlace", x -> x.addPlace(0, 0), 4);
        act("setOwner", x -> x.setOwner(0, 1), 8);
        act("setColour", x -> x.setColour(0, 0), 1);
        act("addArrow", x -> x.addArrow(3, 3), 1);
        act("removeArrow", x -> x.removeArrow(1, 2), 1);
        act("readArrows", RingGames::readArrows, 2);
        act("turnOver", RingGames::turnOver, 8);
        act("choose", x -> x.choose(1, 0), 2);
        act("choose, taken back", x -> x.choose(1, 14), 2);
        act("chooseWell", x -> x.chooseWell(1), 1);
        act("chooseWell, all is so", x -> x.chooseWell(0), 0);
        act("start", x -> x.start(3), 0);
        act("step", x -> x.step(1), 2);
        act("restore", RingGames::restore, 4);
        Doc.act("readArrows, none comes", () -> Made.typed(Made.roomy(), "0>1"),
                RingGames::readArrows, 0);
        Doc.act("turnOver, no places", Made::bare, RingGames::turnOver, 0);
        Doc.act("chooseWell, no places", Made::bare, x -> x.chooseWell(1), 0);
        Doc.act("start where it is", TermEdges::started, x -> x.start(0), 0);
        Doc.act("step that comes back", TermEdges::started, x -> x.step(50), 0);
        Doc.act("restore, all is so", () -> kept(Made.game(Made.RING[0])), RingGames::restore, 3);
        Doc.act("restore, no places", () -> kept(new RingGames()), RingGames::restore, 0);
        Doc.noAct("type", Made::rich, x -> x.type('0'), 8);
        Doc.noAct("clearText", Made::rich, RingGames::clearText, 7);
        Doc.noAct("keep", Made::rich, RingGames::keep, 4);
        Doc.leaves("a refused act", Made::rich, x -> x.addPlace(2, 0), BAD_VALUE);
        Doc.leaves("an act with NONE", Made::rich, x -> x.addArrow(0, 1), NONE);
        RingGames x = Made.rich();
        Doc.due("undo", x.undo(), 3);
        Doc.due("undo records nothing", x.count(7), 3);
    }

    /** An act with room in the history, and when it is full. */
    private static void act(String call, ToIntFunction<RingGames> asked, int want) {
        Doc.act(call, Made::roomy, asked, want);
        Doc.actWhenFull(call, Made::rich, asked);
    }

    /** A token at the only place, and room in the history. */
    private static RingGames started() {
        RingGames x = Made.game("02", "0>0");
        x.start(0);
        return x;
    }

    private static RingGames kept(RingGames x) {
        x.keep();
        return x;
    }

    private static void states() {
        Doc.says("There is one snapshot, empty at first");
        Doc.leaves("at first", () -> Made.game(Made.RING), RingGames::restore, NONE);
        RingGames x = new RingGames();
        Doc.due("of no places", x.keep(), 0);
        x.addPlace(0, 0);
        Doc.due("another", x.keep(), 1);
        x.addPlace(0, 0);
        Doc.due("the other one is gone", x.restore(), 1);
        Doc.due("and again", x.restore(), 1);

        Doc.says("A state is everything but the text, the history and the snapshot");
        x = Made.rich();
        String rich = Told.state(x);
        x.keep();
        x.addPlace(0, 7);
        x.setOwner(0, 1);
        x.addArrow(2, 2);
        x.choose(0, 1);
        x.start(2);
        x.step(7);
        x.restore();
        Doc.due("all of the state comes back", Told.state(x).equals(rich) ? 1 : 0, 1);
        Made.typed(x, "0>3;1>3;2>3");
        x.undo();
        Doc.due("the text stays with undo", x.count(8), 11);
        x.restore();
        Doc.due("the text stays with restore", x.readArrows(), 3);
        Doc.due("the history grows with restore", x.count(7), 4);
        x.undo();
        x.undo();
        x.undo();
        x.undo();
        Doc.due("the snapshot stays with undo", x.restore(), 4);
        Doc.due("the history is not in it", x.count(7), 1);
    }

    private static void errors() {
        Doc.at("ERRORS");
        Doc.says("Errors are reported by the constants below");
        Doc.leaves("UNKNOWN", Made::rich, x -> x.setOwner(4, 0), RingGames.UNKNOWN);
        Doc.leaves("BAD_VALUE", Made::rich, x -> x.setOwner(0, 2), RingGames.BAD_VALUE);
        Doc.leaves("FULL", Made::sixty, x -> x.addArrow(13, 0), RingGames.FULL);
        Doc.leaves("NOT_POSSIBLE", Made::bare, x -> x.step(1), RingGames.NOT_POSSIBLE);

        Doc.says("Sets of places are told as bits: 1 for the place 0, 2 for 1, 4 for 2, and so on");
        RingGames x = Made.fourteen();
        for (int p = 0; p < 14; p++) {
            x.addArrow(13, p);
            Doc.due("to the places 0 to " + p, x.place(13, 2), (2 << p) - 1);
            Doc.due("from the place 13", x.place(p, 3), 1 << 13);
            Doc.due("a set of one", x.rank(0, 1 << p, p), 0);
        }
        Doc.beside(0, 15, Made::rich, (y, set) -> y.forced(0, set), BAD_VALUE);
        Doc.beside(0, ALL, Made::fourteen, (y, set) -> y.trap(1, set), BAD_VALUE);
    }

    private static void orders() {
        Doc.says("Where several errors can apply, the order of the @return line is the order");
        Supplier<RingGames> rich = Made::rich;
        Supplier<RingGames> sixty = Made::sixty;
        Doc.leaves("owner, FULL", Made::fourteen, x -> x.addPlace(2, 0), BAD_VALUE);
        Doc.leaves("colour, FULL", Made::fourteen, x -> x.addPlace(0, 8), BAD_VALUE);
        Doc.leaves("place, owner", rich, x -> x.setOwner(4, 2), UNKNOWN);
        Doc.leaves("place, colour", rich, x -> x.setColour(4, 8), UNKNOWN);
        Doc.leaves("from, FULL", sixty, x -> x.addArrow(14, 0), UNKNOWN);
        Doc.leaves("to, FULL", sixty, x -> x.addArrow(0, 14), UNKNOWN);
        Doc.leaves("FULL, there already", sixty, x -> x.addArrow(0, 0), FULL);
        Doc.leaves("place, to", rich, x -> x.choose(4, 15), UNKNOWN);
        Doc.leaves("place, no arrow", rich, x -> x.choose(4, 0), UNKNOWN);
        Doc.leaves("place, taken back already", rich, x -> x.choose(4, 14), UNKNOWN);
        Doc.leaves("to, no arrow", rich, x -> x.choose(3, 15), BAD_VALUE);
        Doc.leaves("steps, no token", Made::bare, x -> x.step(0), BAD_VALUE);
        Doc.leaves("steps, no token", Made::bare, x -> x.step(51), BAD_VALUE);
        Doc.leaves("steps, cannot go", Made::stuck, x -> x.step(51), BAD_VALUE);
        Doc.leaves("place, what", rich, x -> x.place(4, 6), UNKNOWN);
        Doc.leaves("player, colour", rich, x -> x.measure(2, 0, 2), UNKNOWN);
        Doc.leaves("place, colour", rich, x -> x.measure(0, 4, 2), UNKNOWN);
        Doc.leaves("player, set", rich, x -> x.forced(2, 16), UNKNOWN);
        Doc.leaves("player, set", rich, x -> x.rank(2, 16, 0), UNKNOWN);
        Doc.leaves("place, set", rich, x -> x.rank(0, 16, 4), UNKNOWN);
        Doc.leaves("player, set", rich, x -> x.trap(2, 16), UNKNOWN);
        Doc.leaves("player, what", rich, x -> x.badRings(2, 3), UNKNOWN);
        Doc.leaves("what, no token", Made::bare, x -> x.token(5), BAD_VALUE);
        Doc.leaves("what, no token", Made::bare, x -> x.token(-1), BAD_VALUE);
        ordersOfTexts();
    }

    private static void ordersOfTexts() {
        // A fault and no such place; a fault and too many; no such place and too many; all three.
        Doc.refused("9>0;", Made::rich, -104);
        Doc.refused("9>0;", Made::sixty, -104);
        Doc.refused("9>0;14>0", Made::sixty, UNKNOWN);
        Doc.refused("14>0;9>0", Made::sixty, UNKNOWN);
        Doc.refused("9>0;14>0;", Made::sixty, -109);
    }

    private static void noneAfterErrors() {
        Doc.says("NONE is no error");
        RingGames x = Made.rich();
        Doc.due("it stands for nothing to tell", x.place(0, 5), NONE);
        Doc.due("of the things that there are", x.winningChoice(0), NONE);
        Doc.due("and the calls go on", x.place(1, 5), 2);

        Doc.says("it is returned only if no error applies");
        Supplier<RingGames> rich = Made::rich;
        Doc.leaves("owner", rich, y -> y.setOwner(0, 0), NONE);
        Doc.leaves("owner of no place", rich, y -> y.setOwner(4, 0), UNKNOWN);
        Doc.leaves("no arrow", rich, y -> y.removeArrow(0, 3), NONE);
        Doc.leaves("no arrow from no place", rich, y -> y.removeArrow(4, 0), UNKNOWN);
        Doc.leaves("no arrow to no place", rich, y -> y.removeArrow(0, 4), UNKNOWN);
        Doc.leaves("no choice of no place", rich, y -> y.place(4, 5), UNKNOWN);
        Doc.leaves("LOST", rich, y -> y.measure(0, 0, 1), NONE);
        Doc.leaves("LOST, of no colour", rich, y -> y.measure(0, 0, 2), BAD_VALUE);
        Doc.leaves("not in the set", rich, y -> y.rank(0, 0, 0), NONE);
        Doc.leaves("not in the set of no place", rich, y -> y.rank(0, 16, 0), BAD_VALUE);
        Doc.leaves("no ring", Made::fourteen, y -> y.badRings(0, 1), NONE);
        Doc.leaves("no ring of no player", Made::fourteen, y -> y.badRings(2, 1), UNKNOWN);
        Doc.leaves("no ring, what 3", Made::fourteen, y -> y.badRings(0, 3), BAD_VALUE);
        for (int what = 1; what < 4; what++) {
            int asked = what;
            Doc.leaves("no token", Made::bare, y -> y.token(asked), NOT_POSSIBLE);
        }
        Doc.leaves("no places", Made::bare, y -> y.count(4), NONE);
        Doc.leaves("no places, what 9", Made::bare, y -> y.count(9), BAD_VALUE);
    }

    private static void refusedCalls() {
        Doc.says("A call that returns an error or NONE changes nothing");
        Refusals.all(Made::bare);
        Refusals.all(Made::rich);
        Refusals.all(Made::stuck);
        Refusals.all(Made::fourteen);
        Refusals.all(() -> Made.typed(Made.sixty(), "9>0;8>0"));
        Refusals.all(() -> Made.typed(Made.places(11), Made.LONGEST + "0"));
        Refusals.all(() -> Made.typed(Made.rich(), "1>1;2>4"));
        Refusals.all(() -> Made.typed(Made.rich(), "1>1;2>2;"));
    }

    private static void constants() {
        Doc.says("The constants: `UNKNOWN = -1`: There is no such place, player or arrow");
        Doc.due("UNKNOWN", RingGames.UNKNOWN, -1);
        Doc.leaves("no such place", Made::rich, x -> x.place(4, 0), -1);
        Doc.leaves("no such player", Made::rich, x -> x.wins(2), -1);
        Doc.says("`BAD_VALUE = -2`: Another argument is out of range");
        Doc.due("BAD_VALUE", RingGames.BAD_VALUE, -2);
        Doc.leaves("colour 8", Made::rich, x -> x.setColour(0, 8), -2);
        Doc.says("`FULL = -3`: There is no more room");
        Doc.due("FULL", RingGames.FULL, -3);
        Doc.leaves("no room", Made::fourteen, x -> x.addPlace(0, 0), -3);
        Doc.says("`NOT_POSSIBLE = -4`: This is not possible");
        Doc.due("NOT_POSSIBLE", RingGames.NOT_POSSIBLE, -4);
        Doc.leaves("no such arrow", Made::rich, x -> x.choose(0, 0), -4);
        Doc.says("`NONE = -5`: There is no such thing");
        Doc.due("NONE", RingGames.NONE, -5);
        Doc.leaves("no such thing", Made::bare, RingGames::undo, -5);
        Doc.says("not an error");
        RingGames x = Made.bare();
        x.undo();
        Doc.due("an act after NONE", x.addPlace(0, 0), 0);
    }
}
