import java.util.function.Supplier;

/** The promises 18 to 31, sentence by sentence, with their edges. */
final class QuestionEdges {
    private static final int UNKNOWN = -1;
    private static final int BAD_VALUE = -2;
    private static final int NOT_POSSIBLE = -4;
    private static final int NONE = -5;
    private static final int ALL = (1 << 14) - 1;
    private static final Supplier<RingGames> RICH = Made::rich;
    // 14 places in a row, in which each place has an arrow to the one before it.
    private static final String ROW = "1>0;2>1;3>2;4>3;5>4;6>5;7>6;8>7;9>8;10>9;11>10;12>11;13>12";
    private static final String ROUND = "0>13;" + ROW;

    private QuestionEdges() {
    }

    static void all() {
        placeOwnerAndColour();
        placeArrowsAndChoice();
        wins();
        winningChoice();
        measure();
        measureRefused();
        rounds();
        forced();
        forcedRefused();
        rank();
        rankRefused();
        trap();
        judged();
        judgedOfAWay();
        badRings();
        badRingsRefused();
        pivots();
        weakArrows();
        tokenThatStops();
        tokenThatGoesOn();
        tokenRefused();
        countPlaces();
        countTheRest();
    }

    private static String repeated(String place) {
        return first(place, place);
    }

    /** One place and 13 others. */
    private static String first(String place, String others) {
        return place + (" " + others).repeat(13);
    }

    private static void placeOwnerAndColour() {
        Doc.at("Promise 18");
        Doc.says("`place`: a place");
        Doc.due("the first", Made.rich().place(0, 1), 1);
        Doc.due("the last", Made.rich().place(3, 1), 5);
        for (int what = 0; what < 6; what++) {
            int asked = what;
            Doc.beside(0, 3, RICH, (x, place) -> x.place(place, asked), UNKNOWN);
        }
        Doc.beside(0, 13, Made::fourteen, (x, place) -> x.place(place, 0), UNKNOWN);

        RingGames x = Made.game("00 17 10 03");
        Doc.says("`what`: 0 for its owner");
        Doc.due("0", x.place(0, 0), 0);
        Doc.due("1", x.place(1, 0), 1);
        Doc.beside(0, 5, RICH, (y, what) -> y.place(0, what), BAD_VALUE);
        Doc.says("1 for its colour");
        Doc.due("0", x.place(0, 1), 0);
        Doc.due("7", x.place(1, 1), 7);
        Doc.due("3", x.place(3, 1), 3);

        Doc.says("4 for the player who wins it");
        x = Made.game("02 13 00 10", "0>0;1>1");
        int[] winners = {0, 1, 1, 0};
        for (int p = 0; p < 4; p++) {
            Doc.due("the winner of " + p, x.place(p, 4), winners[p]);
        }
        x = Made.game("00 01", "0>0,1;1>1");
        x.choose(0, 1);
        Doc.due("though the choice by hand loses", x.place(0, 4), 0);
    }

    private static void placeArrowsAndChoice() {
        Doc.says("2 for the places to which it has arrows (as bits)");
        RingGames x = Made.sixty();
        Doc.due("all", x.place(0, 2), ALL);
        Doc.due("four", x.place(4, 2), 15);
        Doc.due("none", x.place(5, 2), 0);
        Doc.due("itself", Made.game("00", "0>0").place(0, 2), 1);
        Doc.due("not those of the judged game", Made.rich().place(1, 2), 5);

        Doc.says("3 for the places that have arrows to it (as bits)");
        Doc.due("five", x.place(3, 3), 31);
        Doc.due("four", x.place(13, 3), 15);
        Doc.due("none", Made.fourteen().place(13, 3), 0);
        Doc.due("itself", Made.game("00", "0>0").place(0, 3), 1);
        Doc.due("the last", Made.game(repeated("00"), ROUND).place(12, 3), 1 << 13);

        Doc.says("5 for the place of its choice by hand (NONE without one)");
        x.choose(0, 13);
        Doc.due("13", x.place(0, 5), 13);
        x.choose(0, 0);
        Doc.due("0", x.place(0, 5), 0);
        x.choose(0, 14);
        Doc.due("taken back", x.place(0, 5), NONE);
        Doc.due("never made", x.place(13, 5), NONE);

        Doc.says("the number");
        int[][] rows = {{0, 1, 2, 6, 1, NONE}, {1, 2, 5, 1, 1, 2}, {0, 0, 1, 2, 1, NONE},
            {1, 5, 0, 0, 0, NONE}};
        for (int p = 0; p < 4; p++) {
            for (int what = 0; what < 6; what++) {
                Doc.due("place(" + p + ", " + what + ")", Made.rich().place(p, what), rows[p][what]);
            }
        }
        Doc.says("UNKNOWN");
        Doc.leaves("no places", Made::bare, y -> y.place(0, 0), UNKNOWN);
        Doc.leaves("what is bad too", RICH, y -> y.place(4, 6), UNKNOWN);
        Doc.says("BAD_VALUE");
        Doc.leaves("6", RICH, y -> y.place(0, 6), BAD_VALUE);
        Doc.leaves("-1", RICH, y -> y.place(0, -1), BAD_VALUE);
    }

    private static void wins() {
        Doc.at("Promise 19");
        Doc.says("`player`: 0 or 1");
        Doc.due("0", Made.rich().wins(0), 8);
        Doc.due("1", Made.rich().wins(1), 7);
        Doc.beside(0, 1, RICH, (x, player) -> x.wins(player), UNKNOWN);

        Doc.says("the places that the player wins (as bits)");
        Doc.due("no places, 0", Made.bare().wins(0), 0);
        Doc.due("no places, 1", Made.bare().wins(1), 0);
        Doc.due("all 14, 0", Made.game(repeated("00"), ROUND).wins(0), ALL);
        Doc.due("none of 14, 1", Made.game(repeated("00"), ROUND).wins(1), 0);
        Doc.due("all 14, 1", Made.game(repeated("07"), ROUND).wins(1), ALL);
        Doc.due("none of 14, 0", Made.game(repeated("07"), ROUND).wins(0), 0);
        Doc.due("those without arrows, 0", Made.fourteen().wins(0), 0x2aaa);
        Doc.due("those without arrows, 1", Made.fourteen().wins(1), 0x1555);

        Doc.says("UNKNOWN");
        Doc.leaves("2", RICH, x -> x.wins(2), UNKNOWN);
        Doc.leaves("no places", Made::bare, x -> x.wins(-1), UNKNOWN);
    }

    private static void winningChoice() {
        Doc.at("Promise 20");
        Doc.says("`place`: a place");
        RingGames x = Made.game(repeated("00"), ROUND);
        for (int p = 0; p < 14; p++) {
            Doc.due("of " + p, x.winningChoice(p), (p + 13) % 14);
        }
        Doc.beside(0, 3, RICH, (y, place) -> y.winningChoice(place), UNKNOWN);
        Doc.beside(0, 13, Made::fourteen, (y, place) -> y.winningChoice(place), UNKNOWN);

        Doc.says("the place to which the winning choice of its owner leads");
        Doc.due("of the player 0", Made.game(Made.CARRY).winningChoice(0), 1);
        Doc.due("of the player 1", Made.game(Made.RING).winningChoice(1), 0);
        Doc.due("the lowest", Made.game("00 10 10", "0>2,1").winningChoice(0), 1);
        Doc.due("the lowest of the player 1", Made.game("10 00 00", "0>2,1").winningChoice(0), 1);
        Doc.due("itself", Made.game("17", "0>0").winningChoice(0), 0);
        x = Made.game(Made.CARRY);
        x.choose(0, 0);
        Doc.due("not the choice by hand", x.winningChoice(0), 1);

        Doc.says("UNKNOWN");
        Doc.leaves("no places", Made::bare, y -> y.winningChoice(0), UNKNOWN);
        Doc.says("NONE if its owner does not win it, or it has no arrow");
        Doc.leaves("lost for 0", RICH, y -> y.winningChoice(0), NONE);
        Doc.leaves("lost for 1", Made.of("10", "0>0"), y -> y.winningChoice(0), NONE);
        Doc.leaves("no arrow, lost for 0", Made.of("00"), y -> y.winningChoice(0), NONE);
        Doc.leaves("no arrow, lost for 1", RICH, y -> y.winningChoice(3), NONE);
    }

    private static void measure() {
        Doc.at("Promise 21");
        RingGames x = Made.game("00 01 03 05 07 07", "0>0;1>0;2>1;3>2;4>3;5>4");
        int[][] numbers = {{0, 0, 0, 0}, {1, 0, 0, 0}, {1, 1, 0, 0}, {1, 1, 1, 0}, {1, 1, 1, 1},
            {1, 1, 1, 2}};
        Doc.says("Tells a number of the measure of a place");
        for (int p = 0; p < 6; p++) {
            for (int i = 0; i < 4; i++) {
                Doc.due("of " + p, x.measure(0, p, 2 * i + 1), numbers[p][i]);
            }
        }
        Doc.says("`player`: 0 for the measures of this game");
        Doc.due("0", Made.game("01 10", "0>1").measure(0, 0, 1), 1);
        Doc.due("0, LOST", Made.game("00").measure(0, 0, 1), NONE);
        Doc.beside(0, 1, RICH, (y, player) -> y.measure(player, 0, 1), UNKNOWN);
        Doc.says("1 for those of the game that is made for the player 1");
        Doc.due("1", Made.game("10 00", "0>1").measure(1, 0, 1), 1);
        Doc.due("1, of the colour 6", Made.game("16 00", "0>1").measure(1, 0, 7), 1);
        Doc.due("1, of the colour 7", Made.game("17 00", "0>1").measure(1, 0, 7), 0);
        Doc.due("1, LOST", Made.game("10").measure(1, 0, 1), NONE);

        Doc.says("`place`: a place");
        Doc.due("the first", x.measure(0, 0, 1), 0);
        Doc.due("the last", x.measure(0, 5, 7), 2);
        Doc.beside(0, 3, RICH, (y, place) -> y.measure(0, place, 1), UNKNOWN);
        Doc.beside(0, 3, RICH, (y, place) -> y.measure(1, place, 7), UNKNOWN);
        Doc.beside(0, 13, Made::fourteen, (y, place) -> y.measure(1, place, 7), UNKNOWN);

        Doc.says("`colour`: 1, 3, 5 or 7");
        for (int colour = 1; colour < 8; colour += 2) {
            Doc.due("colour " + colour, x.measure(0, 4, colour), 1);
        }
        for (int colour : new int[] {0, 2, 4, 6, 8, 9}) {
            Doc.leaves("colour " + colour, RICH, y -> y.measure(0, 3, colour), BAD_VALUE);
        }
        Doc.beside(0, 8, RICH, (y, colour) -> y.measure(0, 3, colour), BAD_VALUE);
    }

    private static void measureRefused() {
        Doc.says("the number");
        Doc.due("0", Made.game("10").measure(0, 0, 1), 0);
        RingGames x = Made.game(first("10", "01"), ROW);
        for (int p = 0; p < 14; p++) {
            Doc.due("up to 13", x.measure(0, p, 1), p);
        }
        x = Made.game(first("00", "10"), ROW);
        for (int p = 0; p < 14; p++) {
            Doc.due("up to 13, for the player 1", x.measure(1, p, 1), p);
        }

        Doc.says("UNKNOWN (player or place)");
        Doc.leaves("no places", Made::bare, y -> y.measure(0, 0, 1), UNKNOWN);
        Doc.leaves("player", RICH, y -> y.measure(2, 0, 1), UNKNOWN);
        Doc.leaves("place", RICH, y -> y.measure(0, 4, 1), UNKNOWN);
        Doc.leaves("player and colour", RICH, y -> y.measure(2, 0, 0), UNKNOWN);
        Doc.leaves("place and colour", RICH, y -> y.measure(0, 4, 0), UNKNOWN);
        Doc.says("BAD_VALUE");
        Doc.leaves("of a number", RICH, y -> y.measure(0, 3, 2), BAD_VALUE);
        Doc.leaves("of LOST", RICH, y -> y.measure(0, 0, 2), BAD_VALUE);
        Doc.says("NONE if the measure is LOST");
        for (int colour = 1; colour < 8; colour += 2) {
            int asked = colour;
            Doc.leaves("for 0", RICH, y -> y.measure(0, 0, asked), NONE);
            Doc.leaves("for 1", RICH, y -> y.measure(1, 3, asked), NONE);
        }
    }

    private static void rounds() {
        Doc.at("Promise 22");
        Doc.says("`player`: 0 for this game");
        Doc.due("carry", Made.game(Made.CARRY).rounds(0), 4);
        Doc.due("ring", Made.game(Made.RING).rounds(0), 3);
        Doc.beside(0, 1, RICH, (x, player) -> x.rounds(player), UNKNOWN);
        Doc.says("1 for the game that is made for the player 1");
        Doc.due("carry", Made.game(Made.CARRY).rounds(1), 5);
        Doc.due("ring", Made.game(Made.RING).rounds(1), 2);

        Doc.says("the number of the last round in which the measures are found");
        for (int player = 0; player < 2; player++) {
            Doc.due("no places", Made.bare().rounds(player), 1);
            Doc.due("none rises", Made.game((1 - player) + "0").rounds(player), 1);
            Doc.due("one rises", Made.game(player + "0").rounds(player), 2);
        }
        Doc.due("all rise at once", Made.game(repeated("00")).rounds(0), 2);
        Doc.due("one after another in one round", Made.game(repeated("00"), ROW).rounds(0), 2);
        Doc.due("one in each round", Made.game(repeated("00"),
                "0>1;1>2;2>3;3>4;4>5;5>6;6>7;7>8;8>9;9>10;10>11;11>12;12>13").rounds(0), 15);

        Doc.says("UNKNOWN");
        Doc.leaves("2", RICH, x -> x.rounds(2), UNKNOWN);
        Doc.leaves("no places", Made::bare, x -> x.rounds(-1), UNKNOWN);
    }

    private static void forced() {
        Doc.at("Promise 23");
        RingGames x = Made.game(Made.RING);
        Doc.says("`player`: 0 or 1");
        Doc.due("0", x.forced(0, 4), 4);
        Doc.due("1", x.forced(1, 4), 7);
        Doc.beside(0, 1, RICH, (y, player) -> y.forced(player, 0), UNKNOWN);

        Doc.says("`set`: places, as bits");
        RingGames none = Made.fourteen();
        for (int p = 0; p < 14; p++) {
            Doc.due("one of 14", none.forced(p % 2, 1 << p), 1 << p);
        }
        for (int places = 0; places <= 14; places++) {
            int most = (1 << places) - 1;
            int size = places;
            Doc.due("all of them", Made.places(places).forced(0, most), most);
            Doc.due("one more", Made.places(places).forced(0, most + 1), BAD_VALUE);
            Doc.beside(0, most, () -> Made.places(size), (y, set) -> y.forced(1, set), BAD_VALUE);
        }

        Doc.says("the set that the player can force for them");
        Doc.due("for nothing", x.forced(0, 0), 0);
        Doc.due("for all", x.forced(0, 7), 7);
        Doc.due("by the own", x.forced(0, 1), 7);
        Doc.due("not by the other's", x.forced(0, 4), 4);
        Doc.due("all the way", Made.game(repeated("00"), ROW).forced(0, 1), ALL);
        Doc.due("all the way, the other's", Made.game(repeated("00"), ROW).forced(1, 1), ALL);
        x.choose(1, 0);
        Doc.due("choices by hand do not matter", x.forced(1, 4), 7);
    }

    private static void forcedRefused() {
        Doc.says("UNKNOWN (player)");
        Doc.leaves("2", RICH, y -> y.forced(2, 1), UNKNOWN);
        Doc.leaves("with a bad set", RICH, y -> y.forced(-1, 16), UNKNOWN);
        Doc.says("BAD_VALUE (a place that there is not)");
        Doc.leaves("no places", Made::bare, y -> y.forced(0, 1), BAD_VALUE);
        Doc.leaves("the place 4", RICH, y -> y.forced(0, 16), BAD_VALUE);
        Doc.leaves("places that there are, too", RICH, y -> y.forced(0, 31), BAD_VALUE);
        for (int bit = 4; bit < 32; bit++) {
            int set = 1 | 1 << bit;
            Doc.leaves("the bit " + bit, RICH, y -> y.forced(1, set), BAD_VALUE);
        }
    }

    private static void rank() {
        Doc.at("Promise 24");
        RingGames x = Made.game(Made.RING);
        Doc.says("`player`: 0 or 1");
        Doc.due("0", x.rank(0, 4, 1), NONE);
        Doc.due("1", x.rank(1, 4, 1), 1);
        Doc.beside(0, 1, RICH, (y, player) -> y.rank(player, 1, 0), UNKNOWN);
        Doc.says("`set`: places, as bits");
        for (int set = 0; set < 16; set++) {
            RingGames none = Made.places(4);
            for (int p = 0; p < 4; p++) {
                Doc.due("in the set " + set, none.rank(0, set, p), (set >> p & 1) == 1 ? 0 : NONE);
            }
        }
        Doc.beside(0, 15, RICH, (y, set) -> y.rank(0, set, 0), BAD_VALUE);
        Doc.beside(0, ALL, Made::fourteen, (y, set) -> y.rank(0, set, 0), BAD_VALUE);
        Doc.says("`place`: a place");
        Doc.due("the first", x.rank(1, 4, 0), 2);
        Doc.due("the last", x.rank(1, 4, 2), 0);
        Doc.beside(0, 3, RICH, (y, place) -> y.rank(0, 1, place), UNKNOWN);
        Doc.beside(0, 13, Made::fourteen, (y, place) -> y.rank(0, 1, place), UNKNOWN);

        Doc.says("the rank of the place");
        RingGames row = Made.game(repeated("00"), ROW);
        for (int p = 0; p < 14; p++) {
            Doc.due("on the longest way", row.rank(0, 1, p), p);
            Doc.due("on the longest way", row.rank(1, 1, p), p);
            Doc.due("on a shorter way", row.rank(1, 1 | 1 << 7, p), p % 7);
        }
    }

    private static void rankRefused() {
        Doc.says("UNKNOWN (player or place)");
        Doc.leaves("no places", Made::bare, y -> y.rank(0, 0, 0), UNKNOWN);
        Doc.leaves("player", RICH, y -> y.rank(2, 1, 0), UNKNOWN);
        Doc.leaves("place", RICH, y -> y.rank(0, 1, 4), UNKNOWN);
        Doc.leaves("player and set", RICH, y -> y.rank(2, 16, 0), UNKNOWN);
        Doc.leaves("place and set", RICH, y -> y.rank(0, 16, 4), UNKNOWN);
        Doc.says("BAD_VALUE");
        Doc.leaves("the place 4", RICH, y -> y.rank(0, 16, 0), BAD_VALUE);
        Doc.leaves("though it is in the set", RICH, y -> y.rank(0, 17, 0), BAD_VALUE);
        Doc.leaves("negative", RICH, y -> y.rank(0, -1, 0), BAD_VALUE);
        Doc.says("NONE if it is not in the set that the player can force");
        Doc.leaves("the empty set", RICH, y -> y.rank(0, 0, 0), NONE);
        Doc.leaves("a place without arrows", RICH, y -> y.rank(1, 7, 3), NONE);
        Doc.leaves("the other can leave", RICH, y -> y.rank(0, 4, 1), NONE);
        Doc.leaves("14 places", Made.of(repeated("00"), ROW), y -> y.rank(0, 1 << 13, 0), NONE);
    }

    private static void trap() {
        Doc.at("Promise 25");
        RingGames x = Made.game(Made.RING);
        Doc.says("`player`: 0 or 1");
        Doc.due("0", x.trap(0, 3), 1);
        Doc.due("1", x.trap(1, 3), 0);
        Doc.beside(0, 1, RICH, (y, player) -> y.trap(player, 0), UNKNOWN);
        Doc.says("`set`: places, as bits");
        Doc.due("all of 14", Made.game(repeated("00"), ROUND).trap(0, ALL), 1);
        Doc.due("the last of 14", Made.game(repeated("00")).trap(0, 1 << 13), 1);
        Doc.beside(0, 15, RICH, (y, set) -> y.trap(0, set), BAD_VALUE);
        Doc.beside(0, ALL, Made::fourteen, (y, set) -> y.trap(0, set), BAD_VALUE);

        Doc.says("1 if it is a trap for the player, otherwise 0");
        int[][] rows = {{1, 1}, {0, 0}, {0, 0}, {1, 0}, {0, 0}, {0, 0}, {0, 0}, {1, 1}};
        for (int set = 0; set < 8; set++) {
            Doc.due("0 in " + set, x.trap(0, set), rows[set][0]);
            Doc.due("1 in " + set, x.trap(1, set), rows[set][1]);
        }
        Doc.due("no places", Made.bare().trap(0, 0), 1);
        Doc.due("no places", Made.bare().trap(1, 0), 1);
        Doc.due("the own without arrows", Made.game("00").trap(0, 1), 1);
        Doc.due("the other's without arrows", Made.game("00").trap(1, 1), 0);
        Doc.due("a later place leaves", Made.game("00 00 00", "0>0;1>1,2").trap(0, 3), 0);
        Doc.due("an earlier place leaves", Made.game("00 00 00", "0>0,2;1>1").trap(0, 3), 0);

        Doc.says("UNKNOWN");
        Doc.leaves("2", RICH, y -> y.trap(2, 1), UNKNOWN);
        Doc.leaves("with a bad set", RICH, y -> y.trap(2, 16), UNKNOWN);
        Doc.says("BAD_VALUE");
        Doc.leaves("no places", Made::bare, y -> y.trap(0, 1), BAD_VALUE);
        Doc.leaves("the place 4", RICH, y -> y.trap(1, 31), BAD_VALUE);
    }

    private static void judged() {
        Doc.at("Promise 26");
        Doc.says("Judges the choices by hand of a player");
        RingGames x = Made.game(Made.RING);
        Doc.due("no choice", x.judged(1, 0), 0);
        x.choose(1, 0);
        Doc.due("a good one", x.judged(1, 0), 1);
        x.choose(1, 2);
        Doc.due("a bad one", x.judged(1, 0), 0);
        Doc.due("the other is not bound", x.judged(0, 0), 0);
        x.setOwner(1, 0);
        Doc.due("the new owner is", x.judged(0, 0), 1);
        Doc.says("`player`: 0 or 1");
        Doc.due("0", Made.game("00", "0>0").judged(0, 0), 1);
        Doc.due("1", Made.game("00", "0>0").judged(1, 0), 0);
        Doc.beside(0, 1, RICH, (y, player) -> y.judged(player, 0), UNKNOWN);
        Doc.says("`place`: a place");
        Doc.due("the first", Made.rich().judged(0, 0), 0);
        Doc.due("the last", Made.rich().judged(0, 3), 1);
        Doc.beside(0, 3, RICH, (y, place) -> y.judged(0, place), UNKNOWN);
        Doc.beside(0, 13, Made::fourteen, (y, place) -> y.judged(1, place), UNKNOWN);
        Doc.says("UNKNOWN (player or place)");
        Doc.leaves("no places", Made::bare, y -> y.judged(0, 0), UNKNOWN);
        Doc.leaves("player", RICH, y -> y.judged(2, 0), UNKNOWN);
        Doc.leaves("place", RICH, y -> y.judged(0, 4), UNKNOWN);
        Doc.leaves("both", RICH, y -> y.judged(2, 4), UNKNOWN);
    }

    private static void judgedOfAWay() {
        Doc.says("1 if in the judged game no bad ring for the player can be reached from the place");
        Doc.due("a good ring", Made.game("06", "0>0").judged(0, 0), 1);
        Doc.due("a place of the other without arrows", Made.game("10").judged(0, 0), 1);
        Doc.due("on the way to it", Made.game("01 10", "0>1").judged(0, 0), 1);
        Doc.due("a bad ring that cannot be reached",
                Made.game("00 01", "0>0;1>1,0").judged(0, 0), 1);
        Doc.due("a bad end that cannot be reached", Made.game("00 00", "0>0").judged(0, 0), 1);
        Doc.due("the longest way", Made.game(first("10", "00"), ROW).judged(0, 13), 1);

        Doc.says("otherwise 0");
        Doc.due("a bad ring", Made.game("05", "0>0").judged(0, 0), 0);
        Doc.due("itself without arrows", Made.game("00").judged(0, 0), 0);
        Doc.due("on the way to a bad ring", Made.game("00 01", "0>1;1>1").judged(0, 0), 0);
        Doc.due("on the way to a bad end", Made.game("00 00", "0>1").judged(0, 0), 0);
        Doc.due("one of two ways", Made.game("00 00 01", "0>1,2;1>1;2>2").judged(0, 0), 0);
        Doc.due("two ways of one length",
                Made.game("00 10 10 01", "0>1,2;1>3;2>3;3>3").judged(0, 0), 0);
        Doc.due("the longest way to an end", Made.game(repeated("00"), ROW).judged(0, 13), 0);
        Doc.due("the longest way to a ring",
                Made.game(first("01", "00"), "0>0;" + ROW).judged(0, 13), 0);
        RingGames x = Made.game("00 00 10", "0>1,2");
        x.choose(0, 2);
        Doc.due("but not by the choice", x.judged(0, 0), 1);
    }

    private static void rings(RingGames x, int player, int places, int colour, int length) {
        Doc.due("places for " + player, x.badRings(player, 0), places);
        Doc.due("least colour for " + player, x.badRings(player, 1), colour);
        Doc.due("length for " + player, x.badRings(player, 2), length);
    }

    private static void badRings() {
        Doc.at("Promise 27");
        Doc.says("`player`: 0 or 1");
        rings(Made.game(Made.RING), 0, 3, 1, 2);
        rings(Made.game(Made.RING), 1, 7, 0, 3);
        Doc.beside(0, 1, RICH, (x, player) -> x.badRings(player, 0), UNKNOWN);

        Doc.says("`what`: 0 for the places that lie on a bad ring of the judged game (as bits)");
        RingGames x = Made.game(Made.RING);
        x.choose(1, 0);
        rings(x, 0, 3, 1, 2);
        rings(x, 1, 0, NONE, NONE);
        rings(Made.game(repeated("01"), ROUND), 0, ALL, 1, 14);
        Doc.due("a way to a ring is not on it", Made.game("01 01", "0>1;1>1").badRings(0, 0), 2);
        Doc.due("nor one from it", Made.game("01 01", "0>0,1").badRings(0, 0), 1);
        Doc.due("all of two rings", Made.game("03 05", "0>0;1>1").badRings(0, 0), 3);
        Doc.beside(0, 2, RICH, (y, what) -> y.badRings(0, what), BAD_VALUE);

        Doc.says("1 for the least colour of a bad ring (NONE if there is none)");
        for (int colour = 0; colour < 8; colour++) {
            x = Made.game("0" + colour, "0>0");
            Doc.due("of " + colour, x.badRings(1 - colour % 2, 1), colour);
            Doc.due("none with " + colour, x.badRings(colour % 2, 1), NONE);
        }
        Doc.due("of two rings", Made.game("05 03", "0>0;1>1").badRings(0, 1), 3);
        Doc.due("of two rings", Made.game("03 05", "0>0;1>1").badRings(0, 1), 3);
        Doc.due("not of a good ring", Made.game("00 05", "0>0;1>1").badRings(0, 1), 5);
        Doc.due("not of a place on no ring", Made.game("01 05", "0>1;1>1").badRings(0, 1), 5);
        Doc.due("no ring", Made.fourteen().badRings(0, 1), NONE);

        Doc.says("2 for the length of the shortest bad ring (NONE likewise)");
        Doc.due("itself", Made.game("01", "0>0").badRings(0, 2), 1);
        Doc.due("14", Made.game(repeated("01"), ROUND).badRings(0, 2), 14);
        Doc.due("of two", Made.game("01 02 03 04", "0>1;1>0;2>2").badRings(0, 2), 1);
        Doc.due("of two, the first", Made.game("01 01 01", "0>0;1>2;2>1").badRings(0, 2), 1);
        Doc.due("two of one length",
                Made.game("01 02 02 02", "0>1,2;1>3;2>3;3>0").badRings(0, 2), 3);
        Doc.due("not the shortest good one",
                Made.game("03 04 05", "0>1;1>2,1;2>0").badRings(0, 2), 3);
        // The ring of 0 and 1 alone is good; the shortest bad one goes twice through 0.
        Doc.due("twice through a place", Made.game("05 04 03", "0>1,2;1>0;2>0").badRings(0, 2), 2);
        Doc.due("twice through a place, none shorter",
                Made.game("04 05 06 03", "0>1;1>2;2>3,0;3>2").badRings(1, 2), 3);
        Doc.due("none", Made.game("00", "0>0").badRings(0, 2), NONE);
        Doc.due("no ring", Made.fourteen().badRings(1, 2), NONE);
    }

    private static void badRingsRefused() {
        Doc.says("the number");
        rings(Made.game("05 03 01 06", "0>1;1>0,2;2>3;3>2"), 0, 15, 1, 2);
        rings(Made.game("05 04 01 06", "0>1;1>0,2;2>3;3>2"), 1, 3, 4, 2);
        rings(Made.bare(), 0, 0, NONE, NONE);
        rings(Made.bare(), 1, 0, NONE, NONE);
        Doc.says("UNKNOWN");
        Doc.leaves("2", RICH, y -> y.badRings(2, 0), UNKNOWN);
        Doc.leaves("what is bad too", RICH, y -> y.badRings(2, 3), UNKNOWN);
        Doc.says("BAD_VALUE");
        Doc.leaves("3", RICH, y -> y.badRings(1, 3), BAD_VALUE);
        Doc.leaves("-1", Made::bare, y -> y.badRings(0, -1), BAD_VALUE);
    }

    private static void pivots() {
        Doc.at("Promise 28");
        Doc.says("Tells the places whose owner, if it was the other player, would make a place");
        Doc.due("the other ends", Made.game("00 01 12", "0>1;1>2").pivots(0), 4);
        Doc.due("itself, without arrows", Made.game("00 01").pivots(0), 1);
        Doc.due("itself, the other one", Made.game("10 00 01", "0>1,2;1>1;2>2").pivots(0), 1);
        Doc.due("one that is on the way", Made.game(Made.RING).pivots(0), 2);
        Doc.due("none", Made.game("00 11", "0>0;1>1").pivots(0), 0);
        Doc.due("each by itself, not two together", Made.game("00 10 10", "0>1,2").pivots(0), 0);
        Doc.leaves("it is only asked", RICH, x -> x.pivots(0), 2);

        Doc.says("`place`: a place");
        Doc.due("the first", Made.rich().pivots(0), 2);
        Doc.due("the last", Made.rich().pivots(3), 8);
        Doc.beside(0, 3, RICH, (x, place) -> x.pivots(place), UNKNOWN);
        Doc.beside(0, 13, Made::fourteen, (x, place) -> x.pivots(place), UNKNOWN);

        Doc.says("these places (as bits)");
        RingGames x = Made.game(repeated("00"), ROW);
        Doc.due("the end of the longest way", x.pivots(13), 1);
        Doc.due("the end itself", x.pivots(0), 1);
        x = Made.fourteen();
        for (int p = 0; p < 14; p++) {
            Doc.due("alone", x.pivots(p), 1 << p);
        }
        Doc.due("two", Made.game("00 01 12", "0>1,2").pivots(0), 5);

        Doc.says("UNKNOWN");
        Doc.leaves("no places", Made::bare, y -> y.pivots(0), UNKNOWN);
        Doc.leaves("place 4", RICH, y -> y.pivots(4), UNKNOWN);
    }

    private static void weakArrows() {
        Doc.at("Promise 29");
        Doc.says("Tells which arrow of a place, if it was removed, would make the place be won");
        Doc.due("the only good one", Made.game(Made.RING).weakArrows(1), 1);
        Doc.due("one of two good ones", Made.game("00 10 10", "0>1,2").weakArrows(0), 0);
        Doc.due("the only one of a winner", Made.game("00", "0>0").weakArrows(0), 1);
        Doc.due("the only one of the other, who then loses",
                Made.game("11", "0>0").weakArrows(0), 1);
        Doc.due("the only one of a loser", Made.game("01", "0>0").weakArrows(0), 0);
        Doc.due("without arrows", Made.game("00").weakArrows(0), 0);
        Doc.due("the arrows of others do not count",
                Made.game("00 00", "0>1;1>1").weakArrows(0), 2);
        Doc.leaves("it is only asked, and choices do not count", RICH, x -> x.weakArrows(1), 1);

        Doc.says("`place`: a place");
        Doc.due("the first", Made.rich().weakArrows(0), 0);
        Doc.due("the last", Made.rich().weakArrows(3), 0);
        Doc.due("the last of 14", Made.game(repeated("10"), "13>0").weakArrows(13), 0);
        Doc.beside(0, 3, RICH, (y, place) -> y.weakArrows(place), UNKNOWN);
        Doc.beside(0, 13, Made::fourteen, (y, place) -> y.weakArrows(place), UNKNOWN);

        Doc.says("the places to which these arrows lead (as bits)");
        RingGames x = Made.game(repeated("00"), ROUND);
        for (int p = 0; p < 14; p++) {
            Doc.due("of " + p, x.weakArrows(p), 1 << (p + 13) % 14);
        }
        Doc.says("UNKNOWN");
        Doc.leaves("no places", Made::bare, y -> y.weakArrows(0), UNKNOWN);
        Doc.leaves("place 4", RICH, y -> y.weakArrows(4), UNKNOWN);
    }

    private static RingGames at(RingGames x, int place) {
        x.start(place);
        return x;
    }

    private static void tokens(RingGames x, int... answers) {
        for (int what = 0; what < 5; what++) {
            Doc.due("token(" + what + ")", x.token(what), answers[what]);
        }
    }

    private static void tokenThatStops() {
        Doc.at("Promise 30");
        Doc.says("Tells what comes if the token goes on as step() does it");
        RingGames x = at(Made.game("01 12 00 13", "0>1;1>0,2;2>0"), 0);
        tokens(x, 0, NONE, 1, 2, 1);
        x.choose(1, 2);
        tokens(x, 0, NONE, 0, 3, 0);
        x.step(1);
        tokens(x, 1, NONE, 0, 3, 0);
        Doc.due("it has gone one step alone", x.count(6), 1);

        Doc.says("1 for the steps until it cannot go on (NONE if it goes on without end)");
        Doc.due("0", Made.stuck().token(1), 0);
        x = Made.game(repeated("00"), ROW);
        for (int p = 0; p < 14; p++) {
            Doc.due("from " + p, at(x, p).token(1), p);
        }
        Doc.due("without end", at(Made.game("00", "0>0"), 0).token(1), NONE);
        Doc.due("without end, after a way", at(Made.game("00 00", "0>1;1>1"), 0).token(1), NONE);

        Doc.says("`what`: 0 for the place at which it is");
        for (int p = 0; p < 14; p++) {
            Doc.due("at " + p, at(x, p).token(0), p);
        }
        Doc.beside(0, 4, RICH, (y, what) -> y.token(what), BAD_VALUE);
    }

    private static void tokenThatGoesOn() {
        Doc.says("2 for the least colour that comes again and again (NONE if it does not go on");
        for (int colour = 0; colour < 8; colour++) {
            Doc.due("of " + colour, at(Made.game("0" + colour, "0>0"), 0).token(2), colour);
        }
        RingGames x = Made.game("00 03 05 04", "0>1;1>2;2>3;3>1");
        Doc.due("not one before the ring", at(x, 0).token(2), 3);
        Doc.due("wherever it begins on the ring", at(x, 2).token(2), 3);
        Doc.due("wherever it begins on the ring", at(x, 3).token(2), 3);
        Doc.due("it stops", Made.stuck().token(2), NONE);

        Doc.says("3 for the steps until a place is met for the second time (NONE likewise)");
        Doc.due("after a way", at(x, 0).token(3), 4);
        Doc.due("on the ring", at(x, 1).token(3), 3);
        Doc.due("itself", at(Made.game("00", "0>0"), 0).token(3), 1);
        Doc.due("the longest ring", at(Made.game(repeated("00"), ROUND), 5).token(3), 14);
        Doc.due("the longest way", at(Made.game(repeated("00"), "0>0;" + ROW), 13).token(3), 14);
        Doc.due("it stops", Made.stuck().token(3), NONE);
        x.start(0);
        x.step(2);
        Doc.due("from where it is now", x.token(3), 3);

        Doc.says("4 for the player who wins the play that goes on so");
        for (int colour = 0; colour < 8; colour++) {
            Doc.due("by " + colour, at(Made.game("0" + colour, "0>0"), 0).token(4), colour % 2);
        }
        Doc.due("the owner 1 cannot go on", Made.stuck().token(4), 0);
        Doc.due("the owner 0 cannot go on", at(Made.game("00"), 0).token(4), 1);
        Doc.due("the owner of the last one", at(Made.game("10 00", "0>1"), 0).token(4), 1);
        x = at(Made.game("00 01", "0>0,1;1>1"), 0);
        Doc.due("the winner of the place", x.token(4), 0);
        x.choose(0, 1);
        Doc.due("not so by a bad choice", x.token(4), 1);
    }

    private static void tokenRefused() {
        Doc.says("the number");
        tokens(at(Made.game("00 01 12 03", "0>1;1>2;2>3;3>2"), 0), 0, NONE, 2, 4, 0);
        tokens(at(Made.game("00 01 12 03", "0>1;1>2"), 0), 0, 2, NONE, NONE, 0);
        tokens(Made.stuck(), 3, 0, NONE, NONE, 0);
        Doc.says("BAD_VALUE");
        Doc.leaves("5", RICH, x -> x.token(5), BAD_VALUE);
        Doc.leaves("5 without a token", Made::bare, x -> x.token(5), BAD_VALUE);
        Doc.leaves("-1 without a token", Made::bare, x -> x.token(-1), BAD_VALUE);
        Doc.says("NOT_POSSIBLE if there is no token");
        for (int what = 0; what < 5; what++) {
            int asked = what;
            Doc.leaves("no places", Made::bare, x -> x.token(asked), NOT_POSSIBLE);
            Doc.leaves("no token", Made.of(Made.RING), x -> x.token(asked), NOT_POSSIBLE);
        }
        RingGames x = at(Made.game("00"), 0);
        x.undo();
        Doc.due("taken away again", x.token(0), NOT_POSSIBLE);
    }

    private static void countPlaces() {
        Doc.at("Promise 31");
        Doc.says("`what`: 0 for places");
        for (int places = 0; places <= 14; places++) {
            Doc.due("places", Made.places(places).count(0), places);
        }
        Doc.beside(0, 8, RICH, (x, what) -> x.count(what), BAD_VALUE);
        Doc.says("1 for arrows");
        for (int arrows = 0; arrows <= 60; arrows++) {
            Doc.due("arrows", Made.arrows(arrows).count(1), arrows);
        }
        Doc.says("2 for places of the player 0");
        for (int places = 0; places <= 14; places++) {
            Doc.due("of the player 0", Made.places(places).count(2), (places + 1) / 2);
        }
        Doc.due("none", Made.game(repeated("10")).count(2), 0);
        Doc.due("all", Made.game(repeated("00")).count(2), 14);
        Doc.says("3 for places without arrows (as bits)");
        Doc.due("no places", Made.bare().count(3), 0);
        Doc.due("all", Made.fourteen().count(3), ALL);
        Doc.due("all but 5", Made.sixty().count(3), ALL & ~31);
        Doc.due("none", Made.game(repeated("00"), ROUND).count(3), 0);
        Doc.due("one to which there are arrows", Made.game("00 00", "0>1").count(3), 2);
        Doc.says("4 for the least colour of a place (NONE without places)");
        Doc.leaves("no places", Made::bare, x -> x.count(4), NONE);
        for (int colour = 0; colour < 8; colour++) {
            Doc.due("of one", Made.game("0" + colour).count(4), colour);
            Doc.due("the first", Made.game("0" + colour + " 07 17").count(4), colour);
            Doc.due("the last", Made.game("07 17 1" + colour).count(4), colour);
        }
    }

    private static void countTheRest() {
        Doc.says("5 for choices by hand");
        RingGames x = Made.game(repeated("00"), ROUND);
        for (int p = 0; p < 14; p++) {
            Doc.due("choices", x.count(5), p);
            x.choose(p, (p + 13) % 14);
        }
        Doc.due("choices", x.count(5), 14);
        x.choose(0, 14);
        Doc.due("one taken back", x.count(5), 13);
        x.removeArrow(1, 0);
        Doc.due("one gone with its arrow", x.count(5), 12);

        Doc.says("6 for steps of the token since it was put");
        Doc.due("no token", Made.bare().count(6), 0);
        x = at(Made.game("00 00 00", "0>1;1>0"), 0);
        Doc.due("put", x.count(6), 0);
        x.step(50);
        x.step(1);
        Doc.due("51", x.count(6), 51);
        x.start(1);
        Doc.due("put again", x.count(6), 0);
        x.undo();
        Doc.due("not put again", x.count(6), 51);
        x.undo();
        Doc.due("one step less", x.count(6), 50);
        Doc.due("only steps that it could go", at(Made.game("00 00", "0>1"), 0).step(50), 1);

        Doc.says("7 for the states in the history");
        for (int acts = 0; acts <= 14; acts++) {
            Doc.due("states", Made.places(acts).count(7), Math.min(acts, 4));
        }
        Doc.says("8 for the length of the text");
        for (int length = 0; length <= 60; length++) {
            Doc.due("length", Made.typed(Made.bare(), "x".repeat(length)).count(8), length);
        }
        Doc.says("the number");
        int[] counts = {4, 4, 2, 8, 0, 1, 2, 4, 7};
        for (int what = 0; what < 9; what++) {
            Doc.due("count(" + what + ")", Made.rich().count(what), counts[what]);
        }
        Doc.says("BAD_VALUE");
        Doc.leaves("9", RICH, y -> y.count(9), BAD_VALUE);
        Doc.leaves("-1", Made::bare, y -> y.count(-1), BAD_VALUE);
    }
}
