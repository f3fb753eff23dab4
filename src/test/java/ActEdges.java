import java.util.function.Supplier;

/** The promises 1 to 17, sentence by sentence, with their edges. */
final class ActEdges {
    private static final int UNKNOWN = -1;
    private static final int BAD_VALUE = -2;
    private static final int FULL = -3;
    private static final int NOT_POSSIBLE = -4;
    private static final int NONE = -5;
    private static final Supplier<RingGames> RICH = Made::rich;
    private static final Supplier<RingGames> ROOMY = Made::roomy;

    private ActEdges() {
    }

    static void all() {
        newObject();
        lastCall();
        addPlace();
        addPlaceRefused();
        setOwner();
        setColour();
        addArrow();
        addArrowRefused();
        removeArrow();
        readArrows();
        readArrowsRefused();
        turnOver();
        choose();
        chooseRefused();
        chooseWell();
        start();
        step();
        type();
        clearText();
        undo();
        keep();
        restore();
    }

    private static void newObject() {
        Doc.at("Promise 1");
        Doc.says("Creates a game without places");
        RingGames other = Made.rich();
        RingGames x = new RingGames();
        int[] counts = {0, 0, 0, 0, NONE, 0, 0, 0, 0};
        for (int what = 0; what < 9; what++) {
            Doc.due("count " + what, x.count(what), counts[what]);
        }
        for (int player = 0; player < 2; player++) {
            Doc.due("wins", x.wins(player), 0);
            Doc.due("rounds", x.rounds(player), 1);
            Doc.due("forced", x.forced(player, 0), 0);
            Doc.due("trap", x.trap(player, 0), 1);
            Doc.due("places on bad rings", x.badRings(player, 0), 0);
            Doc.due("colour of a bad ring", x.badRings(player, 1), NONE);
            Doc.due("length of a bad ring", x.badRings(player, 2), NONE);
            Doc.due("chooseWell", new RingGames().chooseWell(player), 0);
        }
        Doc.due("turnOver", new RingGames().turnOver(), 0);
        Doc.due("readArrows", x.readArrows(), -100);
        Doc.due("keep", x.keep(), 0);
        Doc.due("clearText", x.clearText(), 0);
        Doc.leaves("undo", Made::bare, RingGames::undo, NONE);
        Doc.leaves("restore", Made::bare, RingGames::restore, NONE);
        Doc.leaves("place 0", Made::bare, y -> y.place(0, 0), UNKNOWN);
        Doc.leaves("start", Made::bare, y -> y.start(0), UNKNOWN);
        Doc.leaves("step", Made::bare, y -> y.step(1), NOT_POSSIBLE);
        Doc.leaves("token", Made::bare, y -> y.token(0), NOT_POSSIBLE);
        Doc.due("another object is not touched",
                Told.state(other).equals(Told.state(Made.rich())) ? 1 : 0, 1);
    }

    /** An object holds for 512 calls. */
    private static void lastCall() {
        RingGames x = Made.places(14);
        for (int call = 15; call <= 510; call++) {
            x.setColour(call % 14, x.count(8) + call / 14 % 2 * 7);
            call++;
        }
        Doc.due("the 511th call", x.undo(), 3);
        Doc.due("the 512th call", x.count(7), 3);
        x = Made.game("00 10", "0>1;1>0");
        x.start(0);
        for (int call = 6; call <= 511; call++) {
            Doc.due("the call " + call, x.step(50), 0);
        }
        Doc.due("the 512th call", x.count(6), 506 * 50);
        x = new RingGames();
        for (int call = 1; call <= 511; call++) {
            Doc.due("the call " + call, x.type('0'), call <= 60 ? call : FULL);
        }
        Doc.due("the 512th call", x.clearText(), 60);
    }

    private static void addPlace() {
        Doc.at("Promise 2");
        Doc.says("Adds a place without arrows");
        RingGames x = Made.game("00 00", "1>1;0>1");
        x.choose(1, 1);
        for (int i = 0; i < 4; i++) {
            x.undo();
        }
        Doc.due("the place 1 once more", x.addPlace(1, 3), 1);
        Doc.due("its owner", x.place(1, 0), 1);
        Doc.due("its colour", x.place(1, 1), 3);
        Doc.due("arrows from it", x.place(1, 2), 0);
        Doc.due("arrows to it", x.place(1, 3), 0);
        Doc.due("its choice", x.place(1, 5), NONE);
        Doc.due("no choices", x.count(5), 0);

        Doc.says("This is an act");
        Doc.act("addPlace", ROOMY, y -> y.addPlace(1, 7), 4);
        Doc.act("the first", Made::bare, y -> y.addPlace(0, 0), 0);

        Doc.says("`owner`: 0 or 1");
        Doc.due("0", Made.places(3).addPlace(0, 3), 3);
        Doc.due("1", Made.places(3).addPlace(1, 3), 3);
        Doc.beside(0, 1, RICH, (y, owner) -> y.addPlace(owner, 3), BAD_VALUE);

        Doc.says("`colour`: 0 to 7");
        for (int colour = 0; colour < 8; colour++) {
            x = Made.places(3);
            Doc.due("colour " + colour, x.addPlace(1, colour), 3);
            Doc.due("colour " + colour, x.place(3, 1), colour);
        }
        Doc.beside(0, 7, RICH, (y, colour) -> y.addPlace(0, colour), BAD_VALUE);

        Doc.says("its number");
        x = new RingGames();
        for (int p = 0; p < 14; p++) {
            Doc.due("number", x.addPlace(p % 2, p % 8), p);
            Doc.due("places", x.count(0), p + 1);
        }
    }

    private static void addPlaceRefused() {
        Doc.says("BAD_VALUE");
        Doc.leaves("owner 2", Made::bare, y -> y.addPlace(2, 0), BAD_VALUE);
        Doc.leaves("colour 8", Made::bare, y -> y.addPlace(0, 8), BAD_VALUE);
        Doc.leaves("both", Made::bare, y -> y.addPlace(-1, -1), BAD_VALUE);
        Doc.leaves("owner 2, when full", Made::fourteen, y -> y.addPlace(2, 0), BAD_VALUE);
        Doc.leaves("colour -1, when full", Made::fourteen, y -> y.addPlace(0, -1), BAD_VALUE);

        Doc.says("FULL if there are 14");
        Doc.due("13", Made.places(13).addPlace(0, 0), 13);
        Doc.leaves("14", Made::fourteen, y -> y.addPlace(0, 0), FULL);
        Doc.leaves("14", Made::fourteen, y -> y.addPlace(1, 7), FULL);
        RingGames x = Made.fourteen();
        x.undo();
        Doc.due("room again", x.addPlace(1, 1), 13);
        Doc.due("and none", x.addPlace(1, 1), FULL);
    }

    private static void setOwner() {
        Doc.at("Promise 3");
        Doc.says("Gives a place another owner");
        for (int p = 0; p < 14; p++) {
            RingGames x = Made.fourteen();
            Doc.due("to " + p, x.setOwner(p, 1 - p % 2) >= 0 ? 1 : 0, 1);
            for (int other = 0; other < 14; other++) {
                int owner = other == p ? 1 - p % 2 : other % 2;
                Doc.due("the owner of " + other, x.place(other, 0), owner);
            }
        }
        Doc.says("This is an act");
        Doc.act("setOwner", ROOMY, x -> x.setOwner(3, 0), 0);

        Doc.says("`place`: a place");
        Doc.due("the first", Made.rich().setOwner(0, 1), 8);
        Doc.due("the last", Made.rich().setOwner(3, 0), 0);
        Doc.beside(0, 3, RICH, (x, place) -> x.setOwner(place, 0), UNKNOWN);
        Doc.beside(0, 13, Made::fourteen, (x, place) -> x.setOwner(place, 1), UNKNOWN);

        Doc.says("`owner`: 0 or 1");
        RingGames y = Made.game("00");
        Doc.due("to 1", y.setOwner(0, 1), 1);
        Doc.due("to 0", y.setOwner(0, 0), 0);
        Doc.beside(0, 1, RICH, (x, owner) -> x.setOwner(0, owner), BAD_VALUE);

        Doc.says("the places that the player 0 wins then");
        Doc.due("none", Made.game("10 01", "1>1").setOwner(0, 0), 0);
        Doc.due("all", Made.game("00 12", "1>1").setOwner(0, 1), 3);
        Doc.due("by the new owner", Made.game(Made.RING).setOwner(1, 0), 7);
        Doc.due("the last of 14", Made.places(14).setOwner(12, 1), 1 << 12 | 0x2aaa);

        Doc.says("UNKNOWN");
        Doc.leaves("no places", Made::bare, x -> x.setOwner(0, 0), UNKNOWN);
        Doc.leaves("the owner is bad too", RICH, x -> x.setOwner(4, -1), UNKNOWN);
        Doc.says("BAD_VALUE");
        Doc.leaves("owner 2", RICH, x -> x.setOwner(3, 2), BAD_VALUE);
        Doc.says("NONE if it is so already");
        Doc.leaves("0 already", RICH, x -> x.setOwner(0, 0), NONE);
        Doc.leaves("1 already", RICH, x -> x.setOwner(3, 1), NONE);
    }

    private static void setColour() {
        Doc.at("Promise 4");
        Doc.says("Gives a place another colour");
        for (int p = 0; p < 14; p++) {
            RingGames x = Made.fourteen();
            Doc.due("of " + p, x.setColour(p, 7), p % 7);
            for (int other = 0; other < 14; other++) {
                Doc.due("the colour of " + other, x.place(other, 1), other == p ? 7 : other % 7);
            }
        }
        Doc.says("This is an act");
        Doc.act("setColour", ROOMY, x -> x.setColour(3, 7), 3);

        Doc.says("`place`: a place");
        Doc.due("the first", Made.rich().setColour(0, 0), 1);
        Doc.due("the last", Made.rich().setColour(3, 0), 5);
        Doc.beside(0, 3, RICH, (x, place) -> x.setColour(place, 7), UNKNOWN);

        Doc.says("`colour`: 0 to 7");
        for (int colour = 0; colour < 8; colour++) {
            RingGames x = Made.game("0" + (colour + 1) % 8);
            Doc.due("to " + colour, x.setColour(0, colour), (colour + 1) % 8);
            Doc.due("it is " + colour, x.place(0, 1), colour);
        }
        Doc.beside(0, 7, RICH, (x, colour) -> x.setColour(0, colour), BAD_VALUE);

        Doc.says("the previous one");
        RingGames y = Made.game("07");
        Doc.due("7", y.setColour(0, 0), 7);
        Doc.due("0", y.setColour(0, 7), 0);
        Doc.due("7 again", y.setColour(0, 3), 7);

        Doc.says("UNKNOWN");
        Doc.leaves("no places", Made::bare, x -> x.setColour(0, 0), UNKNOWN);
        Doc.leaves("the colour is bad too", RICH, x -> x.setColour(4, 8), UNKNOWN);
        Doc.says("BAD_VALUE");
        Doc.leaves("colour 8", RICH, x -> x.setColour(3, 8), BAD_VALUE);
        Doc.leaves("colour -1", RICH, x -> x.setColour(3, -1), BAD_VALUE);
        Doc.says("NONE if it is so already");
        Doc.leaves("0 already", RICH, x -> x.setColour(2, 0), NONE);
        Doc.leaves("5 already", RICH, x -> x.setColour(3, 5), NONE);
        Doc.leaves("7 already", Made.of("07"), x -> x.setColour(0, 7), NONE);
    }

    private static void addArrow() {
        Doc.at("Promise 5");
        Doc.says("Adds an arrow");
        for (int from = 0; from < 3; from++) {
            for (int to = 0; to < 3; to++) {
                RingGames x = Made.game("00 10 00");
                Doc.due("from " + from + " to " + to, x.addArrow(from, to), 1);
                Doc.due("there", x.place(from, 2), 1 << to);
                Doc.due("back", x.place(to, 3), 1 << from);
                Doc.due("arrows", x.count(1), 1);
            }
        }
        Doc.says("This is an act");
        Doc.act("addArrow", ROOMY, x -> x.addArrow(0, 3), 2);

        Doc.says("`from`: a place");
        Doc.due("the first", Made.rich().addArrow(0, 2), 2);
        Doc.due("the last", Made.rich().addArrow(3, 2), 1);
        Doc.beside(0, 3, RICH, (x, from) -> x.addArrow(from, 0), UNKNOWN);
        Doc.beside(0, 13, Made::fourteen, (x, from) -> x.addArrow(from, 0), UNKNOWN);
        Doc.says("`to`: a place");
        Doc.due("the first", Made.rich().addArrow(3, 0), 1);
        Doc.due("the last", Made.rich().addArrow(3, 3), 1);
        Doc.beside(0, 3, RICH, (x, to) -> x.addArrow(0, to), UNKNOWN);
        Doc.beside(0, 13, Made::fourteen, (x, to) -> x.addArrow(0, to), UNKNOWN);

        Doc.says("the arrows of the first place then");
        RingGames y = Made.fourteen();
        for (int i = 0; i < 14; i++) {
            Doc.due("arrows of 13", y.addArrow(13, 13 - i), i + 1);
        }
        Doc.due("not of the second", y.addArrow(0, 13), 1);
    }

    private static void addArrowRefused() {
        Doc.says("UNKNOWN (from or to)");
        Doc.leaves("no places", Made::bare, x -> x.addArrow(0, 0), UNKNOWN);
        Doc.leaves("from", RICH, x -> x.addArrow(4, 3), UNKNOWN);
        Doc.leaves("to", RICH, x -> x.addArrow(3, 4), UNKNOWN);
        Doc.leaves("both", RICH, x -> x.addArrow(4, 4), UNKNOWN);
        Doc.leaves("from, when full", Made::sixty, x -> x.addArrow(14, 13), UNKNOWN);
        Doc.leaves("to, when full", Made::sixty, x -> x.addArrow(13, 14), UNKNOWN);

        Doc.says("FULL if there are 60");
        Doc.due("59", Made.arrows(59).addArrow(5, 0), 1);
        Doc.leaves("60", Made::sixty, x -> x.addArrow(5, 0), FULL);
        Doc.leaves("60, and it is there", Made::sixty, x -> x.addArrow(4, 3), FULL);
        RingGames y = Made.sixty();
        y.removeArrow(0, 0);
        Doc.due("59, and it is there", y.addArrow(4, 3), NONE);
        Doc.due("room again", y.addArrow(0, 0), 14);
        Doc.due("and none", y.addArrow(5, 0), FULL);

        Doc.says("NONE if it is there already");
        Doc.leaves("there", RICH, x -> x.addArrow(0, 1), NONE);
        Doc.leaves("to itself", Made.of("00", "0>0"), x -> x.addArrow(0, 0), NONE);
        Doc.due("back is another one", Made.game("00 00", "0>1").addArrow(1, 0), 1);
    }

    private static void removeArrow() {
        Doc.at("Promise 6");
        Doc.says("Removes an arrow");
        RingGames y = Made.game("00 10 00", "0>0,1,2;1>0,1;2>0");
        Doc.due("remove", y.removeArrow(0, 1), 2);
        Doc.due("of 0", y.place(0, 2), 5);
        Doc.due("of 1", y.place(1, 2), 3);
        Doc.due("of 2", y.place(2, 2), 1);
        Doc.due("to itself", y.removeArrow(1, 1), 1);
        Doc.due("of 1", y.place(1, 2), 1);

        Doc.says("a choice by hand for it is gone");
        y = Made.game("00 10 00", "0>0,1,2;1>0,1;2>0");
        y.choose(0, 1);
        y.choose(1, 1);
        y.removeArrow(0, 2);
        Doc.due("not of another arrow", y.place(0, 5), 1);
        y.removeArrow(0, 1);
        Doc.due("gone", y.place(0, 5), NONE);
        Doc.due("another place has it", y.place(1, 5), 1);
        Doc.due("choices", y.count(5), 1);
        y.addArrow(0, 1);
        Doc.due("it does not come back", y.place(0, 5), NONE);
        y.undo();
        y.undo();
        Doc.due("but with undo", y.place(0, 5), 1);

        Doc.says("This is an act");
        Doc.act("removeArrow", ROOMY, x -> x.removeArrow(1, 0), 1);
        Doc.act("with the choice", ROOMY, x -> x.removeArrow(1, 2), 1);
        Doc.says("`from`: a place");
        Doc.due("the first", Made.rich().removeArrow(0, 1), 0);
        Doc.due("the last", Made.game("00 00", "1>0").removeArrow(1, 0), 0);
        Doc.beside(0, 3, RICH, (x, from) -> x.removeArrow(from, 0), UNKNOWN);
        Doc.says("`to`: a place");
        Doc.due("the first", Made.rich().removeArrow(2, 0), 0);
        Doc.due("the last", Made.game("00 00", "0>1").removeArrow(0, 1), 0);
        Doc.beside(0, 3, RICH, (x, to) -> x.removeArrow(1, to), UNKNOWN);

        Doc.says("the arrows of the first place then");
        y = Made.sixty();
        for (int to = 0; to < 14; to++) {
            Doc.due("arrows of 0", y.removeArrow(0, to), 13 - to);
        }
        Doc.says("UNKNOWN (from or to)");
        Doc.leaves("no places", Made::bare, x -> x.removeArrow(0, 0), UNKNOWN);
        Doc.leaves("both", RICH, x -> x.removeArrow(4, 4), UNKNOWN);
        Doc.says("NONE if there is no such arrow");
        Doc.leaves("the other way", RICH, x -> x.removeArrow(2, 1), NONE);
        Doc.leaves("a place without arrows", RICH, x -> x.removeArrow(3, 3), NONE);
        Doc.leaves("no arrows at all", Made::fourteen, x -> x.removeArrow(13, 13), NONE);
    }

    private static void readArrows() {
        Doc.at("Promise 7");
        Doc.says("Adds the arrows of the text, which stays (those that are there already stay)");
        RingGames x = Made.game("00 11 02", "0>1;2>2");
        x.choose(0, 1);
        Doc.due("read", Made.read(x, "0>1,2;2>0,0;0>2"), 2);
        Doc.due("of 0", x.place(0, 2), 6);
        Doc.due("of 1", x.place(1, 2), 0);
        Doc.due("of 2", x.place(2, 2), 5);
        Doc.due("the choice stays", x.place(0, 5), 1);
        Doc.due("the text stays", x.count(8), 15);
        Doc.due("and can be read again", x.readArrows(), 0);
        Doc.due("the text goes on", x.type(','), 16);
        x = Made.fourteen();
        Doc.due("two digits", Made.read(x, "13>10,0,1,11,13;10>13"), 6);
        Doc.due("of 13", x.place(13, 2), 1 << 10 | 3 | 1 << 11 | 1 << 13);
        Doc.due("of 10", x.place(10, 2), 1 << 13);

        Doc.says("This is one act");
        Doc.act("many", () -> Made.typed(Made.roomy(), "0>0,2,3;3>0,1,2,3"),
                RingGames::readArrows, 7);
        Doc.act("none", () -> Made.typed(Made.roomy(), "0>1"), RingGames::readArrows, 0);

        Doc.says("how many arrows come");
        Doc.due("told twice", Made.read(Made.game("00"), "0>0,0;0>0"), 1);
        Doc.due("there already", Made.read(Made.game("00", "0>0"), "0>0"), 0);
        Doc.due("one of two", Made.read(Made.game("00 00", "0>0"), "0>0,1"), 1);
        Doc.due("the longest", Made.read(Made.places(11), Made.LONGEST), 3);
        String most = "0>0,1,2,3,4,5,6,7,8,9;1>0,1,2,3,4,5,6,7,8,9;2>0,1,2,3,4,5,6";
        Doc.due("as many as the text can hold", Made.read(Made.places(10), most), 27);
    }

    private static void readArrowsRefused() {
        Doc.says("-100 minus the fault of the text if it has one (which is an error)");
        Doc.refused("", Made::bare, -100);
        Doc.refused("x>1", RICH, -100);
        Doc.refused("3>3;2>2x", RICH, -107);
        Doc.refused("3>3;", RICH, -104);
        Doc.refused("3>3;".repeat(15), RICH, -160);
        Doc.refused("9>9,", RICH, -104);
        Doc.refused("13>13,", Made::sixty, -106);

        Doc.says("UNKNOWN if there is no such place anywhere in it");
        String[] texts = {"4>0", "0>4", "3>3;4>0", "3>3;0>4", "3>3;0>4,1", "3>3,4", "4>3;3>3",
            "3>3;0>99", "13>0", "3>14", "32>0", "3>32"};
        for (String text : texts) {
            Doc.refused(text, RICH, UNKNOWN);
        }
        Doc.refused("0>0", Made::bare, UNKNOWN);
        Doc.refused("0>14", Made::fourteen, UNKNOWN);
        Doc.refused("13>0;14>0", Made::sixty, UNKNOWN);

        Doc.says("FULL if there would be more than 60");
        Doc.due("60", Made.read(Made.arrows(57), "13>0,1,2"), 3);
        Doc.due("60, with some that are there",
                Made.read(Made.arrows(59), "0>0,1,2;13>0,0;13>0"), 1);
        Doc.due("60, none comes", Made.read(Made.sixty(), "0>0,1,2"), 0);
        Doc.refused("13>0,1,2,3", () -> Made.arrows(57), FULL);
        Doc.refused("0>0;13>13", Made::sixty, FULL);
    }

    private static void turnOver() {
        Doc.at("Promise 8");
        Doc.says("Exchanges the owners of all places, and makes each colour greater by 1");
        RingGames x = Made.fourteen();
        x.addArrow(13, 0);
        x.choose(13, 0);
        x.start(13);
        Doc.due("turnOver", x.turnOver(), 0x2aaa & ~(1 << 13));
        for (int p = 0; p < 14; p++) {
            Doc.due("owner", x.place(p, 0), 1 - p % 2);
            Doc.due("colour", x.place(p, 1), p % 7 + 1);
        }
        Doc.due("the arrows stay", x.count(1), 1);
        Doc.due("the choices stay", x.place(13, 5), 0);
        Doc.due("the token stays", x.token(0), 13);

        Doc.says("This is an act");
        Doc.act("turnOver", ROOMY, RingGames::turnOver, 8);

        Doc.says("the places that the player 1 wins then");
        Doc.due("those that the player 0 won", Made.game("02 13", "0>0;1>1").turnOver(), 1);
        Doc.due("all", Made.game("00 10 02", "0>2;2>1").turnOver(), 7);
        Doc.due("none", Made.game("00").turnOver(), 0);
        Doc.due("no places", Made.bare().turnOver(), 0);

        Doc.says("NOT_POSSIBLE if any place has the colour 7");
        Doc.due("6 becomes 7", Made.game("06").turnOver(), 0);
        Doc.leaves("the only one", Made.of("07"), RingGames::turnOver, NOT_POSSIBLE);
        Doc.leaves("the first", Made.of("07 00 10"), RingGames::turnOver, NOT_POSSIBLE);
        Doc.leaves("the last", Made.of("00 10 17"), RingGames::turnOver, NOT_POSSIBLE);
        Doc.leaves("two", Made.of("07 00 17"), RingGames::turnOver, NOT_POSSIBLE);
        x = Made.game("00");
        for (int colour = 1; colour <= 7; colour++) {
            Doc.due("to " + colour, x.turnOver() >= 0 ? x.place(0, 1) : -1, colour);
        }
        Doc.due("no more", x.turnOver(), NOT_POSSIBLE);
        Doc.due("it stays", x.place(0, 1), 7);
    }

    private static void choose() {
        Doc.at("Promise 9");
        Doc.says("Makes a choice by hand for a place");
        RingGames x = Made.game("00 10 00", "0>0,1,2;1>0,1;2>0");
        Doc.due("choose", x.choose(0, 2), 14);
        Doc.due("its choice", x.place(0, 5), 2);
        Doc.due("no choice of another", x.place(1, 5), NONE);
        Doc.due("choices", x.count(5), 1);
        Doc.due("the arrows stay", x.place(0, 2), 7);

        Doc.says("This is an act");
        Doc.act("choose", ROOMY, y -> y.choose(0, 1), 14);
        Doc.act("taken back", ROOMY, y -> y.choose(1, 14), 2);

        Doc.says("`place`: a place");
        Doc.due("the first", Made.rich().choose(0, 1), 14);
        Doc.due("the last", Made.game("00 00", "1>0").choose(1, 0), 14);
        Doc.beside(0, 3, RICH, (y, place) -> y.choose(place, 1), UNKNOWN);

        Doc.says("`to`: a place to which it has an arrow, or 14: the choice is taken back");
        x = Made.sixty();
        for (int to = 0; to < 14; to++) {
            Doc.due("to " + to, x.choose(0, to), to == 0 ? 14 : to - 1);
        }
        Doc.due("taken back", x.choose(0, 14), 13);
        Doc.due("none", x.place(0, 5), NONE);
        Doc.due("choices", x.count(5), 0);
        Doc.beside(0, 14, RICH, (y, to) -> y.choose(0, to), BAD_VALUE);

        Doc.says("the place that was chosen before, 14 if there was none");
        x = Made.game("00 00", "0>0,1");
        int[][] rows = {{0, 14}, {1, 0}, {0, 1}, {14, 0}, {1, 14}, {14, 1}};
        for (int[] row : rows) {
            Doc.due("to " + row[0], x.choose(0, row[0]), row[1]);
        }
    }

    private static void chooseRefused() {
        Doc.says("UNKNOWN (place)");
        Doc.leaves("no places", Made::bare, x -> x.choose(0, 14), UNKNOWN);
        Doc.leaves("place 4", RICH, x -> x.choose(4, 0), UNKNOWN);
        Doc.leaves("place 14", Made::sixty, x -> x.choose(14, 0), UNKNOWN);
        Doc.leaves("with a bad to", RICH, x -> x.choose(4, -1), UNKNOWN);

        Doc.says("BAD_VALUE (to is not 0 to 14)");
        Doc.leaves("15", RICH, x -> x.choose(3, 15), BAD_VALUE);
        Doc.leaves("-1", RICH, x -> x.choose(3, -1), BAD_VALUE);
        Doc.leaves("32 is not 0", Made::sixty, x -> x.choose(0, 32), BAD_VALUE);

        Doc.says("NOT_POSSIBLE if it has no such arrow");
        Doc.leaves("no arrow there", RICH, x -> x.choose(0, 0), NOT_POSSIBLE);
        Doc.leaves("a place without arrows", RICH, x -> x.choose(3, 0), NOT_POSSIBLE);
        for (int to = 4; to < 14; to++) {
            int there = to;
            Doc.leaves("no such place", RICH, x -> x.choose(0, there), NOT_POSSIBLE);
        }

        Doc.says("NONE if it is so already");
        Doc.leaves("the same", RICH, x -> x.choose(1, 2), NONE);
        Doc.leaves("taken back already", RICH, x -> x.choose(0, 14), NONE);
        Doc.leaves("a place without arrows", RICH, x -> x.choose(3, 14), NONE);
    }

    private static void chooseWell() {
        Doc.at("Promise 10");
        Doc.says("Makes the winning choices of a player the choices by hand for all places");
        RingGames x = Made.game("00 00 11 11 07", "0>1,0;1>1;2>2,0;3>0,2;4>4");
        x.choose(0, 1);
        x.choose(3, 0);
        x.choose(4, 4);
        Doc.due("player 0", x.chooseWell(0), 2);
        int[] choices = {0, 1, NONE, 0, NONE};
        for (int p = 0; p < 5; p++) {
            Doc.due("the choice of " + p, x.place(p, 5), choices[p]);
        }
        Doc.due("player 1", x.chooseWell(1), 2);
        choices = new int[] {0, 1, 2, 2, NONE};
        for (int p = 0; p < 5; p++) {
            Doc.due("the choice of " + p, x.place(p, 5), choices[p]);
        }
        Doc.says("This is an act");
        Doc.act("chooseWell", ROOMY, y -> y.chooseWell(1), 1);
        Doc.act("none has one", ROOMY, y -> y.chooseWell(0), 0);
        Doc.act("no places", Made::bare, y -> y.chooseWell(0), 0);

        Doc.says("`player`: 0 or 1");
        Doc.due("0", Made.game("00", "0>0").chooseWell(0), 1);
        Doc.due("1", Made.game("11", "0>0").chooseWell(1), 1);
        Doc.beside(0, 1, RICH, (y, player) -> y.chooseWell(player), UNKNOWN);

        Doc.says("how many of these have a choice then");
        Doc.due("not those of the other", Made.game("00 12", "0>0;1>1").chooseWell(0), 1);
        Doc.due("won, but the other's", Made.game("12", "0>0").chooseWell(0), 0);
        Doc.due("without arrows", Made.fourteen().chooseWell(0), 0);
        x = Made.fourteen();
        for (int p = 0; p < 14; p++) {
            x.setColour(p, p % 2);
            x.addArrow(p, p);
        }
        Doc.due("seven", x.chooseWell(0), 7);
        Doc.due("and seven", x.chooseWell(1), 7);
        Doc.due("all", x.count(5), 14);
        Doc.says("UNKNOWN");
        Doc.leaves("player 2", RICH, y -> y.chooseWell(2), UNKNOWN);
        Doc.leaves("no places", Made::bare, y -> y.chooseWell(-1), UNKNOWN);
    }

    private static void start() {
        Doc.at("Promise 11");
        Doc.says("Puts the token on a place");
        RingGames x = Made.rich();
        for (int p = 0; p < 4; p++) {
            x.start(p);
            Doc.due("token", x.token(0), p);
            Doc.due("its steps", x.count(6), 0);
        }
        Doc.says("This is an act");
        Doc.act("start", ROOMY, y -> y.start(3), 0);
        Doc.act("start where it is", ROOMY, y -> y.start(1), 1);
        Doc.act("the first", Made.of("00"), y -> y.start(0), 1);

        Doc.says("`place`: a place");
        Doc.due("the first", Made.rich().start(0), 1);
        Doc.due("the last", Made.rich().start(3), 0);
        Doc.beside(0, 3, RICH, (y, place) -> y.start(place), UNKNOWN);
        Doc.beside(0, 13, Made::fourteen, (y, place) -> y.start(place), UNKNOWN);

        Doc.says("the player who wins this place");
        x = Made.game("02 13 00 10", "0>0;1>1");
        int[] winners = {0, 1, 1, 0};
        for (int p = 0; p < 4; p++) {
            Doc.due("the winner of " + p, x.start(p), winners[p]);
        }
        x = Made.game("00 01", "0>0,1;1>1");
        x.choose(0, 1);
        Doc.due("though the choice by hand loses", x.start(0), 0);

        Doc.says("UNKNOWN");
        Doc.leaves("no places", Made::bare, y -> y.start(0), UNKNOWN);
        Doc.leaves("place 4", RICH, y -> y.start(4), UNKNOWN);
    }

    private static void step() {
        Doc.at("Promise 12");
        Doc.says("Steps the token, again and again, or until it cannot go on");
        RingGames x = Made.game("00 10 00 13", "0>1;1>2;2>3");
        x.start(0);
        Doc.due("one", x.step(1), 1);
        Doc.due("until it cannot", x.step(3), 3);
        Doc.due("the steps that it has gone", x.count(6), 3);
        x.start(0);
        Doc.due("just as far as it can", x.step(3), 3);
        Doc.due("the steps that it has gone", x.count(6), 3);
        x = Made.game("00 10 00", "0>1;1>2;2>0");
        x.start(0);
        Doc.due("again and again", x.step(50), 2);
        Doc.due("50 steps", x.count(6), 50);

        Doc.says("This is an act");
        Doc.act("step", ROOMY, y -> y.step(1), 2);
        Doc.act("one act of many steps", ROOMY, y -> y.step(50), 0);

        Doc.says("`steps`: 1 to 50");
        Doc.due("1", Made.roomy().step(1), 2);
        Doc.due("50", Made.roomy().step(50), 0);
        Doc.beside(1, 50, RICH, (y, steps) -> y.step(steps), BAD_VALUE);

        Doc.says("the place at which it is then");
        x = Made.game(Made.CARRY);
        x.start(0);
        Doc.due("after one", x.step(1), 1);
        Doc.due("told", x.token(0), 1);
        Doc.due("after another", x.step(1), 2);
        Doc.due("where it stays", x.step(50), 2);

        Doc.says("BAD_VALUE");
        Doc.leaves("0", RICH, y -> y.step(0), BAD_VALUE);
        Doc.leaves("51", RICH, y -> y.step(51), BAD_VALUE);
        Doc.leaves("0 without a token", Made::bare, y -> y.step(0), BAD_VALUE);
        Doc.leaves("51 that cannot", Made::stuck, y -> y.step(51), BAD_VALUE);
        Doc.says("NOT_POSSIBLE if there is no token, or it cannot go at all");
        Doc.leaves("no places", Made::bare, y -> y.step(50), NOT_POSSIBLE);
        Doc.leaves("no token", Made.of(Made.RING), y -> y.step(1), NOT_POSSIBLE);
        Doc.leaves("no arrow", Made::stuck, y -> y.step(1), NOT_POSSIBLE);
        Doc.leaves("no arrow", Made::stuck, y -> y.step(50), NOT_POSSIBLE);
    }

    private static void type() {
        Doc.at("Promise 13");
        Doc.says("Types a character behind the text");
        RingGames x = Made.game("00 00");
        String text = "0>1,0;1>1,0";
        int[] answers = {-101, -102, 1, -104, 1, -106, -107, -108, 1, -110, 1};
        for (int i = 0; i < text.length(); i++) {
            Doc.due("length", x.type(text.charAt(i)), i + 1);
            Doc.due("'" + text.substring(0, i + 1) + "'", x.readArrows(), answers[i]);
        }
        Doc.says("`character`: any character");
        for (int sign : new int[] {0, 9, 10, 32, 127, 128, 255, 256, 55296, 65279, 65535}) {
            x = Made.game("00");
            Doc.due("the sign " + sign, x.type((char) sign), 1);
            Doc.due("and one behind it", x.type('0'), 2);
            Doc.due("it is a fault", x.readArrows(), -100);
        }
        Doc.says("the length of the text then");
        x = new RingGames();
        for (int i = 1; i <= 60; i++) {
            Doc.due("length", x.type(';'), i);
            Doc.due("length, told", x.count(8), i);
        }
        Doc.says("FULL if it has 60 characters");
        Doc.due("59", Made.typed(Made.bare(), "0".repeat(59)).type('0'), 60);
        for (char sign : new char[] {0, '0', ',', ';', 65535}) {
            Doc.leaves("60", () -> Made.typed(Made.places(11), Made.LONGEST),
                    y -> y.type(sign), FULL);
        }
        x = Made.typed(Made.bare(), "0".repeat(60));
        x.clearText();
        Doc.due("room again", x.type('0'), 1);
    }

    private static void clearText() {
        Doc.at("Promise 14");
        Doc.says("Empties the text");
        RingGames x = Made.typed(Made.game("00 00"), "0>1");
        x.clearText();
        Doc.due("length", x.count(8), 0);
        Doc.due("its fault", x.readArrows(), -100);
        Doc.due("nothing of it is left", x.type('0'), 1);
        Doc.due("nothing of it is left", x.readArrows(), -101);
        Doc.noAct("clearText", RICH, RingGames::clearText, 7);
        Doc.says("the length that it had");
        for (int length = 0; length <= 60; length++) {
            x = Made.typed(Made.bare(), "0".repeat(length));
            Doc.due("length", x.clearText(), length);
            Doc.due("empty", x.clearText(), 0);
        }
        Doc.due("61 were typed", Made.typed(Made.bare(), "0".repeat(61)).clearText(), 60);
    }

    private static void undo() {
        Doc.at("Promise 15");
        Doc.says("Removes and restores the latest state of the history");
        RingGames x = Made.game("02 12", "0>1;1>0");
        String[] told = new String[3];
        x.choose(0, 1);
        told[0] = Told.state(x);
        x.start(0);
        told[1] = Told.state(x);
        x.step(3);
        told[2] = Told.state(x);
        x.turnOver();
        for (int i = 2; i >= 0; i--) {
            Doc.due("undo", x.undo(), i + 1);
            Doc.due("the state", Told.state(x).equals(told[i]) ? 1 : 0, 1);
        }
        Doc.says("the number of states that are left");
        for (int acts = 1; acts <= 6; acts++) {
            x = Made.places(acts);
            for (int left = Math.min(acts, 4) - 1; left >= 0; left--) {
                Doc.due("left", x.undo(), left);
                Doc.due("left, told", x.count(7), left);
            }
        }
        Doc.says("NONE if the history is empty");
        Doc.leaves("at first", Made::bare, RingGames::undo, NONE);
        Doc.leaves("after all", ActEdges::undone, RingGames::undo, NONE);
        Doc.leaves("after no act", () -> Made.typed(Made.bare(), "0>1"), RingGames::undo, NONE);
    }

    private static RingGames undone() {
        RingGames x = Made.rich();
        x.keep();
        while (x.count(7) > 0) {
            x.undo();
        }
        return x;
    }

    private static void keep() {
        Doc.at("Promise 16");
        Doc.says("Takes a snapshot of the state, in place of the one that was");
        RingGames x = Made.rich();
        x.keep();
        String told = Told.state(x);
        Doc.due("it changes nothing that is told",
                told.equals(Told.state(Made.rich())) ? 1 : 0, 1);
        x.setOwner(0, 1);
        x.setColour(2, 7);
        x.removeArrow(1, 2);
        x.addPlace(0, 0);
        x.start(3);
        Doc.due("restore", x.restore(), 4);
        Doc.due("the state", Told.state(x).equals(told) ? 1 : 0, 1);
        x.addPlace(0, 0);
        x.keep();
        x.undo();
        Doc.due("the latest one", x.restore(), 5);
        Doc.noAct("keep", RICH, RingGames::keep, 4);
        Doc.says("the number of places");
        for (int places = 0; places <= 14; places++) {
            Doc.due("keep", Made.places(places).keep(), places);
        }
    }

    private static void restore() {
        Doc.at("Promise 17");
        Doc.says("Restores the state of the snapshot, which stays");
        RingGames x = Made.rich();
        Doc.due("restore", x.restore(), 4);
        Doc.due("no choice", x.count(5), 0);
        Doc.due("no token", x.token(0), NOT_POSSIBLE);
        Doc.due("no steps", x.count(6), 0);
        Doc.due("the colour", x.place(3, 1), 3);
        x.setColour(3, 0);
        x.addPlace(0, 0);
        Doc.due("restore", x.restore(), 4);
        Doc.due("the colour", x.place(3, 1), 3);
        Doc.says("This is an act");
        Doc.act("restore", ROOMY, RingGames::restore, 4);
        Doc.says("the number of places then");
        for (int places = 0; places <= 14; places++) {
            x = Made.places(places);
            x.keep();
            x.addPlace(1, 7);
            Doc.due("restore", x.restore(), places);
            Doc.due("places", x.count(0), places);
        }
        Doc.says("NONE if there is no snapshot");
        Doc.leaves("no places", Made::bare, RingGames::restore, NONE);
        Doc.leaves("places", Made::fourteen, RingGames::restore, NONE);
        Doc.leaves("a history", Made.of(Made.RING), RingGames::restore, NONE);
    }
}
