/** For each promise of the document: ordinary inputs, its edges, wrong inputs; worked out by hand. */
public final class PromiseTests {
    private static final int UNKNOWN = -1;
    private static final int BAD_VALUE = -2;
    private static final int FULL = -3;
    private static final int NOT_POSSIBLE = -4;
    private static final int NONE = -5;
    private static final int[] FAR = {
        Integer.MIN_VALUE, Integer.MIN_VALUE + 1, -33, -32, -6, -1, 14, 15, 31, 32, 33, 64, 1 << 30,
        Integer.MAX_VALUE,
    };
    private static final String[] RING = Made.RING;
    private static final String[] CARRY = Made.CARRY;

    private static int wrong = 0;
    private static int promise = 0;
    private static int checks = 0;

    public static void main(String[] args) {
        newObject();
        addPlace();
        setOwner();
        setColour();
        addArrow();
        removeArrow();
        readArrows();
        faults();
        fullArrows();
        turnOver();
        choose();
        chooseWell();
        start();
        step();
        type();
        clearText();
        undo();
        keep();
        restore();
        place();
        wins();
        winningChoice();
        measure();
        rounds();
        forced();
        rank();
        trap();
        judged();
        badRings();
        pivots();
        weakArrows();
        token();
        count();
        judgedAfterChooseWell();
        winnersByAllChoices();
        System.out.println(checks + " checks, " + wrong + " not as due");
        if (wrong != 0) {
            System.exit(1);
        }
    }

    private static void due(String call, int got, int want) {
        checks++;
        if (got != want) {
            wrong++;
            System.out.println("promise " + promise + ": " + call + " is " + got + ", due is " + want);
        }
    }

    private static RingGames game(String... parts) {
        return Made.game(parts);
    }

    private static int read(RingGames x, String text) {
        return Made.read(x, text);
    }

    private static void newObject() {
        promise = 1;
        RingGames other = game(RING);
        RingGames x = new RingGames();
        int[] counts = {0, 0, 0, 0, NONE, 0, 0, 0, 0};
        for (int what = 0; what < counts.length; what++) {
            due("count " + what, x.count(what), counts[what]);
        }
        due("place", x.place(0, 0), UNKNOWN);
        due("wins 0", x.wins(0), 0);
        due("wins 1", x.wins(1), 0);
        due("rounds 0", x.rounds(0), 1);
        due("rounds 1", x.rounds(1), 1);
        due("forced", x.forced(0, 0), 0);
        due("forced of a place", x.forced(0, 1), BAD_VALUE);
        due("token", x.token(0), NOT_POSSIBLE);
        due("step", x.step(1), NOT_POSSIBLE);
        due("undo", x.undo(), NONE);
        due("restore", x.restore(), NONE);
        due("readArrows", x.readArrows(), -100);
        due("the other object", other.count(0), 3);
        due("turnOver", x.turnOver(), 0);
        due("chooseWell", x.chooseWell(0), 0);
        due("keep", x.keep(), 0);
        due("states", x.count(7), 2);
    }

    private static void addPlace() {
        promise = 2;
        RingGames x = new RingGames();
        for (int i = 0; i < 14; i++) {
            due("addPlace", x.addPlace(i % 2, i % 8), i);
            due("owner", x.place(i, 0), i % 2);
            due("colour", x.place(i, 1), i % 8);
            due("arrows", x.place(i, 2), 0);
            due("choice", x.place(i, 5), NONE);
        }
        due("a fifteenth", x.addPlace(0, 0), FULL);
        due("bad owner comes first", x.addPlace(2, 0), BAD_VALUE);
        due("bad colour comes first", x.addPlace(0, 8), BAD_VALUE);
        due("places", x.count(0), 14);
        due("undo", x.undo(), 3);
        due("places", x.count(0), 13);
        due("again", x.addPlace(1, 7), 13);
        x = new RingGames();
        for (int value : FAR) {
            due("owner " + value, x.addPlace(value, 0), BAD_VALUE);
            due("colour " + value, x.addPlace(0, value), BAD_VALUE);
        }
        due("owner 2", x.addPlace(2, 0), BAD_VALUE);
        due("colour 8", x.addPlace(0, 8), BAD_VALUE);
        due("states", x.count(7), 0);
        due("places", x.count(0), 0);
        // A place that takes the number of one that undo took away has nothing of it.
        x = game("00 00", "1>0");
        x.choose(1, 0);
        x.undo();
        x.undo();
        x.undo();
        due("place 1 is gone", x.place(1, 2), UNKNOWN);
        due("new", x.addPlace(1, 3), 1);
        due("its arrows", x.place(1, 2), 0);
        due("its choice", x.place(1, 5), NONE);
    }

    private static void setOwner() {
        promise = 3;
        RingGames x = game(RING);
        due("so already", x.setOwner(0, 0), NONE);
        due("states", x.count(7), 4);
        due("place 1 to 0", x.setOwner(1, 0), 7);
        due("owner", x.place(1, 0), 0);
        due("place 1 to 1", x.setOwner(1, 1), 0);
        due("undo", x.undo(), 3);
        due("owner", x.place(1, 0), 0);
        due("no such place", x.setOwner(3, 0), UNKNOWN);
        due("place comes first", x.setOwner(3, 2), UNKNOWN);
        due("owner 2", x.setOwner(0, 2), BAD_VALUE);
        for (int value : FAR) {
            due("place " + value, x.setOwner(value, 1), UNKNOWN);
            due("owner " + value, x.setOwner(0, value), BAD_VALUE);
        }
        due("states", x.count(7), 3);
        x = game("00 10");
        due("a place without arrows", x.setOwner(0, 1), 3);
        due("the other one", x.setOwner(1, 0), 1);
    }

    private static void setColour() {
        promise = 4;
        RingGames x = game("05 13", "0>0");
        due("0", x.setColour(0, 0), 5);
        due("colour", x.place(0, 1), 0);
        due("7", x.setColour(0, 7), 0);
        due("so already", x.setColour(0, 7), NONE);
        due("states", x.count(7), 4);
        due("undo", x.undo(), 3);
        due("colour", x.place(0, 1), 0);
        due("wins", x.wins(0), 3);
        due("to 1", x.setColour(0, 1), 0);
        due("wins", x.wins(0), 2);
        due("the other", x.place(1, 1), 3);
        due("8", x.setColour(0, 8), BAD_VALUE);
        due("no such place", x.setColour(2, 0), UNKNOWN);
        due("place comes first", x.setColour(2, 8), UNKNOWN);
        for (int value : FAR) {
            due("place " + value, x.setColour(value, 1), UNKNOWN);
            due("colour " + value, x.setColour(0, value), BAD_VALUE);
        }
    }

    private static void addArrow() {
        promise = 5;
        RingGames x = game("00 11 02");
        due("to itself", x.addArrow(0, 0), 1);
        due("a second", x.addArrow(0, 2), 2);
        due("there already", x.addArrow(0, 2), NONE);
        due("states", x.count(7), 4);
        due("from another", x.addArrow(2, 0), 1);
        due("arrows of 0", x.place(0, 2), 5);
        due("arrows of 2", x.place(2, 2), 1);
        due("undo", x.undo(), 3);
        due("arrows of 2", x.place(2, 2), 0);
        due("from 3", x.addArrow(3, 0), UNKNOWN);
        due("to 3", x.addArrow(0, 3), UNKNOWN);
        for (int value : FAR) {
            due("from " + value, x.addArrow(value, 0), UNKNOWN);
            due("to " + value, x.addArrow(0, value), UNKNOWN);
        }
        due("arrows", x.count(1), 2);
    }

    private static void removeArrow() {
        promise = 6;
        RingGames x = game("00 11 02", "0>0,1,2;1>0,2");
        x.choose(0, 1);
        x.choose(1, 2);
        due("another than the chosen one", x.removeArrow(0, 2), 2);
        due("choice", x.place(0, 5), 1);
        due("the chosen one", x.removeArrow(0, 1), 1);
        due("choice", x.place(0, 5), NONE);
        due("choice of another place", x.place(1, 5), 2);
        due("not there", x.removeArrow(0, 1), NONE);
        due("the other way", x.removeArrow(2, 1), NONE);
        due("states", x.count(7), 4);
        due("undo", x.undo(), 3);
        due("choice is back", x.place(0, 5), 1);
        due("arrows are back", x.place(0, 2), 3);
        due("once more", x.removeArrow(0, 1), 1);
        due("the last", x.removeArrow(0, 0), 0);
        due("arrows of 1", x.place(1, 2), 5);
        due("from 3", x.removeArrow(3, 0), UNKNOWN);
        due("to 3", x.removeArrow(1, 3), UNKNOWN);
        for (int value : FAR) {
            due("from " + value, x.removeArrow(value, 0), UNKNOWN);
            due("to " + value, x.removeArrow(1, value), UNKNOWN);
        }
        due("added again has no choice", x.addArrow(0, 1), 1);
        due("choice", x.place(0, 5), NONE);
    }

    private static void readArrows() {
        promise = 7;
        RingGames x = game("00 11 02", "0>1");
        due("three, one is there", read(x, "0>1,2;2>0,0;0>2"), 2);
        due("length", x.count(8), 15);
        due("arrows of 0", x.place(0, 2), 6);
        due("arrows of 1", x.place(1, 2), 0);
        due("arrows of 2", x.place(2, 2), 1);
        due("states", x.count(7), 4);
        due("again, none comes", x.readArrows(), 0);
        due("undo of that", x.undo(), 3);
        due("arrows", x.count(1), 3);
        due("undo of all", x.undo(), 2);
        due("arrows", x.count(1), 1);
        due("the text stays", x.readArrows(), 2);
        x.choose(0, 2);
        due("a choice stays", read(x, "0>0"), 1);
        due("choice", x.place(0, 5), 2);
        due("no place 3, from", read(x, "3>0"), UNKNOWN);
        due("no place 3, to", read(x, "0>3"), UNKNOWN);
        due("no place 3, late", read(x, "1>1;1>2,3"), UNKNOWN);
        due("no place 12", read(x, "1>1;12>0"), UNKNOWN);
        due("nothing came", x.place(1, 2), 0);
        due("a fault comes before it", read(x, "99>1;"), -105);
        due("empty", read(x, ""), -100);
        x = game("00 00 00 00 00 00 00 00 00 00 00 00 00 00");
        due("two digits", read(x, "10>13,1,3,0,11;13>9"), 6);
        due("arrows of 10", x.place(10, 2), 1 << 13 | 1 << 1 | 1 << 3 | 1 | 1 << 11);
        due("arrows of 13", x.place(13, 2), 1 << 9);
        due("place 14", read(x, "14>0"), UNKNOWN);
        due("place 99", read(x, "0>99"), UNKNOWN);
    }

    private static void faults() {
        promise = 7;
        Object[][] rows = {
            {"", 0}, {"0", 1}, {"10", 2}, {"100", 2}, {"00", 1}, {"01>1", 1}, {"0>", 2}, {"0>1,", 4},
            {"0>1;", 4}, {"0>1;1", 5}, {"0>1;1>", 6}, {"0>01", 3}, {"0>100", 4}, {"0>1,01", 5},
            {">0", 0}, {",", 0}, {";0>1", 0}, {"x", 0}, {" 0>1", 0}, {"0 >1", 1}, {"0>1 ", 3},
            {"0>>1", 2}, {"0>1>2", 3}, {"0>1;;1>0", 4}, {"0>1,;", 4}, {"0>1,,2", 4}, {"0>;", 2},
            {"0>,1", 2}, {"0,1>2", 1}, {"0;1>2", 1}, {"0>1;1,2", 5}, {"0>1;1;", 5}, {"0-1", 1},
            {"0>1.", 3}, {"0>1:1>0", 3}, {"0>/", 2}, {"0>1/", 3}, {"0>1<", 3}, {"0<1", 1},
            {"0>10,", 5}, {"0>10;", 5}, {"12>", 3}, {"0>1,2,3,4;5>6,07", 15}, {"0>\u00001", 2},
            {"0>\u06601", 2}, {"\uffff", 0}, {"0\uff1e1", 1}, {"0>1\uff0c", 3}, {"0>1\u012c1", 3},
            {"0>1\n", 3}, {"0>99;99>0;x", 10}, {"00>0", 1}, {"0>00", 3}, {"0>1,10,100", 9},
        };
        for (Object[] row : rows) {
            RingGames x = game("00 00");
            due("'" + row[0] + "'", read(x, (String) row[0]), -100 - (int) row[1]);
            due("states", x.count(7), 2);
            due("arrows", x.count(1), 0);
        }
        String full = "0>0;0>0;0>0;0>0;0>0;0>0;0>0;0>0;0>0;0>0;0>0;0>0;0>0;0>0;0>0;";
        due("60 characters, too early", read(game("00"), full), -160);
        due("59 characters", read(game("00"), full.substring(0, 59)), 1);
        due("60 characters", read(game("00"), full.substring(0, 58) + "10"), UNKNOWN);
    }

    private static void fullArrows() {
        promise = 5;
        RingGames x = Made.sixty();
        due("arrows", x.count(1), 60);
        due("one more", x.addArrow(5, 0), FULL);
        due("full comes before there already", x.addArrow(0, 0), FULL);
        due("unknown comes first", x.addArrow(14, 0), UNKNOWN);
        due("states", x.count(7), 4);
        promise = 7;
        due("one that is there", read(x, "0>0,1,2,3"), 0);
        due("one more", read(x, "0>0;5>0"), FULL);
        due("unknown comes first", read(x, "5>0;14>0"), UNKNOWN);
        due("a fault comes first", read(x, "5>0;14>0;"), -109);
        due("arrows", x.count(1), 60);
        promise = 6;
        due("remove", x.removeArrow(0, 13), 13);
        due("remove", x.removeArrow(0, 12), 12);
        promise = 7;
        due("three for two", read(x, "5>0,1,2"), FULL);
        due("two, told twice", read(x, "5>0,1,0,1;5>0;1>1"), 2);
        due("arrows", x.count(1), 60);
        promise = 5;
        due("undo", x.undo() >= 0 ? x.count(1) : -1, 58);
        due("room for the 59th", x.addArrow(0, 12), 13);
        due("room for the 60th", x.addArrow(0, 13), 14);
        due("no room", x.addArrow(6, 0), FULL);
    }

    private static void turnOver() {
        promise = 8;
        RingGames x = game("01 12 00", "0>1;1>0,2;2>0");
        x.choose(1, 0);
        x.start(1);
        due("turnOver", x.turnOver(), 0);
        int[][] due = {{1, 2}, {0, 3}, {1, 1}};
        for (int p = 0; p < 3; p++) {
            due("owner", x.place(p, 0), due[p][0]);
            due("colour", x.place(p, 1), due[p][1]);
        }
        due("wins 0", x.wins(0), 7);
        due("a choice stays", x.place(1, 5), 0);
        due("the token stays", x.token(0), 1);
        due("the arrows stay", x.place(1, 2), 5);
        due("undo", x.undo(), 3);
        due("owner", x.place(1, 0), 1);
        due("colour", x.place(1, 1), 2);
        x = game("06 10", "0>0");
        due("from 6 to 7", x.turnOver(), 3);
        due("colour 7", x.place(0, 1), 7);
        due("no more", x.turnOver(), NOT_POSSIBLE);
        due("states", x.count(7), 4);
        due("colour of the other", x.place(1, 1), 1);
        due("only the last has 7", game("00 00 17").turnOver(), NOT_POSSIBLE);
        due("only the first has 7", game("07 00 00").turnOver(), NOT_POSSIBLE);
    }

    private static void choose() {
        promise = 9;
        RingGames x = game("00 11 02", "0>1,2;1>1");
        due("first", x.choose(0, 1), 14);
        due("another", x.choose(0, 2), 1);
        due("so already", x.choose(0, 2), NONE);
        due("no arrow", x.choose(0, 0), NOT_POSSIBLE);
        due("no place, but 0 to 14", x.choose(0, 3), NOT_POSSIBLE);
        due("13", x.choose(0, 13), NOT_POSSIBLE);
        due("of another", x.choose(1, 1), 14);
        due("choices", x.count(5), 2);
        due("taken back", x.choose(0, 14), 2);
        due("none", x.place(0, 5), NONE);
        due("taken back already", x.choose(0, 14), NONE);
        due("a place without arrows", x.choose(2, 14), NONE);
        due("choices", x.count(5), 1);
        due("undo", x.undo(), 3);
        due("choice", x.place(0, 5), 2);
        due("15", x.choose(0, 15), BAD_VALUE);
        due("-1", x.choose(0, -1), BAD_VALUE);
        due("no place", x.choose(3, 1), UNKNOWN);
        due("place comes first", x.choose(3, 15), UNKNOWN);
        for (int value : FAR) {
            due("place " + value, x.choose(value, 1), UNKNOWN);
            due("to " + value, x.choose(0, value), value == 14 ? 2 : BAD_VALUE);
        }
        x = game("00 11", "0>0,1");
        x.choose(0, 1);
        x.setOwner(0, 1);
        x.setColour(0, 5);
        due("it stays", x.place(0, 5), 1);
    }

    private static void chooseWell() {
        promise = 10;
        RingGames x = game("00 00 11 11 07", "0>1,0;1>1;2>2,0;3>0,2;4>4");
        x.choose(0, 1);
        x.choose(3, 0);
        x.choose(4, 4);
        due("player 0", x.chooseWell(0), 2);
        due("0", x.place(0, 5), 0);
        due("1", x.place(1, 5), 1);
        due("2", x.place(2, 5), NONE);
        due("3 is not his", x.place(3, 5), 0);
        due("4 is not won", x.place(4, 5), NONE);
        due("player 1", x.chooseWell(1), 2);
        due("2", x.place(2, 5), 2);
        due("3", x.place(3, 5), 2);
        due("choices", x.count(5), 4);
        due("it records though all is so", x.chooseWell(1), 2);
        due("undo", x.undo(), 3);
        due("undo", x.undo(), 2);
        due("undo", x.undo(), 1);
        due("4 is back", x.place(4, 5), 4);
        due("0 is back", x.place(0, 5), 1);
        due("2", x.chooseWell(2), UNKNOWN);
        for (int value : FAR) {
            due("player " + value, x.chooseWell(value), UNKNOWN);
        }
        due("states", x.count(7), 1);
    }

    private static void start() {
        promise = 11;
        RingGames x = game("00 01 11", "0>0;1>1;2>2,0");
        due("0", x.start(0), 0);
        due("1", x.start(1), 1);
        due("token", x.token(0), 1);
        due("2", x.start(2), 1);
        due("states", x.count(7), 4);
        due("steps", x.step(3), 2);
        due("steps", x.count(6), 3);
        due("put again", x.start(2), 1);
        due("steps", x.count(6), 0);
        due("undo", x.undo(), 3);
        due("steps", x.count(6), 3);
        due("3", x.start(3), UNKNOWN);
        for (int value : FAR) {
            due("place " + value, x.start(value), UNKNOWN);
        }
        due("token", x.token(0), 2);
        x.undo();
        x.undo();
        due("token", x.token(0), 1);
        due("a place without arrows", game("00").start(0), 1);
        due("a place without arrows", game("11").start(0), 0);
        x = game("00");
        x.start(0);
        x.undo();
        due("no token", x.token(0), NOT_POSSIBLE);
    }

    private static void step() {
        promise = 12;
        RingGames x = game(CARRY);
        due("no token", x.step(1), NOT_POSSIBLE);
        due("0 without a token", x.step(0), BAD_VALUE);
        x.start(0);
        due("by the winning choice, not the lowest", x.step(1), 1);
        due("on", x.step(1), 2);
        due("on and on", x.step(50), 2);
        due("steps", x.count(6), 52);
        x.start(0);
        x.choose(0, 0);
        due("by hand", x.step(7), 0);
        due("steps", x.count(6), 7);
        due("undo", x.undo(), 3);
        due("steps", x.count(6), 0);
        x = game("01 12 13", "0>1,2;1>2");
        x.start(0);
        due("by the lowest, and until it cannot", x.step(50), 2);
        due("steps", x.count(6), 2);
        due("states", x.count(7), 4);
        due("not at all", x.step(1), NOT_POSSIBLE);
        due("token", x.token(0), 2);
        x = game(RING);
        x.start(0);
        due("by the winning choice of player 1", x.step(2), 0);
        x.setColour(0, 2);
        due("by the lowest place", x.step(3), 1);
        due("steps", x.count(6), 5);
        for (int value : FAR) {
            boolean good = value >= 1 && value <= 50;
            due("steps " + value, good ? BAD_VALUE : x.step(value), BAD_VALUE);
        }
        due("0", x.step(0), BAD_VALUE);
        due("51", x.step(51), BAD_VALUE);
        due("a step of one", x.step(1), 0);
        // A choice by hand stays when the owner becomes another.
        x = game("00 10 01", "0>1,2;1>0;2>0");
        x.choose(0, 2);
        x.setOwner(0, 1);
        x.start(0);
        due("by hand", x.step(1), 2);
    }

    private static void type() {
        promise = 13;
        RingGames x = game("00");
        for (int i = 1; i <= 60; i++) {
            due("type", x.type((char) (i == 1 ? 0 : i == 2 ? 65535 : i + 200)), i);
        }
        due("one more", x.type('0'), FULL);
        due("length", x.count(8), 60);
        due("no act", x.count(7), 1);
        due("the first one stays", x.readArrows(), -100);
    }

    private static void clearText() {
        promise = 14;
        RingGames x = game("00");
        due("empty", x.clearText(), 0);
        due("read", read(x, "0>0"), 1);
        due("length", x.clearText(), 3);
        due("length", x.count(8), 0);
        due("empty", x.clearText(), 0);
        due("read", x.readArrows(), -100);
        due("no act", x.count(7), 2);
        due("shorter than before", read(x, "0"), -101);
        x.undo();
        due("not undone", x.count(8), 1);
    }

    private static void undo() {
        promise = 15;
        RingGames x = game("00 01");
        due("1 is left", x.undo(), 1);
        due("places", x.count(0), 1);
        due("0 is left", x.undo(), 0);
        due("places", x.count(0), 0);
        due("none", x.undo(), NONE);
        for (int i = 0; i < 6; i++) {
            x.addPlace(0, i);
        }
        due("states", x.count(7), 4);
        for (int i = 3; i >= 0; i--) {
            due("left", x.undo(), i);
            due("places", x.count(0), i + 2);
        }
        due("the oldest are dropped", x.undo(), NONE);
        due("places", x.count(0), 2);
        x = game(RING);
        x.keep();
        x.undo();
        due("the snapshot stays", x.restore(), 3);
        due("arrows", x.count(1), 4);
        x.undo();
        due("undo of restore", x.count(1), 3);
    }

    private static void keep() {
        promise = 16;
        RingGames x = game("00 01", "0>1");
        x.choose(0, 1);
        x.start(0);
        x.step(1);
        due("keep", x.keep(), 2);
        due("no act", x.count(7), 4);
        x.addPlace(0, 0);
        due("another", x.keep(), 3);
        x.addPlace(0, 0);
        due("the latest one", x.restore(), 3);
        due("it has not changed", x.setColour(0, 5), 0);
        due("restore", x.restore(), 3);
        due("colour", x.place(0, 1), 0);
        due("choice", x.place(0, 5), 1);
        due("token", x.token(0), 1);
        due("steps", x.count(6), 1);
    }

    private static void restore() {
        promise = 17;
        RingGames x = game("00 01", "0>1");
        due("none", x.restore(), NONE);
        due("no act", x.count(7), 3);
        x.keep();
        x.choose(0, 1);
        x.start(1);
        x.setOwner(0, 1);
        read(x, "1>1");
        due("restore", x.restore(), 2);
        due("states", x.count(7), 4);
        due("owner", x.place(0, 0), 0);
        due("choice", x.place(0, 5), NONE);
        due("token", x.token(0), NOT_POSSIBLE);
        due("arrows", x.count(1), 1);
        due("the text stays", x.count(8), 3);
        due("undo", x.undo(), 3);
        due("owner", x.place(0, 0), 1);
        due("token", x.token(0), 1);
        due("again", x.restore(), 2);
        due("and again", x.restore(), 2);
        RingGames empty = new RingGames();
        empty.keep();
        empty.addPlace(0, 0);
        due("of no places", empty.restore(), 0);
        due("states", empty.count(7), 2);
    }

    private static void place() {
        promise = 18;
        RingGames x = game(RING);
        int[][] rows = {{0, 1, 2, 6, 1, NONE}, {1, 2, 5, 1, 1, 2}, {0, 0, 1, 2, 1, NONE}};
        x.choose(1, 2);
        for (int p = 0; p < 3; p++) {
            for (int what = 0; what < 6; what++) {
                due("place " + p + " " + what, x.place(p, what), rows[p][what]);
            }
        }
        x.setOwner(1, 0);
        due("who wins", x.place(1, 4), 0);
        due("what 6", x.place(0, 6), BAD_VALUE);
        due("place 3", x.place(3, 0), UNKNOWN);
        due("place comes first", x.place(3, 6), UNKNOWN);
        for (int value : FAR) {
            due("place " + value, x.place(value, 0), UNKNOWN);
            due("what " + value, x.place(0, value), BAD_VALUE);
        }
        due("no act", x.count(7), 4);
        x = game("00", "0>0");
        due("its own arrow", x.place(0, 3), 1);
    }

    private static void wins() {
        promise = 19;
        due("ring 0", game(RING).wins(0), 0);
        due("ring 1", game(RING).wins(1), 7);
        due("without arrows 0", game("00 10 01 11").wins(0), 10);
        due("without arrows 1", game("00 10 01 11").wins(1), 5);
        String[] mixed = {"02 13 01 10 04", "0>1,3;1>1,2;2>2,3;3>4;4>3,2"};
        due("mixed 0", game(mixed).wins(0), 29);
        due("mixed 1", game(mixed).wins(1), 2);
        for (int colour = 0; colour < 8; colour++) {
            for (int owner = 0; owner < 2; owner++) {
                RingGames x = game("" + owner + colour, "0>0");
                due("a ring of " + colour, x.wins(0), colour % 2 == 0 ? 1 : 0);
                due("a ring of " + colour, x.wins(1), colour % 2);
            }
        }
        due("choices by hand do not matter", byHand().wins(0), 7);
        for (int value : FAR) {
            due("player " + value, game(RING).wins(value), UNKNOWN);
        }
        due("player 2", game(RING).wins(2), UNKNOWN);
    }

    private static RingGames byHand() {
        RingGames x = game(CARRY);
        x.choose(0, 0);
        return x;
    }

    private static void winningChoice() {
        promise = 20;
        due("not the lowest", game(CARRY).winningChoice(0), 1);
        due("by hand does not matter", byHand().winningChoice(0), 1);
        due("lost", game(RING).winningChoice(0), NONE);
        due("of player 1", game(RING).winningChoice(1), 0);
        due("without arrows", game("10").winningChoice(0), NONE);
        due("without arrows", game("00").winningChoice(0), NONE);
        due("owner 1, won by 0", game("10", "0>0").winningChoice(0), NONE);
        due("the lowest of equals", game("00 00 00", "0>2,1;1>1;2>2").winningChoice(0), 1);
        due("wanted, not had", game("00 01 00", "0>1,2;1>0;2>2").winningChoice(0), 1);
        due("the lesser measure", game("02 01 02", "0>1,2;1>2;2>2").winningChoice(0), 2);
        due("player 1, the lesser", game("11 10 11", "0>1,2;1>0;2>2").winningChoice(0), 2);
        due("itself", game("00", "0>0").winningChoice(0), 0);
        due("place 3", game(RING).winningChoice(3), UNKNOWN);
        for (int value : FAR) {
            due("place " + value, game(RING).winningChoice(value), UNKNOWN);
        }
    }

    private static void measure() {
        promise = 21;
        measures(game(CARRY), 0, new int[][] {{1, 1, 0, 0}, {1, 0, 0, 0}, {0, 0, 0, 0}});
        measures(game(CARRY), 1, new int[][] {null, null, null});
        measures(game(RING), 0, new int[][] {null, null, null});
        measures(game(RING), 1, new int[][] {{0, 0, 0, 0}, {0, 1, 0, 0}, {1, 0, 0, 0}});
        // A way through all odd colours; the even place 5 keeps the numbers up to its colour.
        RingGames way = game("00 01 03 05 07 04", "0>0;1>0;2>1;3>2;4>3;5>4");
        measures(way, 0, new int[][] {
            {0, 0, 0, 0}, {1, 0, 0, 0}, {1, 1, 0, 0}, {1, 1, 1, 0}, {1, 1, 1, 1}, {1, 1, 0, 0}});
        // Two places of each colour on a way count up to two.
        RingGames two = game("00 05 05 03 03 01 01", "0>0;1>0;2>1;3>2;4>3;5>4;6>5");
        measures(two, 0, new int[][] {
            {0, 0, 0, 0}, {0, 0, 1, 0}, {0, 0, 2, 0}, {0, 1, 0, 0}, {0, 2, 0, 0}, {1, 0, 0, 0},
            {2, 0, 0, 0}});
        RingGames eighth = game("17 16", "0>0;1>1");
        measures(eighth, 1, new int[][] {{0, 0, 0, 0}, null});
        RingGames x = game(CARRY);
        for (int colour : new int[] {0, 2, 4, 6, 8, 9}) {
            due("colour " + colour, x.measure(0, 0, colour), BAD_VALUE);
        }
        due("bad value comes before none", x.measure(1, 0, 2), BAD_VALUE);
        due("player 2", x.measure(2, 0, 1), UNKNOWN);
        due("place 3", x.measure(0, 3, 1), UNKNOWN);
        due("unknown comes first", x.measure(0, 3, 2), UNKNOWN);
        for (int value : FAR) {
            due("player " + value, x.measure(value, 0, 1), UNKNOWN);
            due("place " + value, x.measure(0, value, 1), UNKNOWN);
            due("colour " + value, x.measure(0, 0, value), BAD_VALUE);
        }
    }

    private static void measures(RingGames x, int player, int[][] rows) {
        for (int p = 0; p < rows.length; p++) {
            for (int i = 0; i < 4; i++) {
                int want = rows[p] == null ? NONE : rows[p][i];
                due("measure " + player + " " + p + " " + (2 * i + 1),
                        x.measure(player, p, 2 * i + 1), want);
            }
        }
    }

    private static void rounds() {
        promise = 22;
        due("carry 0", game(CARRY).rounds(0), 4);
        due("carry 1", game(CARRY).rounds(1), 5);
        due("ring 0", game(RING).rounds(0), 3);
        due("ring 1", game(RING).rounds(1), 2);
        // Lower places see what higher ones got a round later, higher ones in the same round.
        due("a ring", game("11 00 00 00", "1>0;2>1;3>2;0>3").rounds(0), 2);
        due("a ring", game("11 00 00 00", "1>0;2>1;3>2;0>3").rounds(1), 4);
        due("in one round", game("01 00 12 12", "0>1;1>1;2>0;3>2").rounds(0), 2);
        due("in three rounds", game("12 12 01 00", "0>1;1>2;2>3;3>3").rounds(0), 4);
        due("two of a colour", game("01 01", "0>0").rounds(0), 4);
        due("none rises", game("10", "0>0").rounds(0), 1);
        due("player 2", game(RING).rounds(2), UNKNOWN);
        for (int value : FAR) {
            due("player " + value, game(RING).rounds(value), UNKNOWN);
        }
    }

    private static void forced() {
        promise = 23;
        RingGames x = game(RING);
        due("0 for 4", x.forced(0, 4), 4);
        due("1 for 4", x.forced(1, 4), 7);
        due("0 for 1", x.forced(0, 1), 7);
        due("1 for 2", x.forced(1, 2), 7);
        due("nothing", x.forced(0, 0), 0);
        due("all", x.forced(1, 7), 7);
        due("without arrows", game("00 10 00", "0>2").forced(0, 4), 5);
        due("without arrows", game("00 10 00", "0>2").forced(1, 4), 5);
        x.choose(1, 0);
        due("choices by hand do not matter", x.forced(1, 4), 7);
        due("player 2", x.forced(2, 0), UNKNOWN);
        due("player comes first", x.forced(2, 8), UNKNOWN);
        due("place 3", x.forced(0, 8), BAD_VALUE);
        due("places 0 and 13", x.forced(0, 1 | 1 << 13), BAD_VALUE);
        due("negative", x.forced(0, -1), BAD_VALUE);
        due("negative", x.forced(0, Integer.MIN_VALUE | 7), BAD_VALUE);
        for (int value : FAR) {
            due("player " + value, x.forced(value, 1), UNKNOWN);
            due("set " + value, x.forced(0, value), BAD_VALUE);
        }
        RingGames full = Made.sixty();
        due("all of 14", full.forced(0, (1 << 14) - 1), (1 << 14) - 1);
        due("one more than 14", full.forced(0, 1 << 14), BAD_VALUE);
    }

    private static void rank() {
        promise = 24;
        RingGames chain = game("00 10 00 10 00", "1>0;2>1;3>2,0;4>4");
        for (int p = 0; p < 4; p++) {
            due("chain " + p, chain.rank(0, 1, p), p);
        }
        due("not in it", chain.rank(0, 1, 4), NONE);
        due("player 1", chain.rank(1, 1, 3), 1);
        due("of the set", chain.rank(0, 9, 3), 0);
        due("nothing", chain.rank(0, 0, 0), NONE);
        RingGames x = game(RING);
        due("1 for 4", x.rank(1, 4, 0), 2);
        due("1 for 4", x.rank(1, 4, 1), 1);
        due("0 for 1", x.rank(0, 1, 1), 2);
        RingGames longest = game("00 00 00 00 00 00 00 00 00 00 00 00 00 00",
                "1>0;2>1;3>2;4>3;5>4;6>5;7>6;8>7;9>8;10>9;11>10;12>11;13>12");
        due("the greatest rank", longest.rank(1, 1, 13), 13);
        due("player 2", x.rank(2, 1, 0), UNKNOWN);
        due("place 3", x.rank(0, 1, 3), UNKNOWN);
        due("unknown comes first", x.rank(0, 8, 3), UNKNOWN);
        due("place 3 in the set", x.rank(0, 8, 0), BAD_VALUE);
        for (int value : FAR) {
            due("player " + value, x.rank(value, 1, 0), UNKNOWN);
            due("set " + value, x.rank(0, value, 0), BAD_VALUE);
            due("place " + value, x.rank(0, 1, value), UNKNOWN);
        }
    }

    private static void trap() {
        promise = 25;
        RingGames x = game(RING);
        int[][] rows = {{1, 1}, {0, 0}, {0, 0}, {1, 0}, {0, 0}, {0, 0}, {0, 0}, {1, 1}};
        for (int set = 0; set < 8; set++) {
            due("0 in " + set, x.trap(0, set), rows[set][0]);
            due("1 in " + set, x.trap(1, set), rows[set][1]);
        }
        due("own without arrows", game("00").trap(0, 1), 1);
        due("other's without arrows", game("00").trap(1, 1), 0);
        x.choose(1, 0);
        due("choices by hand do not matter", x.trap(1, 3), 0);
        due("player 2", x.trap(2, 0), UNKNOWN);
        due("player comes first", x.trap(2, 8), UNKNOWN);
        due("place 3", x.trap(0, 8), BAD_VALUE);
        for (int value : FAR) {
            due("player " + value, x.trap(value, 1), UNKNOWN);
            due("set " + value, x.trap(0, value), BAD_VALUE);
        }
    }

    private static void judged() {
        promise = 26;
        RingGames x = game(RING);
        for (int p = 0; p < 3; p++) {
            due("0 at " + p, x.judged(0, p), 0);
            due("1 at " + p, x.judged(1, p), 0);
        }
        x.choose(1, 0);
        for (int p = 0; p < 3; p++) {
            due("0 at " + p, x.judged(0, p), 0);
            due("1 at " + p, x.judged(1, p), 1);
        }
        x.choose(1, 2);
        due("a bad choice", x.judged(1, 0), 0);
        due("the other's choice does not bind", x.judged(0, 0), 0);
        x.setOwner(1, 0);
        due("the choice of the new owner", x.judged(0, 0), 1);
        x = game("00 00 10", "0>1,2;2>2");
        due("to a place without arrows", x.judged(0, 0), 0);
        due("another's place", x.judged(0, 2), 1);
        due("itself without arrows", x.judged(0, 1), 0);
        due("for the other it is fine", x.judged(1, 1), 1);
        x.choose(0, 2);
        due("not there", x.judged(0, 0), 1);
        due("the bad ring of the other", x.judged(1, 0), 0);
        x = game("00 01 11", "0>1;1>0;2>0");
        due("a ring whose least is even", x.judged(0, 2), 1);
        due("player 2", x.judged(2, 0), UNKNOWN);
        due("place 3", x.judged(0, 3), UNKNOWN);
        for (int value : FAR) {
            due("player " + value, x.judged(value, 0), UNKNOWN);
            due("place " + value, x.judged(0, value), UNKNOWN);
        }
    }

    private static void badRings() {
        promise = 27;
        rings(game(RING), 0, 3, 1, 2);
        rings(game(RING), 1, 7, 0, 3);
        RingGames x = game(RING);
        x.choose(1, 0);
        rings(x, 0, 3, 1, 2);
        rings(x, 1, 0, NONE, NONE);
        // An eight: the ring through 3 and 4 goes through 1 twice and has the least colour 1.
        x = game("01 03 05 06 06", "0>1;1>0,3;3>1,4;4>3");
        rings(x, 0, 27, 1, 2);
        rings(x, 1, 24, 6, 2);
        rings(game("03 00 05", "0>1;1>0;2>2"), 0, 4, 5, 1);
        rings(game("03 05 05", "0>1;1>0,2;2>1"), 0, 7, 3, 2);
        rings(game("02 15 07 04", "0>1;1>2;2>3;3>0"), 1, 15, 2, 4);
        rings(game("02 15 07 04", "0>1;1>2;2>3;3>0"), 0, 0, NONE, NONE);
        rings(game("07 17"), 0, 0, NONE, NONE);
        RingGames longest = game("01 02 02 02 02 02 02 02 02 02 02 02 02 02",
                "0>1;1>2;2>3;3>4;4>5;5>6;6>7;7>8;8>9;9>10;10>11;11>12;12>13;13>0");
        rings(longest, 0, (1 << 14) - 1, 1, 14);
        due("what 3", x.badRings(0, 3), BAD_VALUE);
        due("player 2", x.badRings(2, 0), UNKNOWN);
        due("player comes first", x.badRings(2, 3), UNKNOWN);
        for (int value : FAR) {
            due("player " + value, x.badRings(value, 0), UNKNOWN);
            due("what " + value, x.badRings(0, value), BAD_VALUE);
        }
    }

    private static void rings(RingGames x, int player, int places, int colour, int length) {
        due("places on bad rings for " + player, x.badRings(player, 0), places);
        due("least colour for " + player, x.badRings(player, 1), colour);
        due("length for " + player, x.badRings(player, 2), length);
    }

    private static void pivots() {
        promise = 28;
        RingGames x = game(RING);
        due("0", x.pivots(0), 2);
        due("1", x.pivots(1), 2);
        due("2", x.pivots(2), 2);
        due("no act", x.count(7), 4);
        due("owner", x.place(1, 0), 1);
        due("itself, without arrows", game("00 01").pivots(0), 1);
        due("the end of a way", game("00 01 12", "0>1;1>2").pivots(0), 4);
        due("none", game("00 11", "0>0;1>1").pivots(0), 0);
        due("one of two", game("00 01 12", "0>1,2").pivots(0), 5);
        due("place 3", x.pivots(3), UNKNOWN);
        for (int value : FAR) {
            due("place " + value, x.pivots(value), UNKNOWN);
        }
    }

    private static void weakArrows() {
        promise = 29;
        RingGames x = game(RING);
        due("0", x.weakArrows(0), 0);
        due("1", x.weakArrows(1), 1);
        due("2", x.weakArrows(2), 0);
        due("no act", x.count(7), 4);
        due("arrows", x.place(1, 2), 5);
        due("the only arrow of a winner", game("00", "0>0").weakArrows(0), 1);
        due("the only arrow of a loser", game("01", "0>0").weakArrows(0), 0);
        due("the only arrow of the other", game("10", "0>0").weakArrows(0), 0);
        due("the only arrow of the other", game("11", "0>0").weakArrows(0), 1);
        due("one of two is enough", game("00 00", "0>0,1;1>1").weakArrows(0), 0);
        due("without arrows", game("00").weakArrows(0), 0);
        due("place 3", x.weakArrows(3), UNKNOWN);
        for (int value : FAR) {
            due("place " + value, x.weakArrows(value), UNKNOWN);
        }
    }

    private static void token() {
        promise = 30;
        RingGames x = game(RING);
        due("no token", x.token(0), NOT_POSSIBLE);
        due("bad value comes first", x.token(5), BAD_VALUE);
        x.start(0);
        tokens(x, 0, NONE, 1, 2, 1);
        x.choose(1, 2);
        tokens(x, 0, NONE, 0, 3, 0);
        x.step(1);
        tokens(x, 1, NONE, 0, 3, 0);
        due("no act, no step", x.count(6), 1);
        x = game(CARRY);
        x.start(0);
        tokens(x, 0, NONE, 0, 3, 0);
        x.choose(0, 0);
        tokens(x, 0, NONE, 3, 1, 1);
        x = game("00 01 12 02", "0>1;1>2;3>3");
        x.start(0);
        tokens(x, 0, 2, NONE, NONE, 0);
        x.start(2);
        tokens(x, 2, 0, NONE, NONE, 0);
        x.setOwner(2, 0);
        tokens(x, 2, 0, NONE, NONE, 1);
        // The colours before the ring do not come again.
        x = game("00 01 12 03", "0>1;1>2;2>3;3>2");
        x.start(0);
        tokens(x, 0, NONE, 2, 4, 0);
        RingGames longest = game("07 06 05 07 07 07 07 07 07 07 07 07 07 07",
                "0>1;1>2;2>3;3>4;4>5;5>6;6>7;7>8;8>9;9>10;10>11;11>12;12>13;13>0");
        longest.start(3);
        tokens(longest, 3, NONE, 5, 14, 1);
        longest.removeArrow(13, 0);
        tokens(longest, 3, 10, NONE, NONE, 1);
        longest.start(0);
        tokens(longest, 0, 13, NONE, NONE, 1);
        for (int value : FAR) {
            due("what " + value, x.token(value), BAD_VALUE);
        }
        due("what 5", x.token(5), BAD_VALUE);
    }

    private static void tokens(RingGames x, int... want) {
        for (int what = 0; what < 5; what++) {
            due("token " + what, x.token(what), want[what]);
        }
    }

    private static void count() {
        promise = 31;
        RingGames x = game("03 12 05 17", "0>0,1;1>0;2>3");
        x.choose(0, 1);
        x.choose(2, 3);
        x.start(0);
        x.step(5);
        read(x, "0>");
        int[] counts = {4, 4, 2, 8, 2, 2, 5, 4, 2};
        for (int what = 0; what < 9; what++) {
            due("count " + what, x.count(what), counts[what]);
        }
        due("what 9", x.count(9), BAD_VALUE);
        for (int value : FAR) {
            due("what " + value, x.count(value), BAD_VALUE);
        }
        due("a least colour of 0", game("00 01").count(4), 0);
        due("a least colour of 7", game("07").count(4), 7);
        x.undo();
        x.undo();
        due("no steps", x.count(6), 0);
        due("no token", x.token(0), NOT_POSSIBLE);
    }

    /** By the winning choices just the places that a player wins are judged to be fine. */
    private static void judgedAfterChooseWell() {
        promise = 10;
        long seed = 7;
        for (int run = 0; run < 300; run++) {
            RingGames x = new RingGames();
            int places = 1 + run % 14;
            for (int p = 0; p < places; p++) {
                seed = next(seed);
                x.addPlace((int) (seed >>> 40) & 1, (int) (seed >>> 50) & 7);
            }
            for (int i = 0; i < places * 2; i++) {
                seed = next(seed);
                x.addArrow((int) ((seed >>> 33) % places), (int) ((seed >>> 45) % places));
            }
            due("all places are won by one", x.wins(0) ^ x.wins(1), (1 << places) - 1);
            for (int player = 0; player < 2; player++) {
                x.chooseWell(player);
                for (int p = 0; p < places; p++) {
                    due("judged " + player + " " + p, x.judged(player, p),
                            x.place(p, 4) == player ? 1 : 0);
                }
            }
        }
    }

    /** A player wins a place if some row of choices is judged to be fine there. */
    private static void winnersByAllChoices() {
        promise = 19;
        long seed = 11;
        for (int run = 0; run < 60; run++) {
            seed = next(seed);
            for (int player = 0; player < 2; player++) {
                int fine = 0;
                for (int row = 0; row < 256; row++) {
                    // An object is used for at most 512 calls, so each row has its own.
                    RingGames x = fourPlaces(seed);
                    for (int p = 0; p < 4; p++) {
                        x.choose(p, row >> 2 * p & 3);
                    }
                    for (int p = 0; p < 4; p++) {
                        fine |= x.judged(player, p) << p;
                    }
                }
                due("wins " + player, fourPlaces(seed).wins(player), fine);
            }
        }
    }

    private static RingGames fourPlaces(long first) {
        RingGames x = new RingGames();
        long seed = first;
        for (int p = 0; p < 4; p++) {
            seed = next(seed);
            x.addPlace((int) (seed >>> 40) & 1, (int) (seed >>> 50) & 3);
        }
        for (int i = 0; i < 9; i++) {
            seed = next(seed);
            x.addArrow((int) (seed >>> 33) & 3, (int) (seed >>> 45) & 3);
        }
        return x;
    }

    private static long next(long seed) {
        return (seed * 6364136223846793005L + 1442695040888963407L) & Long.MAX_VALUE;
    }
}
