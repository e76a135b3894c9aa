/** Promises 1 to 10: what is told. */
public final class ToldTest {
    private static final Due D = Due.begin();
    private static final String PAIR = ";pair 0 1";
    private static final String SEVEN = "guest 20 7;widow 9;general 14 14 1;child 40 6;saint 81 80;guest;widow 30 2 3";

    public static void main(String[] args) {
        aNewObject();
        letters();
        faults();
        faultsBeyondBounds();
        faultsByWhatWasTold();
        faultsOfAThirteenth();
        houses();
        laterHouses();
        pairsBehindTexts();
        fullOfPairs();
        houseRefused();
        persons();
        griefs();
        takenAs();
        pairs();
        D.end("ToldTest");
    }

    private static void aNewObject() {
        GriefDoors x = new GriefDoors();
        for (int what = 0; what < 10; what++) {
            D.due(1, "count(" + what + ")", x.count(what), 0);
        }
        D.due(1, "person(0, 0)", x.person(0, 0), GriefDoors.UNKNOWN);
        for (int drawer = 0; drawer < 4; drawer++) {
            D.due(1, "drop(" + drawer + ")", x.drop(drawer), GriefDoors.NULL);
        }
        D.due(1, "undo()", x.undo(), GriefDoors.NOT);
        D.due(1, "back(0)", x.back(0), GriefDoors.NOT);
        D.due(1, "back(1)", x.back(1), GriefDoors.NOT);
    }

    private static void letters() {
        GriefDoors x = new GriefDoors();
        D.due(2, "write(-1)", x.write(-1), GriefDoors.OUTSIDE);
        D.due(2, "write(256)", x.write(256), GriefDoors.OUTSIDE);
        D.due(2, "write(0)", x.write(0), 1);
        D.due(2, "write(255)", x.write(255), 2);
        for (int k = 3; k <= 200; k++) {
            D.due(2, "write, letter " + k, x.write('a'), k);
        }
        D.due(2, "write, letter 201", x.write('a'), GriefDoors.FULL);
        D.due(2, "write(256) where it is full", x.write(256), GriefDoors.OUTSIDE);
        D.due(2, "count(9)", x.count(9), 200);
        D.due(3, "erase()", x.erase(), 200);
        D.due(3, "erase() again", x.erase(), 0);
        D.due(3, "count(9)", x.count(9), 0);
        D.due(3, "write behind erase", x.write('a'), 1);
    }

    private static void fault(GriefDoors x, String text, int want) {
        D.due(4, "fault() of '" + text + "'", Due.faultOf(x, text), want);
    }

    private static void fault(String text, int want) {
        fault(new GriefDoors(), text, want);
    }

    private static void faults() {
        fault("", 0);
        fault("   ", 3);
        fault("house", -1);
        fault("  house  ", -1);
        fault("house;", 6);
        fault("house; ", 7);
        fault(";house", 0);
        fault("house;;house", 6);
        fault("house ; house", -1);
        fault("house.", 5);
        fault("house 1", 6);
        fault("house house", 6);
        fault("House", 0);
        fault("hous", 0);
        fault("houses", 0);
        fault("youse", 0);
        fault("guestz", 0);
        fault("aguest", 0);
        fault("guest 9:", 7);
        fault("guest 9/", 7);
        fault("guest 9{", 7);
        fault("guest 9`", 7);
        fault("houseguest", 0);
        fault("hou se", 0);
        fault("guest\t1", 5);
        fault("guest \u00e9", 6);
        fault("12", 0);
        fault("guest", -1);
        fault("guest20 7", -1);
        fault("guest1;widow1;general1;child1;saint1", -1);
        fault("butler 3", 0);
        fault("guest 5 butler", 8);
        fault("guest 5 guest", 8);
        fault("guest 5,6", 7);
        fault("guest 5;pai", 8);
    }

    private static void faultsBeyondBounds() {
        fault("guest 0", 6);
        fault("guest 00", 6);
        fault("guest 01 1 99", -1);
        fault("guest 100", 6);
        fault("guest 001", 6);
        fault("guest 1 2 3", -1);
        fault("guest 1 2 3 4", 12);
        fault("saint 1 2 0", 10);
        fault("saint -1", 6);
        String clauses = "house";
        for (int k = 1; k < 20; k++) {
            clauses = clauses + ";house";
        }
        fault(clauses, -1);
        fault(clauses + ";", 119);
        fault(clauses + " ;house", 120);
        fault(clauses + " guest", 120);
    }

    private static void faultsByWhatWasTold() {
        fault("pair 0 1", 5);
        fault("guest;pair 0", 12);
        fault("guest;pair 0 1", 13);
        fault("guest;pair", 10);
        fault("guest;guest;pair 0 0", 19);
        fault("guest;guest;pair 0 2", 19);
        fault("guest;guest;pair 000 1", 17);
        fault("guest;guest;pair 1 00", -1);
        fault("guest;guest;pair 0 1 0", 21);
        fault("guest;guest;house;pair 0 1", 23);
        fault("guest;pair 0 1;guest", 13);
        fault("guest;guest;guest;guest;guest;guest;guest", -1);
        fault("guest;guest;guest;guest;guest;guest;guest;saint 3", 42);
        fault("guest;guest;guest;guest;guest;guest;guest;house;saint 3", -1);
        GriefDoors seven = Due.houseOf(SEVEN);
        fault(seven, "guest", 0);
        fault(seven, "pair 6 0", -1);
        fault(seven, "pair 7 0", 5);
        fault(seven, "house;guest", -1);
        fault(seven, "house;pair 0 1", 11);
    }

    /** A thirteenth PAIR of texts: what pair() and unpair() do is not counted. */
    private static void faultsOfAThirteenth() {
        String twelve = "house;guest;guest" + PAIR.repeat(12);
        fault(twelve, -1);
        fault(twelve + ";pair 0 1", 17 + 12 * 9 + 1);
        fault(twelve + ";pair", 17 + 12 * 9 + 1);
        GriefDoors x = new GriefDoors();
        Due.tell(x, "guest 9;guest 8" + PAIR.repeat(11));
        fault(x, "pair 0 1", -1);
        fault(x, "pair 0 1;pair 0 1", 9);
        x.pair(0, 1);
        fault(x, "pair 0 1", -1);
        fault(x, "pair", 4);
        fault(x, "pair 0 1;pair 0 1", 9);
        x.unpair();
        fault(x, "pair 0 1;pair 0 1", 9);
        fault(x, "pair 0 1;house;guest;guest;pair 0 1;pair 0 1", -1);
        Due.tell(x, "pair 1 0");
        fault(x, "pair 9 9", 0);
        fault(x, "house;guest;guest;pair 0 1", -1);
        x.unpair();
        fault(x, "pair 0 1", 0);
        fault(x, "guest 3", -1);
    }

    private static void houses() {
        GriefDoors x = new GriefDoors();
        D.due(5, "house() of three", Due.tell(x, "guest 5 7 6;widow 9;pair 1 0"), 3);
        D.due(5, "count(0)", x.count(0), 2);
        D.due(5, "count(1)", x.count(1), 1);
        D.due(5, "count(9)", x.count(9), 0);
        D.due(5, "grief(0, 1)", x.grief(0, 1), 7);
        D.due(5, "wrong(), as of like LOADS the lesser is ahead", x.wrong(), 1);
        D.due(5, "house() of one more", Due.tell(x, "child 40"), 1);
        D.due(5, "count(0)", x.count(0), 3);
        D.due(5, "count(1)", x.count(1), 1);
        D.due(5, "house() in the midst", Due.tell(x, "guest 1;house;saint 8"), 3);
        D.due(5, "count(0)", x.count(0), 1);
        D.due(5, "count(1)", x.count(1), 0);
        D.due(5, "person(0, 0)", x.person(0, 0), 4);
        D.due(5, "grief(0, 1)", x.grief(0, 1), GriefDoors.NONE);
        pairsTold();
        D.due(5, "house() of house", Due.tell(x, "house"), 1);
        D.due(5, "count(0)", x.count(0), 0);
    }

    private static void pairsTold() {
        GriefDoors x = Due.houseOf("guest 9;guest 8;guest 7;pair 2 1;pair 1 0");
        D.due(5, "wrong()", x.wrong(), 2);
        D.due(5, "lines()", x.lines(), 1);
        D.due(5, "ranked(0)", x.ranked(0), 2);
        D.due(5, "ranked(2)", x.ranked(2), 0);
        Due.tell(x, "house;guest 9 8 7;guest 8;guest 7;pair 0 2;pair 1 2");
        D.due(5, "wrong()", x.wrong(), 0);
        D.due(5, "lines()", x.lines(), 2);
        D.due(5, "ranked(2)", x.ranked(2), 2);
    }

    private static void laterHouses() {
        GriefDoors x = Due.houseOf("guest 50 4;widow 9;pair 0 1");
        x.pair(1, 0);
        x.lent(2);
        x.grieve(1, 30);
        x.comfort(0);
        x.keep(0);
        x.keep(1);
        x.seen(0, 0, 1);
        for (int drawer = 0; drawer < 4; drawer++) {
            x.drawer(drawer, 3);
        }
        D.due(5, "house()", Due.tell(x, "child 3"), 1);
        D.due(5, "grief(0, 0) as told", x.grief(0, 0), 50);
        D.due(5, "grief(0, 1) as told", x.grief(0, 1), 4);
        D.due(5, "grief(1, 0) as told", x.grief(1, 0), 9);
        D.due(5, "grief(1, 1) as told", x.grief(1, 1), GriefDoors.NONE);
        D.due(5, "PAIRS of texts alone", x.count(1), 1);
        D.due(5, "LENT 0", x.count(2), 0);
        D.due(5, "nothing SEEN", x.count(6), 0);
        D.due(5, "no drawers", x.count(7), 0);
        D.due(5, "take from one that there was", x.take(2, 0, 0), GriefDoors.NULL);
        D.due(5, "undone", x.undo(), GriefDoors.NOT);
        D.due(5, "back(0)", x.back(0), GriefDoors.NOT);
        D.due(5, "back(1)", x.back(1), GriefDoors.NOT);
    }

    /** Behind a text PAIRS are those that texts told, whatever pair() and unpair() did between. */
    private static void pairsBehindTexts() {
        GriefDoors x = Due.houseOf("guest 9;guest 8;guest 7;pair 2 1;pair 1 0");
        x.pair(0, 2);
        D.due(9, "ranked(NONE) in a ring", x.ranked(-1), 1);
        Due.write(x, "pair 7 7");
        D.due(5, "house() with a fault", x.house(), GriefDoors.NOT);
        D.due(5, "count(1) behind the refused text", x.count(1), 3);
        x.erase();
        Due.tell(x, "saint 8");
        D.due(5, "count(1), that of pair() gone", x.count(1), 2);
        D.due(5, "ranked(NONE)", x.ranked(-1), 0);
        D.due(5, "ranked(0)", x.ranked(0), 2);
        x.unpair();
        x.pair(0, 1);
        x.pair(0, 2);
        D.due(5, "wrong() of those of pair()", x.wrong(), 0);
        Due.tell(x, "pair 3 2");
        D.due(5, "count(1), those of texts again", x.count(1), 3);
        D.due(5, "wrong()", x.wrong(), 3);
        D.due(5, "ranked(0)", x.ranked(0), 3);
        D.due(5, "ranked(1)", x.ranked(1), 2);
        D.due(5, "ranked(2)", x.ranked(2), 1);
        x.unpair();
        Due.tell(x, "house;guest 3;guest 2");
        D.due(5, "count(1) behind house", x.count(1), 0);
        x.pair(1, 0);
        Due.tell(x, "guest 1");
        D.due(5, "count(1), as no text told any", x.count(1), 0);
        D.due(9, "pair behind it", x.pair(2, 0), 1);
        Due.tell(x, "pair 0 1;house;guest 3;guest 2;pair 0 1");
        D.due(5, "count(1), those behind house", x.count(1), 1);
        D.due(5, "wrong()", x.wrong(), 0);
    }

    /** Twelve at a time there can be, by texts and pair() together. */
    private static void fullOfPairs() {
        GriefDoors x = Due.houseOf("guest 9;guest 8" + PAIR.repeat(3));
        for (int k = 4; k <= 12; k++) {
            D.due(9, "pair " + k, x.pair(1, 0), k);
        }
        D.due(9, "pair 13", x.pair(1, 0), GriefDoors.FULL);
        D.due(5, "house() of nine more", Due.tell(x, "pair 0 1" + PAIR.repeat(8)), 9);
        D.due(5, "count(1)", x.count(1), 12);
        D.due(5, "wrong(), as those of pair() are gone", x.wrong(), 0);
        D.due(9, "pair 13", x.pair(1, 0), GriefDoors.FULL);
        D.due(10, "unpair()", x.unpair(), 12);
        D.due(9, "pair behind it", x.pair(1, 0), 1);
        D.due(5, "house() of a guest", Due.tell(x, "guest 1"), 1);
        D.due(10, "unpair() of those of texts", x.unpair(), 12);
    }

    private static void houseRefused() {
        GriefDoors x = Due.houseOf("guest 50 4;widow 9;pair 0 1");
        x.lent(2);
        x.seen(1, 1, 1);
        x.keep(1);
        x.drawer(2, 3);
        x.put(2, 1, 0, 5);
        Due.write(x, "house;guest 3;butler");
        String before = Due.stateOf(x);
        D.due(5, "house() with a fault", x.house(), GriefDoors.NOT);
        D.due(5, "the state behind it", Due.stateOf(x), before);
        D.due(5, "back(1)", x.back(1), 2);
        x.erase();
        D.due(5, "house() of nothing", x.house(), GriefDoors.NOT);
    }

    private static void persons() {
        GriefDoors x = Due.houseOf(SEVEN);
        int[][] due = {
            {0, 27, 2, 3, 4}, {1, 18, 1, 1, 5}, {2, 34, 3, 3, 3}, {3, 40, 2, 6, 1},
            {4, 40, 2, 0, 2}, {0, 0, 0, 3, -1}, {1, 65, 3, 1, 0}
        };
        for (int one = 0; one < 7; one++) {
            for (int what = 0; what < 5; what++) {
                D.due(6, "person(" + one + ", " + what + ")", x.person(one, what), due[one][what]);
            }
        }
        D.due(6, "person(0, 5)", x.person(0, 5), GriefDoors.OUTSIDE);
        D.due(6, "person(0, -1)", x.person(0, -1), GriefDoors.OUTSIDE);
        D.due(6, "person(7, 5)", x.person(7, 5), GriefDoors.UNKNOWN);
        D.due(6, "person(-1, 0)", x.person(-1, 0), GriefDoors.UNKNOWN);
        GriefDoors edges = Due.houseOf("general 4;general 4 4;saint 1;saint 3;child;guest 3;guest 13");
        int[] loads = {4, 13, 0, 1, 0, 3, 13};
        int[] places = {2, 0, -1, 4, -1, 3, 1};
        for (int one = 0; one < 7; one++) {
            D.due(6, "LOAD of " + one, edges.person(one, 1), loads[one]);
            D.due(6, "place of " + one, edges.person(one, 4), places[one]);
        }
    }

    private static void griefs() {
        GriefDoors x = Due.houseOf("general 14 99 1;child 6;saint");
        int[][] due = {{14, 99, 1}, {6, -1, -1}, {-1, -1, -1}};
        for (int one = 0; one < 3; one++) {
            for (int k = 0; k < 3; k++) {
                D.due(7, "grief(" + one + ", " + k + ")", x.grief(one, k), due[one][k]);
            }
        }
        D.due(7, "grief(0, 3)", x.grief(0, 3), GriefDoors.OUTSIDE);
        D.due(7, "grief(0, -1)", x.grief(0, -1), GriefDoors.OUTSIDE);
        D.due(7, "grief(3, 3)", x.grief(3, 3), GriefDoors.UNKNOWN);
    }

    private static void takenAs() {
        GriefDoors x = Due.houseOf("guest 20 7;widow 20 7;general 20 7;child 20 7;saint 20 7");
        int[] loads = {27, 47, 32, 20, 10};
        String[] such = {"110000", "111000", "110100", "100010", "100011"};
        for (int one = 0; one < 5; one++) {
            for (int kind = 0; kind < 6; kind++) {
                int due = such[one].charAt(kind) == '1' ? loads[one] : GriefDoors.NOT;
                D.due(8, "as(" + one + ", " + kind + ")", x.as(one, kind), due);
            }
        }
        D.due(8, "as(0, 6)", x.as(0, 6), GriefDoors.OUTSIDE);
        D.due(8, "as(0, -1)", x.as(0, -1), GriefDoors.OUTSIDE);
        D.due(8, "as(5, 6)", x.as(5, 6), GriefDoors.UNKNOWN);
    }

    private static void pairs() {
        GriefDoors x = Due.houseOf("guest 3;guest 2;guest 1");
        D.due(9, "pair(0, 0)", x.pair(0, 0), GriefDoors.UNKNOWN);
        D.due(9, "pair(0, 3)", x.pair(0, 3), GriefDoors.UNKNOWN);
        D.due(9, "pair(-1, 0)", x.pair(-1, 0), GriefDoors.UNKNOWN);
        for (int k = 1; k <= 12; k++) {
            D.due(9, "pair " + k, x.pair(2, 1), k);
        }
        D.due(9, "pair(0, 0) where it is full", x.pair(0, 0), GriefDoors.UNKNOWN);
        D.due(9, "a thirteenth", x.pair(0, 1), GriefDoors.FULL);
        D.due(9, "wrong()", x.wrong(), 12);
        D.due(10, "unpair()", x.unpair(), 12);
        D.due(10, "unpair() again", x.unpair(), 0);
        D.due(10, "count(1)", x.count(1), 0);
        D.due(10, "wrong()", x.wrong(), 0);
        D.due(10, "pair behind it", x.pair(0, 1), 1);
    }
}
