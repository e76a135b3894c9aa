/** Promises 29 to 35: drawers, and what is counted. */
public final class DrawersTest {
    private static final Due D = Due.begin();

    public static void main(String[] args) {
        drawers();
        putAndTaken();
        putRefused();
        takeRefused();
        tidied();
        tidyRefused();
        copied();
        copyRefused();
        dropped();
        counted();
        D.end("DrawersTest");
    }

    private static void drawers() {
        GriefDoors x = new GriefDoors();
        D.due(29, "drawer(4, 0)", x.drawer(4, 0), GriefDoors.UNKNOWN);
        D.due(29, "drawer(-1, 11)", x.drawer(-1, 11), GriefDoors.UNKNOWN);
        D.due(29, "drawer(0, 11)", x.drawer(0, 11), GriefDoors.OUTSIDE);
        D.due(29, "drawer(0, -1)", x.drawer(0, -1), GriefDoors.SIZE);
        D.due(29, "count(7)", x.count(7), 0);
        D.due(29, "drawer(0, 0)", x.drawer(0, 0), 0);
        D.due(29, "drawer(3, 10)", x.drawer(3, 10), 10);
        D.due(29, "count(7)", x.count(7), 2);
        D.due(29, "take(3, 9, 0)", x.take(3, 9, 0), GriefDoors.EMPTY);
        D.due(29, "put(0, 0, 0, 1)", x.put(0, 0, 0, 1), GriefDoors.INDEX);
        x.put(3, 1, 0, 5);
        D.due(29, "drawer(3, -1)", x.drawer(3, -1), GriefDoors.SIZE);
        D.due(29, "take(3, 1, 0)", x.take(3, 1, 0), 50005);
        D.due(29, "drawer(3, 2)", x.drawer(3, 2), 2);
        D.due(29, "take(3, 1, 0)", x.take(3, 1, 0), GriefDoors.EMPTY);
        D.due(29, "take(3, 2, 0)", x.take(3, 2, 0), GriefDoors.INDEX);
    }

    private static void putAndTaken() {
        GriefDoors x = Due.houseOf("guest 1;guest 2");
        x.drawer(1, 3);
        D.due(30, "put(1, 0, 0, -9999)", x.put(1, 0, 0, -9999), 1);
        D.due(31, "take(1, 0, 0)", x.take(1, 0, 0), 40001);
        D.due(30, "put(1, 0, 0, 9999)", x.put(1, 0, 0, 9999), 1);
        D.due(31, "take(1, 0, 0)", x.take(1, 0, 0), 59999);
        D.due(30, "put(1, 1, 1, 17575)", x.put(1, 1, 1, 17575), 1);
        D.due(31, "take(1, 1, 1)", x.take(1, 1, 1), 17575);
        D.due(30, "put(1, 1, 1, 0)", x.put(1, 1, 1, 0), 1);
        D.due(31, "take(1, 1, 1)", x.take(1, 1, 1), 0);
        D.due(30, "put(1, 2, 2, 1)", x.put(1, 2, 2, 1), 1);
        D.due(31, "take(1, 2, 2)", x.take(1, 2, 2), 1);
        D.due(30, "put(1, 2, 3, 99999)", x.put(1, 2, 3, 99999), 1);
        D.due(31, "take(1, 2, 2)", x.take(1, 2, 2), GriefDoors.EMPTY);
    }

    private static void putRefused() {
        GriefDoors x = Due.houseOf("guest 1;guest 2");
        x.drawer(0, 2);
        D.due(30, "put(4, 9, 9, 0)", x.put(4, 9, 9, 0), GriefDoors.UNKNOWN);
        D.due(30, "put(-1, 0, 0, 0)", x.put(-1, 0, 0, 0), GriefDoors.UNKNOWN);
        D.due(30, "put(1, 9, 2, 2)", x.put(1, 9, 2, 2), GriefDoors.UNKNOWN);
        D.due(30, "put(0, 0, 2, -1)", x.put(0, 0, 2, -1), GriefDoors.UNKNOWN);
        D.due(30, "put(1, 9, 4, 0)", x.put(1, 9, 4, 0), GriefDoors.OUTSIDE);
        D.due(30, "put(1, 9, -1, 0)", x.put(1, 9, -1, 0), GriefDoors.OUTSIDE);
        D.due(30, "put(1, 9, 0, 10000)", x.put(1, 9, 0, 10000), GriefDoors.OUTSIDE);
        D.due(30, "put(1, 9, 0, -10000)", x.put(1, 9, 0, -10000), GriefDoors.OUTSIDE);
        D.due(30, "put(1, 9, 1, 17576)", x.put(1, 9, 1, 17576), GriefDoors.OUTSIDE);
        D.due(30, "put(1, 9, 1, -1)", x.put(1, 9, 1, -1), GriefDoors.OUTSIDE);
        D.due(30, "put(1, 9, 0, 0)", x.put(1, 9, 0, 0), GriefDoors.NULL);
        D.due(30, "put(0, 2, 0, 0)", x.put(0, 2, 0, 0), GriefDoors.INDEX);
        D.due(30, "put(0, -1, 3, 0)", x.put(0, -1, 3, 0), GriefDoors.INDEX);
        D.due(30, "drop(0), nothing was put", x.drop(0), 0);
    }

    private static void takeRefused() {
        GriefDoors x = Due.houseOf("guest 1;guest 2");
        Houses.fill(x, 0, 0, 5);
        Houses.fill(x, 1, 1, 5);
        Houses.fill(x, 2, 2, 1);
        for (int drawer = 0; drawer < 3; drawer++) {
            for (int what = 0; what < 3; what++) {
                int due = what != drawer ? GriefDoors.CAST : what == 0 ? 50005 : what == 1 ? 5 : 1;
                D.due(31, "take(" + drawer + ", 0, " + what + ")", x.take(drawer, 0, what), due);
            }
        }
        D.due(31, "take(4, 9, 9)", x.take(4, 9, 9), GriefDoors.UNKNOWN);
        D.due(31, "take(-1, 0, 0)", x.take(-1, 0, 0), GriefDoors.UNKNOWN);
        D.due(31, "take(3, 9, 3)", x.take(3, 9, 3), GriefDoors.OUTSIDE);
        D.due(31, "take(3, 9, -1)", x.take(3, 9, -1), GriefDoors.OUTSIDE);
        D.due(31, "take(3, 9, 0)", x.take(3, 9, 0), GriefDoors.NULL);
        D.due(31, "take(0, 1, 1)", x.take(0, 1, 1), GriefDoors.INDEX);
        D.due(31, "take(0, -1, 0)", x.take(0, -1, 0), GriefDoors.INDEX);
    }

    private static void tidied() {
        GriefDoors x = Due.houseOf("guest 3;saint 1;widow 40;guest;general 9 9;guest 3;child 80");
        Houses.fill(x, 0, 0, 3, -5, 9999, 0, -9999, 3, 12, -1, 7, 2);
        D.due(32, "tidy(0)", x.tidy(0), 10);
        D.due(32, "numbers in order", Houses.inside(x, 0, 0, 10), "-9999 -5 -1 0 2 3 3 7 12 9999 ");
        Houses.fill(x, 1, 1, 17575, 26, 25, 0);
        D.due(32, "tidy(1)", x.tidy(1), 4);
        D.due(32, "WORDS in order", Houses.inside(x, 1, 1, 4), "0 25 26 17575 ");
        Houses.fill(x, 2, 2, 3, 0, 1, 2, 5, 4, 6, 0);
        D.due(32, "tidy(2)", x.tidy(2), 8);
        D.due(32, "PEOPLE as they go in", Houses.inside(x, 2, 2, 8), "2 6 4 0 0 5 1 3 ");
        x.lent(5);
        D.due(32, "tidy(2)", x.tidy(2), 8);
        D.due(32, "PEOPLE as they go in behind 5 LENTS", Houses.inside(x, 2, 2, 8), "2 6 0 0 1 3 4 5 ");
        x.drawer(3, 0);
        D.due(32, "tidy(3)", x.tidy(3), 0);
        Houses.fill(x, 3, 2, 3);
        D.due(32, "tidy(3) of one", x.tidy(3), 1);
    }

    private static void tidyRefused() {
        GriefDoors x = Due.houseOf("guest 3");
        D.due(32, "tidy(4)", x.tidy(4), GriefDoors.UNKNOWN);
        D.due(32, "tidy(-1)", x.tidy(-1), GriefDoors.UNKNOWN);
        D.due(32, "tidy(0)", x.tidy(0), GriefDoors.NULL);
        Houses.fill(x, 0, 0, 5, 3, 1);
        x.put(0, 1, 1, 3);
        D.due(32, "tidy(0) of unlike things", x.tidy(0), GriefDoors.CAST);
        x.put(0, 2, 3, 0);
        D.due(32, "tidy(0), unlike things and nothing", x.tidy(0), GriefDoors.EMPTY);
        D.due(32, "take(0, 0, 0), as it was", x.take(0, 0, 0), 50005);
        x.put(0, 2, 0, 1);
        x.put(0, 1, 2, 0);
        D.due(32, "tidy(0) of a number and a PERSON", x.tidy(0), GriefDoors.CAST);
        Houses.fill(x, 1, 0, 5, 3);
        x.put(1, 0, 1, 5);
        D.due(32, "tidy(1), the first one unlike", x.tidy(1), GriefDoors.CAST);
    }

    private static void copied() {
        GriefDoors x = Due.houseOf("guest 3");
        Houses.fill(x, 0, 0, 1, 2, 3, 4, 5);
        D.due(33, "copy(0, 0, 0, 1, 4)", x.copy(0, 0, 0, 1, 4), 4);
        D.due(33, "towards the end", Houses.inside(x, 0, 0, 5), "1 1 2 3 4 ");
        Houses.fill(x, 0, 0, 1, 2, 3, 4, 5);
        D.due(33, "copy(0, 2, 0, 0, 3)", x.copy(0, 2, 0, 0, 3), 3);
        D.due(33, "towards the beginning", Houses.inside(x, 0, 0, 5), "3 4 5 4 5 ");
        x.drawer(1, 3);
        x.put(0, 1, 1, 77);
        x.put(0, 2, 3, 0);
        x.put(1, 2, 0, 9);
        D.due(33, "copy(0, 0, 1, 0, 3)", x.copy(0, 0, 1, 0, 3), 3);
        D.due(33, "take(1, 0, 0)", x.take(1, 0, 0), 50003);
        D.due(33, "take(1, 1, 1)", x.take(1, 1, 1), 77);
        D.due(33, "take(1, 2, 0)", x.take(1, 2, 0), GriefDoors.EMPTY);
        x.put(0, 0, 0, 8);
        D.due(33, "take(1, 0, 0), its own", x.take(1, 0, 0), 50003);
        D.due(33, "copy(0, 5, 1, 3, 0)", x.copy(0, 5, 1, 3, 0), 0);
        D.due(33, "copy(0, 0, 0, 0, 5)", x.copy(0, 0, 0, 0, 5), 5);
    }

    private static void copyRefused() {
        GriefDoors x = new GriefDoors();
        Houses.fill(x, 0, 0, 1, 2, 3, 4, 5);
        x.drawer(1, 3);
        int[][] beyond = {
            {-1, 0, 1}, {0, -1, 1}, {0, 0, -1}, {6, 0, 0}, {0, 4, 0}, {5, 0, 1}, {0, 3, 1}, {3, 0, 3}, {0, 0, 4},
            {0, 0, Integer.MAX_VALUE}, {Integer.MAX_VALUE, 0, 1}, {0, Integer.MAX_VALUE, Integer.MAX_VALUE},
            {Integer.MIN_VALUE, 0, 1}, {0, 0, Integer.MIN_VALUE}
        };
        for (int[] at : beyond) {
            String call = "copy(0, " + at[0] + ", 1, " + at[1] + ", " + at[2] + ")";
            D.due(33, call, x.copy(0, at[0], 1, at[1], at[2]), GriefDoors.INDEX);
        }
        D.due(33, "copy(0, 9, 2, 0, 1)", x.copy(0, 9, 2, 0, 1), GriefDoors.NULL);
        D.due(33, "copy(2, 9, 0, 0, 1)", x.copy(2, 9, 0, 0, 1), GriefDoors.NULL);
        D.due(33, "copy(2, 0, 4, 0, 1)", x.copy(2, 0, 4, 0, 1), GriefDoors.UNKNOWN);
        D.due(33, "copy(-1, 0, 2, 0, 1)", x.copy(-1, 0, 2, 0, 1), GriefDoors.UNKNOWN);
        D.due(33, "drop(1), nothing came", x.drop(1), 0);
    }

    private static void dropped() {
        GriefDoors x = new GriefDoors();
        x.drawer(3, 5);
        x.put(3, 1, 0, 5);
        x.put(3, 4, 1, 5);
        D.due(34, "drop(3)", x.drop(3), 2);
        D.due(34, "drop(3) again", x.drop(3), GriefDoors.NULL);
        D.due(34, "take(3, 1, 0)", x.take(3, 1, 0), GriefDoors.NULL);
        D.due(34, "drop(4)", x.drop(4), GriefDoors.UNKNOWN);
        D.due(34, "drop(-1)", x.drop(-1), GriefDoors.UNKNOWN);
        x.drawer(3, 5);
        D.due(34, "drop(3), a new one", x.drop(3), 0);
    }

    private static void counted() {
        GriefDoors x = Due.houseOf("guest 5 7;saint 1;child 40;pair 0 1;pair 1 0");
        x.lent(1);
        x.grieve(1, 1);
        x.seen(2, 0, 3);
        x.drawer(0, 3);
        x.drawer(2, 0);
        Due.write(x, "abcd");
        int[] due = {3, 2, 1, 2, 2 + 4 + 34, 5, 1, 2, 2, 4};
        for (int what = 0; what < 10; what++) {
            D.due(35, "count(" + what + ")", x.count(what), due[what]);
        }
        D.due(35, "count(3), LOAD 1", Due.houseOf("guest 1;saint 1;widow 3").count(3), 2);
        D.due(35, "count(10)", x.count(10), GriefDoors.OUTSIDE);
        D.due(35, "count(-1)", x.count(-1), GriefDoors.OUTSIDE);
    }
}
