/** Promises 11 to 16: what is done. */
public final class DoneTest {
    private static final Due D = Due.begin();

    public static void main(String[] args) {
        lents();
        lentsAtTheirBounds();
        grieved();
        comforted();
        undone();
        undoneNoMoreThanEight();
        kept();
        D.end("DoneTest");
    }

    private static void griefs(int promise, GriefDoors x, int person, int first, int second, int third) {
        int[] due = {first, second, third};
        for (int k = 0; k < 3; k++) {
            D.due(promise, "grief(" + person + ", " + k + ")", x.grief(person, k), due[k]);
        }
    }

    private static void lents() {
        GriefDoors x = Due.houseOf("guest 3 9 4;widow 2 1 5;general 6 3 7;child 6 13 7;saint 1 2 3");
        D.due(11, "lent(1)", x.lent(1), 1);
        griefs(11, x, 0, 6, 1, -1);
        griefs(11, x, 1, 1, 4, -1);
        griefs(11, x, 2, 3, 4, -1);
        griefs(11, x, 3, 7, 1, -1);
        griefs(11, x, 4, 1, 2, 3);
        D.due(11, "lent(2)", x.lent(2), 3);
        griefs(11, x, 0, -1, -1, -1);
        griefs(11, x, 1, 2, -1, -1);
        griefs(11, x, 2, -1, -1, -1);
        griefs(11, x, 3, -1, -1, -1);
        griefs(11, x, 4, 1, 2, 3);
        D.due(11, "undo()", x.undo(), 1);
        griefs(11, x, 0, 6, 1, -1);
        D.due(11, "count(2)", x.count(2), 1);
    }

    private static void lentsAtTheirBounds() {
        GriefDoors x = Due.houseOf("guest 99");
        D.due(11, "lent(0)", x.lent(0), GriefDoors.OUTSIDE);
        D.due(11, "lent(13)", x.lent(13), GriefDoors.OUTSIDE);
        D.due(11, "lent(-1)", x.lent(-1), GriefDoors.OUTSIDE);
        for (int k = 1; k <= 83; k++) {
            D.due(11, "lent(12)", x.lent(12), 12 * k);
        }
        D.due(11, "lent(4)", x.lent(4), GriefDoors.FULL);
        D.due(11, "lent(13)", x.lent(13), GriefDoors.OUTSIDE);
        D.due(11, "count(8)", x.count(8), 8);
        D.due(11, "lent(3)", x.lent(3), 999);
        D.due(11, "lent(1)", x.lent(1), GriefDoors.FULL);
        D.due(11, "count(2)", x.count(2), 999);
    }

    private static void grieved() {
        GriefDoors x = Due.houseOf("general 4;widow");
        D.due(12, "grieve(0, 5)", x.grieve(0, 5), 14);
        griefs(12, x, 0, 4, 5, -1);
        D.due(12, "grieve(1, 99)", x.grieve(1, 99), 198);
        D.due(12, "grieve(0, 1)", x.grieve(0, 1), 15);
        D.due(12, "grieve(0, 100)", x.grieve(0, 100), GriefDoors.OUTSIDE);
        D.due(12, "grieve(0, 0)", x.grieve(0, 0), GriefDoors.OUTSIDE);
        D.due(12, "grieve(0, 1)", x.grieve(0, 1), GriefDoors.FULL);
        D.due(12, "grieve(2, 0)", x.grieve(2, 0), GriefDoors.UNKNOWN);
        D.due(12, "count(8)", x.count(8), 3);
        griefs(12, x, 0, 4, 5, 1);
    }

    private static void comforted() {
        GriefDoors x = Due.houseOf("guest 5 9 9;saint 7;child");
        D.due(13, "comfort(0)", x.comfort(0), 9);
        griefs(13, x, 0, 5, 9, -1);
        D.due(13, "grieve(0, 9)", x.grieve(0, 9), 23);
        D.due(13, "comfort(0)", x.comfort(0), 9);
        D.due(13, "comfort(0)", x.comfort(0), 9);
        D.due(13, "comfort(0)", x.comfort(0), 5);
        D.due(13, "comfort(0)", x.comfort(0), GriefDoors.NOT);
        D.due(13, "comfort(2)", x.comfort(2), GriefDoors.NOT);
        D.due(13, "comfort(3)", x.comfort(3), GriefDoors.UNKNOWN);
        D.due(13, "comfort(-1)", x.comfort(-1), GriefDoors.UNKNOWN);
        D.due(13, "count(8)", x.count(8), 5);
        GriefDoors first = Due.houseOf("guest 9 5 9");
        D.due(13, "comfort(0)", first.comfort(0), 9);
        griefs(13, first, 0, 5, 9, -1);
        GriefDoors last = Due.houseOf("guest;guest;guest;guest;guest;guest;saint 3 4 5");
        D.due(13, "comfort(6)", last.comfort(6), 5);
        griefs(13, last, 6, 3, 4, -1);
        GriefDoors ahead = Due.houseOf("guest 9 1 2");
        ahead.comfort(0);
        griefs(13, ahead, 0, 1, 2, -1);
    }

    private static void undone() {
        GriefDoors x = Due.houseOf("guest 50 20;child 30");
        D.due(14, "undo()", x.undo(), GriefDoors.NOT);
        x.lent(3);
        x.grieve(0, 7);
        x.comfort(1);
        x.grieve(0, 7);
        D.due(14, "count(8)", x.count(8), 3);
        D.due(14, "undo()", x.undo(), 2);
        griefs(14, x, 1, 12, -1, -1);
        D.due(14, "undo()", x.undo(), 1);
        griefs(14, x, 0, 41, 11, -1);
        x.comfort(0);
        D.due(14, "undo()", x.undo(), 1);
        griefs(14, x, 0, 41, 11, -1);
        D.due(14, "undo()", x.undo(), 0);
        griefs(14, x, 0, 50, 20, -1);
        griefs(14, x, 1, 30, -1, -1);
        D.due(14, "count(2)", x.count(2), 0);
        D.due(14, "undo()", x.undo(), GriefDoors.NOT);
    }

    private static void undoneNoMoreThanEight() {
        GriefDoors x = Due.houseOf("saint 50");
        for (int k = 1; k <= 11; k++) {
            x.lent(k);
            D.due(14, "count(8)", x.count(8), Math.min(k, 8));
        }
        for (int k = 11; k > 3; k--) {
            D.due(14, "undo()", x.undo(), k - 4);
            D.due(14, "count(2)", x.count(2), k * (k - 1) / 2);
        }
        D.due(14, "undo()", x.undo(), GriefDoors.NOT);
        D.due(14, "count(2)", x.count(2), 6);
        x.lent(5);
        D.due(14, "undo()", x.undo(), 0);
        D.due(14, "count(2)", x.count(2), 6);
    }

    private static void kept() {
        GriefDoors x = Due.houseOf("guest 50 20;child 30");
        D.due(15, "keep(2)", x.keep(2), GriefDoors.UNKNOWN);
        D.due(15, "keep(-1)", x.keep(-1), GriefDoors.UNKNOWN);
        D.due(16, "back(2)", x.back(2), GriefDoors.UNKNOWN);
        D.due(16, "back(-1)", x.back(-1), GriefDoors.UNKNOWN);
        D.due(16, "back(0)", x.back(0), GriefDoors.NOT);
        x.lent(2);
        D.due(15, "keep(1)", x.keep(1), 2);
        D.due(15, "count(8)", x.count(8), 1);
        D.due(16, "back(0)", x.back(0), GriefDoors.NOT);
        x.lent(3);
        x.pair(0, 1);
        x.seen(0, 0, 0);
        D.due(15, "keep(0)", x.keep(0), 5);
        x.comfort(0);
        x.undo();
        x.grieve(1, 5);
        D.due(16, "back(1)", x.back(1), 2);
        griefs(16, x, 0, 44, 14, -1);
        griefs(16, x, 1, 18, -1, -1);
        D.due(16, "undo()", x.undo(), GriefDoors.NOT);
        D.due(16, "pairs stay", x.count(1), 1);
        D.due(16, "what is SEEN stays", x.count(6), 1);
        D.due(16, "back(0)", x.back(0), 5);
        griefs(16, x, 0, 35, 5, -1);
        griefs(16, x, 1, -1, -1, -1);
        x.lent(1);
        D.due(16, "back(0) again", x.back(0), 5);
        D.due(15, "keep(1) anew", x.keep(1), 5);
        x.lent(1);
        D.due(16, "back(1)", x.back(1), 5);
    }
}
