/** Promises 26 to 28: what was seen. */
public final class SeenTest {
    private static final Due D = Due.begin();

    public static void main(String[] args) {
        seen();
        kindsOfOne();
        ofEachItsOwn();
        likeliest();
        asTheyAreNow();
        D.end("SeenTest");
    }

    private static void seen() {
        GriefDoors x = Due.houseOf("guest 30;guest 10");
        D.due(26, "seen(2, 13, 10)", x.seen(2, 13, 10), GriefDoors.UNKNOWN);
        D.due(26, "seen(-1, 0, 0)", x.seen(-1, 0, 0), GriefDoors.UNKNOWN);
        D.due(26, "seen(0, 13, 0)", x.seen(0, 13, 0), GriefDoors.OUTSIDE);
        D.due(26, "seen(0, -1, 0)", x.seen(0, -1, 0), GriefDoors.OUTSIDE);
        D.due(26, "seen(0, 0, 10)", x.seen(0, 0, 10), GriefDoors.OUTSIDE);
        D.due(26, "seen(0, 0, -1)", x.seen(0, 0, -1), GriefDoors.OUTSIDE);
        D.due(26, "seen(0, 12, 9)", x.seen(0, 12, 9), 1);
        for (int k = 2; k <= 6; k++) {
            D.due(26, "seen(1, 0, 0)", x.seen(1, 0, 0), k);
        }
        D.due(26, "seen(0, 13, 0) where it is full", x.seen(0, 13, 0), GriefDoors.OUTSIDE);
        D.due(26, "a seventh", x.seen(0, 0, 0), GriefDoors.FULL);
        D.due(26, "count(6)", x.count(6), 6);
        D.due(27, "forget()", x.forget(), 6);
        D.due(27, "forget() again", x.forget(), 0);
        D.due(27, "count(6)", x.count(6), 0);
        D.due(27, "kinds(1, 0)", x.kinds(1, 0), 31);
        D.due(27, "seen behind it", x.seen(0, 0, 0), 1);
    }

    private static void kindsOfOne() {
        // GRIEFS 20 and 18 by KIND: GUEST 38, WIDOW 58, GENERAL 43, CHILD 20, SAINT 10
        GriefDoors x = Due.houseOf("saint 20 18;guest 5");
        D.due(28, "kinds(0, 0), nothing seen", x.kinds(0, 0), 31);
        D.due(28, "kinds(0, 1), nothing seen", x.kinds(0, 1), 0);
        int[] steps = {3, 5, 4, 2, 1};
        for (int kind = 0; kind < 5; kind++) {
            x.forget();
            x.seen(0, 0, steps[kind]);
            D.due(28, "kinds(0, 0) by " + steps[kind], x.kinds(0, 0), 1 << kind);
            D.due(28, "kinds(0, 1) by " + steps[kind], x.kinds(0, 1), kind);
            D.due(28, "kinds(1, 0), of whom nothing is seen", x.kinds(1, 0), 31);
        }
        x.forget();
        // behind 6 LENTS: GUEST 2, WIDOW 14 + 12 + 14, GENERAL 2, CHILD 0, SAINT 10
        x.seen(0, 6, 0);
        D.due(28, "kinds(0, 0) by 0 behind 6", x.kinds(0, 0), 1 | 4 | 8);
        x.seen(0, 0, 4);
        D.due(28, "kinds(0, 0) by both", x.kinds(0, 0), 4);
        x.seen(0, 12, 9);
        D.due(28, "kinds(0, 0) by what none fits", x.kinds(0, 0), 0);
        D.due(28, "kinds(0, 1) by what fits most", x.kinds(0, 1), 2);
        D.due(28, "kinds(2, 2)", x.kinds(2, 2), GriefDoors.UNKNOWN);
        D.due(28, "kinds(0, 2)", x.kinds(0, 2), GriefDoors.OUTSIDE);
        D.due(28, "kinds(0, -1)", x.kinds(0, -1), GriefDoors.OUTSIDE);
    }

    private static void ofEachItsOwn() {
        GriefDoors x = Due.houseOf("guest 20 18;guest 20 18");
        x.seen(1, 0, 5);
        x.seen(0, 0, 2);
        D.due(26, "kinds(0, 0)", x.kinds(0, 0), 8);
        D.due(26, "kinds(1, 0)", x.kinds(1, 0), 2);
        D.due(26, "kinds(1, 1)", x.kinds(1, 1), 1);
        D.due(26, "seen(1, 1, 5)", x.seen(1, 1, 5), 3);
        D.due(26, "kinds(1, 0)", x.kinds(1, 0), 2);
        D.due(26, "kinds(0, 0)", x.kinds(0, 0), 8);
    }

    private static void likeliest() {
        GriefDoors x = Due.houseOf("guest 20 18");
        x.seen(0, 0, 2);
        x.seen(0, 0, 5);
        D.due(28, "kinds(0, 1), of like ones the least", x.kinds(0, 1), 1);
        x.seen(0, 1, 1);
        D.due(28, "kinds(0, 1), two of three", x.kinds(0, 1), 3);
        x.seen(0, 12, 9);
        x.seen(0, 11, 9);
        D.due(28, "kinds(0, 1), two of five", x.kinds(0, 1), 3);
        D.due(28, "kinds(0, 0), none", x.kinds(0, 0), 0);
        x.forget();
        x.seen(0, 12, 9);
        D.due(28, "kinds(0, 1), none of one", x.kinds(0, 1), 0);
    }

    private static void asTheyAreNow() {
        GriefDoors x = Due.houseOf("guest 20 18");
        x.seen(0, 0, 3);
        D.due(28, "kinds(0, 0)", x.kinds(0, 0), 1);
        x.lent(1);
        // 17 and 15: GUEST 32, WIDOW 49, GENERAL 37, CHILD 17, SAINT 8
        D.due(28, "kinds(0, 0) behind a LENT", x.kinds(0, 0), 5);
        x.comfort(0);
        // 15: GUEST 15, WIDOW 30, GENERAL 15, CHILD 15, SAINT 7
        D.due(28, "kinds(0, 0) behind a comfort", x.kinds(0, 0), 2);
        D.due(28, "kinds(0, 1) behind a comfort", x.kinds(0, 1), 1);
        x.undo();
        D.due(28, "kinds(0, 0) undone", x.kinds(0, 0), 5);
    }
}
