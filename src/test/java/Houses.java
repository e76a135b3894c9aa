/** Houses to ask, each with something at its bound. */
final class Houses {
    static final String SEVEN = "guest;guest;guest;guest;guest;guest;guest";

    /** Of everything something: six PEOPLE, the last with no GRIEFS, the saint with three; a text is begun. */
    static void busy(GriefDoors x) {
        Due.tell(x, "guest 50 4;widow 30 20;general 44 5 6;child 60;saint 81 7 3;guest;pair 3 0;pair 1 2");
        x.pair(4, 0);
        x.lent(2);
        x.keep(0);
        x.grieve(0, 9);
        x.comfort(1);
        x.keep(1);
        x.lent(1);
        x.seen(0, 0, 4);
        x.seen(3, 1, 3);
        fill(x, 0, 0, 5, -3, 5, 0);
        x.put(0, 2, 3, 0);
        x.put(0, 3, 1, 77);
        fill(x, 1, 1, 26, 25, 17575);
        fill(x, 2, 2, 1, 4, 0);
        Due.write(x, "child 7;pair 6 0");
    }

    /** A text of 200 letters. */
    static void fullOfLetters(GriefDoors x) {
        Due.tell(x, "guest 9;child 8");
        Due.write(x, "saint 5;pair 2 0" + " ".repeat(184));
    }

    /** Twelve PAIRS, a text's and eleven more. */
    static void fullOfPairs(GriefDoors x) {
        Due.tell(x, "guest 9;guest 8;guest 7;pair 2 1");
        for (int k = 1; k < 12; k++) {
            x.pair(k % 2, 2);
        }
    }

    static void lentBegun(GriefDoors x, int lent) {
        Due.tell(x, "saint 9;guest 99");
        for (int left = lent; left > 0; left -= 12) {
            x.lent(Math.min(left, 12));
        }
    }

    static void fullOfSights(GriefDoors x) {
        Due.tell(x, "guest 30;saint 20 8");
        for (int k = 0; k < 6; k++) {
            x.seen(k % 2, k, 4 - k % 4);
        }
    }

    /** A drawer that is as long as its values, all of one sort. */
    static void fill(GriefDoors x, int drawer, int what, int... values) {
        x.drawer(drawer, values.length);
        for (int i = 0; i < values.length; i++) {
            x.put(drawer, i, what, values[i]);
        }
    }

    /** What a drawer has, each as it is of this sort. */
    static String inside(GriefDoors x, int drawer, int what, int places) {
        StringBuilder all = new StringBuilder();
        for (int i = 0; i < places; i++) {
            all.append(x.take(drawer, i, what) - (what == 0 ? 50000 : 0)).append(' ');
        }
        return all.toString();
    }

    private Houses() {
    }
}
