/** Promises 11 to 16 at their bounds: what is done, undone and kept. A method for each sentence. */
public final class EdgesDoneTest {
    private static final Due D = Due.begin();
    private static final int NONE = GriefDoors.NONE;
    private static final int UNKNOWN = GriefDoors.UNKNOWN;
    private static final int OUTSIDE = GriefDoors.OUTSIDE;
    private static final int NOT = GriefDoors.NOT;
    private static final int FULL = GriefDoors.FULL;
    private static final int LEAST = Integer.MIN_VALUE;
    private static final int MOST = Integer.MAX_VALUE;
    /** Nobody of a busy house, of whom there are six. */
    private static final int[] NOBODY = {-1, 6, 7, LEAST, MOST};

    public static void main(String[] args) {
        lentsAtOnce();
        lentsOutside();
        togetherTheyAreUndone();
        aboveTheLastLent();
        outsideAheadOfFull();
        atNoughtItIsGone();
        twelveLents();
        theOthersStayInTheirOrder();
        lentOfNobody();
        griefMore();
        griefWeights();
        grieveUnknown();
        threeGriefs();
        comforted();
        firstOfLikeOnes();
        comfortRefused();
        noneToUndo();
        theLastEight();
        backAndForth();
        undoneAlone();
        keptKs();
        keptEachByItself();
        keptAnew();
        asTheyWereKept();
        nothingCanBeUndone();
        nothingWasKept();
        D.end("EdgesDoneTest");
    }

    private static Sentence says(int promise, String words) {
        return new Sentence(D, promise, words);
    }

    private static void griefs(Sentence s, String behind, GriefDoors x, int person, int... due) {
        for (int k = 0; k < 3; k++) {
            s.is("grief(" + person + ", " + k + ") behind " + behind, x.grief(person, k), k < due.length ? due[k] : NONE);
        }
    }

    // ---- lent

    private static void lentsAtOnce() {
        Sentence s = says(11, "LENTS (n 1 .. 12, together they are undone): which it is.");
        GriefDoors x = Due.houseOf("widow 99;guest 99");
        s.is("lent(1)", x.lent(1), 1);
        griefs(s, "lent(1)", x, 0, 98);
        griefs(s, "lent(1)", x, 1, 96);
        s.is("lent(12)", x.lent(12), 13);
        griefs(s, "lent(12)", x, 0, 86);
        griefs(s, "lent(12)", x, 1, 60);
        s.is("count(2)", x.count(2), 13);
    }

    private static void lentsOutside() {
        Sentence s = says(11, "which it is. OUTSIDE");
        int[] outside = {0, 13, -1, LEAST, MOST};
        for (int n : outside) {
            s.changesNothing("lent(" + n + ")", Houses::busy, x -> x.lent(n), OUTSIDE);
            s.changesNothing("lent(" + n + ") of a new house", x -> { }, x -> x.lent(n), OUTSIDE);
        }
    }

    private static void togetherTheyAreUndone() {
        Sentence s = says(11, "together they are undone");
        GriefDoors x = Due.houseOf("guest 99 36;child 72");
        x.lent(1);
        x.lent(12);
        s.is("count(8)", x.count(8), 2);
        s.is("undo()", x.undo(), 1);
        s.is("count(2)", x.count(2), 1);
        griefs(s, "undo()", x, 0, 96, 33);
        griefs(s, "undo()", x, 1, 66);
        s.is("undo()", x.undo(), 0);
        s.is("count(2)", x.count(2), 0);
        griefs(s, "undo()", x, 0, 99, 36);
    }

    private static void aboveTheLastLent() {
        Sentence s = says(11, "FULL: it would be above 999.");
        GriefDoors x = new GriefDoors();
        Houses.lentBegun(x, 987);
        s.is("lent(12) at 987", x.lent(12), 999);
        s.is("lent(1) at 999", x.lent(1), FULL);
        x.undo();
        s.is("count(2), undone", x.count(2), 987);
        s.is("lent(1)", x.lent(1), 988);
        s.is("lent(12) at 988", x.lent(12), FULL);
        s.is("lent(11) at 988", x.lent(11), 999);
        x.undo();
        s.is("lent(10) at 988", x.lent(10), 998);
        s.is("lent(2) at 998", x.lent(2), FULL);
        s.is("lent(1) at 998", x.lent(1), 999);
        s.changesNothing("lent(1) at 999", y -> Houses.lentBegun(y, 999), y -> y.lent(1), FULL);
        s.changesNothing("lent(12) at 988", y -> Houses.lentBegun(y, 988), y -> y.lent(12), FULL);
    }

    private static void outsideAheadOfFull() {
        Sentence s = says(11, "OUTSIDE; FULL");
        int[] outside = {0, 13, -1, LEAST, MOST};
        for (int n : outside) {
            s.changesNothing("lent(" + n + ") at 999", x -> Houses.lentBegun(x, 999), x -> x.lent(n), OUTSIDE);
        }
        s.changesNothing("lent(12) at 999", x -> Houses.lentBegun(x, 999), x -> x.lent(12), FULL);
    }

    private static void atNoughtItIsGone() {
        Sentence s = says(11, "at 0, or below, it is gone");
        GriefDoors x = Due.houseOf("guest 2 3 4;widow 1 2 3;general 2 3 4;child 5 6 7;saint 1 2 3;widow 1 1 1;saint 1 1 1");
        s.is("lent(1)", x.lent(1), 1);
        griefs(s, "a LENT", x, 0, 1);
        griefs(s, "a LENT", x, 1, 1, 2);
        griefs(s, "a LENT", x, 2, 1);
        griefs(s, "a LENT", x, 3, 1);
        griefs(s, "a LENT", x, 4, 1, 2, 3);
        griefs(s, "a LENT", x, 5);
        griefs(s, "a LENT", x, 6, 1, 1, 1);
        s.is("count(5)", x.count(5), 11);
        GriefDoors least = Due.houseOf("guest 1;child 1;general 1");
        least.lent(1);
        s.is("count(5) of what was far below", least.count(5), 0);
        s.is("comfort(0) of what is gone", least.comfort(0), NOT);
    }

    private static void twelveLents() {
        Sentence s = says(11, "each GRIEF is by so much less of WEIGHT as by KIND it FADES");
        GriefDoors x = Due.houseOf("guest 35 36 37;widow 11 12 13;general 35 36 37;child 71 72 73;saint 1 98 99;child 99;guest 1 99");
        s.is("lent(12)", x.lent(12), 12);
        griefs(s, "lent(12)", x, 0, 1);
        griefs(s, "lent(12)", x, 1, 1);
        griefs(s, "lent(12)", x, 2, 1);
        griefs(s, "lent(12)", x, 3, 1);
        griefs(s, "lent(12)", x, 4, 1, 98, 99);
        griefs(s, "lent(12)", x, 5, 27);
        griefs(s, "lent(12)", x, 6, 63);
    }

    private static void theOthersStayInTheirOrder() {
        Sentence s = says(11, "(the others stay in their order)");
        GriefDoors x = Due.houseOf("guest 3 9 5;guest 9 3 5;guest 9 5 3;guest 3 3 5;guest 5 3 2;guest 3 5 1;guest 5 9 4");
        x.lent(1);
        griefs(s, "a LENT", x, 0, 6, 2);
        griefs(s, "a LENT", x, 1, 6, 2);
        griefs(s, "a LENT", x, 2, 6, 2);
        griefs(s, "a LENT", x, 3, 2);
        griefs(s, "a LENT", x, 4, 2);
        griefs(s, "a LENT", x, 5, 2);
        griefs(s, "a LENT", x, 6, 2, 6, 1);
    }

    private static void lentOfNobody() {
        Sentence s = says(11, "Then it is the next LENT.");
        GriefDoors x = new GriefDoors();
        s.is("lent(12) of nobody", x.lent(12), 12);
        s.is("lent(1) of nobody", x.lent(1), 13);
        s.is("count(8)", x.count(8), 2);
        s.is("undo()", x.undo(), 1);
        s.is("count(2)", x.count(2), 12);
    }

    // ---- grieve, comfort

    private static void griefMore() {
        Sentence s = says(12, "one has a GRIEF more, behind the others");
        GriefDoors x = Due.houseOf("general;guest;guest;guest;guest;guest;widow 5");
        s.is("grieve(0, 9)", x.grieve(0, 9), 9);
        s.is("grieve(0, 50), LOAD then", x.grieve(0, 50), 64);
        s.is("grieve(0, 1)", x.grieve(0, 1), 65);
        griefs(s, "three", x, 0, 9, 50, 1);
        s.is("grieve(6, 99)", x.grieve(6, 99), 203);
        griefs(s, "one", x, 6, 5, 99);
        griefs(s, "all", x, 1);
        griefs(s, "all", x, 5);
        s.is("count(8)", x.count(8), 4);
        s.is("grieve of a saint, LOAD 0 then", Due.houseOf("saint").grieve(0, 1), 0);
    }

    private static void griefWeights() {
        Sentence s = says(12, "OUTSIDE (WEIGHT 1 .. 99)");
        GriefDoors x = Due.houseOf("child;child");
        s.is("grieve(0, 1)", x.grieve(0, 1), 1);
        s.is("grieve(1, 99)", x.grieve(1, 99), 99);
        int[] outside = {0, 100, -1, LEAST, MOST};
        for (int weight : outside) {
            s.changesNothing("grieve(0, " + weight + ")", Houses::busy, y -> y.grieve(0, weight), OUTSIDE);
            s.changesNothing("grieve(5, " + weight + ") of no GRIEFS", Houses::busy, y -> y.grieve(5, weight), OUTSIDE);
        }
    }

    private static void grieveUnknown() {
        Sentence s = says(12, "LOAD then. UNKNOWN; OUTSIDE");
        for (int person : NOBODY) {
            s.changesNothing("grieve(" + person + ", 5)", Houses::busy, x -> x.grieve(person, 5), UNKNOWN);
            s.changesNothing("grieve(" + person + ", 0)", Houses::busy, x -> x.grieve(person, 0), UNKNOWN);
            s.changesNothing("grieve(" + person + ", 100)", Houses::busy, x -> x.grieve(person, 100), UNKNOWN);
            s.is("grieve(" + person + ", 5) of a new house", new GriefDoors().grieve(person, 5), UNKNOWN);
        }
        s.is("grieve(0, 5) of nobody", new GriefDoors().grieve(0, 5), UNKNOWN);
    }

    private static void threeGriefs() {
        Sentence s = says(12, "OUTSIDE (WEIGHT 1 .. 99); FULL: three GRIEFS.");
        s.changesNothing("grieve(4, 1)", Houses::busy, x -> x.grieve(4, 1), FULL);
        s.changesNothing("grieve(4, 99)", Houses::busy, x -> x.grieve(4, 99), FULL);
        s.changesNothing("grieve(4, 0)", Houses::busy, x -> x.grieve(4, 0), OUTSIDE);
        s.changesNothing("grieve(4, 100)", Houses::busy, x -> x.grieve(4, 100), OUTSIDE);
        GriefDoors x = Due.houseOf("guest 4 50;guest");
        s.is("a third", x.grieve(0, 5), 59);
        s.is("a fourth", x.grieve(0, 5), FULL);
        s.is("of another", x.grieve(1, 5), 5);
        x.comfort(0);
        s.is("a third behind a comfort", x.grieve(0, 6), 15);
        s.is("a fourth", x.grieve(0, 5), FULL);
        x.undo();
        s.is("a third, undone", x.grieve(0, 7), 16);
        s.is("count(5)", x.count(5), 4);
    }

    private static void comforted() {
        Sentence s = says(13, "COMFORTED: the greatest GRIEF of one, the first of like ones, is gone.");
        GriefDoors x = Due.houseOf("guest 9 1 2;guest 1 9 2;guest 1 2 9;child 99;saint 1;guest;widow 7 8");
        for (int one = 0; one < 3; one++) {
            s.is("comfort(" + one + ")", x.comfort(one), 9);
            griefs(s, "comfort(" + one + ")", x, one, 1, 2);
        }
        s.is("comfort(3), of one GRIEF", x.comfort(3), 99);
        griefs(s, "comfort(3)", x, 3);
        s.is("comfort(4), whose LOAD is 0", x.comfort(4), 1);
        s.is("comfort(6)", x.comfort(6), 8);
        griefs(s, "comfort(6)", x, 6, 7);
        s.is("comfort(6)", x.comfort(6), 7);
        griefs(s, "comfort(6)", x, 6);
    }

    private static void firstOfLikeOnes() {
        Sentence s = says(13, "the first of like ones");
        GriefDoors x = Due.houseOf("guest 9 5 9;guest 9 9 5;guest 5 9 9;guest 9 9 9");
        for (int one = 0; one < 4; one++) {
            s.is("comfort(" + one + ")", x.comfort(one), 9);
        }
        griefs(s, "comfort, the first of 9 5 9 is gone", x, 0, 5, 9);
        griefs(s, "comfort", x, 1, 9, 5);
        griefs(s, "comfort", x, 2, 5, 9);
        griefs(s, "comfort", x, 3, 9, 9);
    }

    private static void comfortRefused() {
        Sentence s = says(13, "the WEIGHT that is gone. UNKNOWN; NOT: no GRIEF.");
        s.changesNothing("comfort(5)", Houses::busy, x -> x.comfort(5), NOT);
        for (int person : NOBODY) {
            s.changesNothing("comfort(" + person + ")", Houses::busy, x -> x.comfort(person), UNKNOWN);
        }
        s.is("comfort(0) of nobody", new GriefDoors().comfort(0), UNKNOWN);
        GriefDoors x = Due.houseOf("guest 3 2 1");
        for (int k = 3; k > 0; k--) {
            s.is("comfort(0)", x.comfort(0), k);
        }
        s.is("comfort(0), none left", x.comfort(0), NOT);
        s.is("count(8)", x.count(8), 3);
    }

    // ---- undo

    private static void noneToUndo() {
        Sentence s = says(14, "how many can be undone yet. NOT: none.");
        s.changesNothing("undo() of a new house", x -> { }, x -> x.undo(), NOT);
        s.changesNothing("undo() behind a text", x -> Due.tell(x, "guest 9;child 8;pair 1 0"), x -> x.undo(), NOT);
        GriefDoors x = Due.houseOf("guest 9");
        x.lent(1);
        s.is("undo() of one", x.undo(), 0);
        s.is("undo() again", x.undo(), NOT);
        griefs(s, "undo()", x, 0, 9);
        x.grieve(0, 5);
        s.is("undo() of another", x.undo(), 0);
        s.is("undo() again", x.undo(), NOT);
        s.changesNothing("undo() where all is undone", y -> {
            Houses.busy(y);
            y.undo();
            y.undo();
            y.undo();
            y.undo();
        }, y -> y.undo(), NOT);
    }

    private static void theLastEight() {
        Sentence s = says(14, "(the last 8 can be)");
        GriefDoors eight = Due.houseOf("saint 50");
        for (int k = 1; k <= 8; k++) {
            eight.lent(1);
            s.is("count(8)", eight.count(8), k);
        }
        for (int k = 7; k >= 0; k--) {
            s.is("undo() of eight", eight.undo(), k);
            s.is("count(2)", eight.count(2), k);
        }
        s.is("undo()", eight.undo(), NOT);
        GriefDoors nine = Due.houseOf("guest 99 98 97");
        nine.comfort(0);
        nine.lent(2);
        for (int k = 3; k <= 9; k++) {
            nine.lent(1);
        }
        s.is("count(8) of nine", nine.count(8), 8);
        for (int k = 7; k >= 0; k--) {
            s.is("undo() of nine", nine.undo(), k);
        }
        s.is("undo() of the ninth", nine.undo(), NOT);
        griefs(s, "all but the first", nine, 0, 98, 97);
        s.is("count(2)", nine.count(2), 0);
    }

    private static void backAndForth() {
        Sentence s = says(14, "The latest lent(), grieve(), comfort() is undone");
        GriefDoors x = Due.houseOf("child 99;widow");
        for (int k = 1; k <= 13; k++) {
            x.lent(1);
        }
        s.is("undo()", x.undo(), 7);
        s.is("undo()", x.undo(), 6);
        x.grieve(1, 9);
        x.comfort(0);
        x.lent(2);
        s.is("count(8)", x.count(8), 8);
        s.is("undo() of lent(2)", x.undo(), 7);
        s.is("count(2)", x.count(2), 11);
        griefs(s, "undo()", x, 0);
        griefs(s, "undo()", x, 1, 9);
        s.is("undo() of comfort(0)", x.undo(), 6);
        griefs(s, "undo()", x, 0, 33);
        s.is("undo() of grieve(1, 9)", x.undo(), 5);
        griefs(s, "undo()", x, 1);
        for (int k = 4; k >= 0; k--) {
            s.is("undo()", x.undo(), k);
        }
        s.is("count(2), as nine of lent(1) can't be undone", x.count(2), 6);
        s.is("undo()", x.undo(), NOT);
    }

    private static void undoneAlone() {
        Sentence s = says(14, "The latest lent(), grieve(), comfort()");
        GriefDoors x = Due.houseOf("guest 9;guest 8");
        x.lent(1);
        x.pair(1, 0);
        x.seen(0, 0, 0);
        x.drawer(0, 2);
        x.keep(0);
        x.write('g');
        x.lent(0);
        x.grieve(0, 0);
        x.comfort(2);
        s.is("count(8), lent(1) alone", x.count(8), 1);
        s.is("undo()", x.undo(), 0);
        s.is("count(1)", x.count(1), 1);
        s.is("count(6)", x.count(6), 1);
        s.is("count(7)", x.count(7), 1);
        s.is("count(9)", x.count(9), 1);
        s.is("back(0)", x.back(0), 1);
        griefs(s, "back(0)", x, 0, 6);
    }

    // ---- keep, back

    private static void keptKs() {
        Sentence s = says(15, "All GRIEFS, the LENT are kept (k 0, 1): the LENT. UNKNOWN: no such k.");
        GriefDoors x = new GriefDoors();
        s.is("keep(0) of a new house", x.keep(0), 0);
        Houses.lentBegun(x, 999);
        s.is("keep(1)", x.keep(1), 999);
        s.is("keep(0)", x.keep(0), 999);
        int[] unknown = {-1, 2, LEAST, MOST};
        for (int k : unknown) {
            s.changesNothing("keep(" + k + ")", Houses::busy, y -> y.keep(k), UNKNOWN);
            s.changesNothing("keep(" + k + ") of a new house", y -> { }, y -> y.keep(k), UNKNOWN);
        }
    }

    private static void keptEachByItself() {
        Sentence s = says(15, "All GRIEFS, the LENT are kept (k 0, 1)");
        GriefDoors x = Due.houseOf("guest 9 8 7;guest;guest;guest;guest;guest;saint 99 98 97");
        s.is("keep(1)", x.keep(1), 0);
        x.lent(2);
        x.comfort(6);
        s.is("keep(0)", x.keep(0), 2);
        x.lent(12);
        x.comfort(6);
        s.is("back(1)", x.back(1), 0);
        griefs(s, "back(1)", x, 0, 9, 8, 7);
        griefs(s, "back(1)", x, 6, 99, 98, 97);
        s.is("back(0)", x.back(0), 2);
        griefs(s, "back(0)", x, 0, 3, 2, 1);
        griefs(s, "back(0)", x, 6, 98, 97);
        griefs(s, "back(0)", x, 1);
    }

    private static void keptAnew() {
        Sentence s = says(15, "are kept");
        GriefDoors x = Due.houseOf("guest 99");
        x.keep(0);
        x.lent(1);
        s.is("keep(0) anew", x.keep(0), 1);
        s.is("count(8), as nothing else changes", x.count(8), 1);
        x.lent(1);
        s.is("back(0)", x.back(0), 1);
        griefs(s, "back(0)", x, 0, 96);
        x.comfort(0);
        s.is("back(0), kept yet", x.back(0), 1);
        griefs(s, "back(0)", x, 0, 96);
    }

    private static void asTheyWereKept() {
        Sentence s = says(16, "They are as they were kept");
        GriefDoors x = Due.houseOf("guest 99 3;guest 50");
        x.lent(1);
        x.keep(0);
        x.undo();
        x.pair(1, 0);
        x.seen(1, 0, 5);
        x.drawer(1, 4);
        x.write('g');
        s.is("back(0), of what is undone", x.back(0), 1);
        griefs(s, "back(0)", x, 0, 96);
        griefs(s, "back(0)", x, 1, 47);
        s.is("count(1), not kept", x.count(1), 1);
        s.is("count(6), not kept", x.count(6), 1);
        s.is("count(7), not kept", x.count(7), 1);
        s.is("count(9), not kept", x.count(9), 1);
        GriefDoors last = new GriefDoors();
        Houses.lentBegun(last, 999);
        last.keep(1);
        Due.write(last, "pair 0 1");
        last.undo();
        s.is("back(1) at 999", last.back(1), 999);
        s.is("lent(1)", last.lent(1), FULL);
    }

    private static void nothingCanBeUndone() {
        Sentence s = says(16, "nothing can be undone");
        GriefDoors x = Due.houseOf("guest 99");
        x.keep(0);
        s.is("back(0) at once", x.back(0), 0);
        s.is("undo()", x.undo(), NOT);
        for (int k = 0; k < 9; k++) {
            x.lent(1);
        }
        s.is("count(8)", x.count(8), 8);
        s.is("back(0)", x.back(0), 0);
        s.is("count(8)", x.count(8), 0);
        s.is("undo()", x.undo(), NOT);
        x.lent(3);
        s.is("undo() of what was done since", x.undo(), 0);
        s.is("count(2)", x.count(2), 0);
        griefs(s, "undo()", x, 0, 99);
    }

    private static void nothingWasKept() {
        Sentence s = says(16, "UNKNOWN; NOT: nothing was kept since the last text.");
        s.changesNothing("back(0) of a new house", x -> { }, x -> x.back(0), NOT);
        s.changesNothing("back(1), as 0 alone is kept", x -> {
            Due.tell(x, "guest 9");
            x.keep(0);
            x.lent(1);
        }, x -> x.back(1), NOT);
        s.changesNothing("back(0), as 1 alone is kept", x -> {
            Due.tell(x, "guest 9");
            x.keep(1);
            x.lent(1);
        }, x -> x.back(0), NOT);
        s.changesNothing("back(0), as a text was done since", x -> {
            Due.tell(x, "guest 9");
            x.keep(0);
            Due.tell(x, "guest 8");
            x.lent(1);
        }, x -> x.back(0), NOT);
        int[] unknown = {-1, 2, LEAST, MOST};
        for (int k : unknown) {
            s.changesNothing("back(" + k + ")", Houses::busy, x -> x.back(k), UNKNOWN);
            s.changesNothing("back(" + k + ") of a new house", x -> { }, x -> x.back(k), UNKNOWN);
        }
        GriefDoors x = Due.houseOf("guest 9");
        x.keep(0);
        Due.tell(x, "butler");
        s.is("back(0), as that text was not done", x.back(0), 0);
    }
}
