/** Promises 26 to 28 at their bounds: what was seen. A method for each sentence. */
public final class EdgesSeenTest {
    private static final Due D = Due.begin();
    private static final int UNKNOWN = GriefDoors.UNKNOWN;
    private static final int OUTSIDE = GriefDoors.OUTSIDE;
    private static final int FULL = GriefDoors.FULL;
    private static final int LEAST = Integer.MIN_VALUE;
    private static final int MOST = Integer.MAX_VALUE;
    /** Nobody of a busy house, of whom there are six. */
    private static final int[] NOBODY = {-1, 6, 7, LEAST, MOST};
    private static final int[] OUTSIDE_12 = {-1, 13, LEAST, MOST};
    private static final int[] OUTSIDE_9 = {-1, 10, LEAST, MOST};

    public static void main(String[] args) {
        howMany();
        lentsAndSteps();
        outside();
        sixAtMost();
        whichRefusalComesFirst();
        seenIsNothing();
        kindsByBits();
        nothingIsSeenOfIt();
        noKind();
        behindNLents();
        stepsAtTheirEnds();
        likeliestOfLikeOnes();
        byMost();
        asTheyAreNow();
        kindsRefused();
        D.end("EdgesSeenTest");
    }

    private static Sentence says(int promise, String words) {
        return new Sentence(D, promise, words);
    }

    private static void kinds(Sentence s, GriefDoors x, int person, int bits, int likeliest) {
        s.is("kinds(" + person + ", 0)", x.kinds(person, 0), bits);
        s.is("kinds(" + person + ", 1)", x.kinds(person, 1), likeliest);
    }

    // ---- seen, forget

    private static void howMany() {
        Sentence s = says(26, "SEEN: how many.");
        GriefDoors x = Due.houseOf("guest 20 18;guest;guest;guest;guest;guest;saint 20 18");
        s.is("count(6)", x.count(6), 0);
        s.is("seen(0, 0, 3)", x.seen(0, 0, 3), 1);
        s.is("seen(6, 0, 1), the last PERSON", x.seen(6, 0, 1), 2);
        s.is("seen(6, 0, 1), the same again", x.seen(6, 0, 1), 3);
        s.is("count(6)", x.count(6), 3);
        kinds(s, x, 0, 1, 0);
        kinds(s, x, 6, 16, 4);
        kinds(s, x, 5, 31, 0);
    }

    private static void lentsAndSteps() {
        Sentence s = says(26, "behind n LENTS (0 .. 12) from now on the STEP of a PERSON was s (0 .. 9)");
        GriefDoors x = Due.houseOf("saint 99 99");
        s.is("seen(0, 0, 0)", x.seen(0, 0, 0), 1);
        s.is("seen(0, 12, 0)", x.seen(0, 12, 0), 2);
        s.is("seen(0, 0, 9)", x.seen(0, 0, 9), 3);
        s.is("seen(0, 12, 9)", x.seen(0, 12, 9), 4);
        s.is("seen(0, 1, 1)", x.seen(0, 1, 1), 5);
        s.is("seen(0, 11, 8)", x.seen(0, 11, 8), 6);
    }

    private static void outside() {
        Sentence s = says(26, "how many. UNKNOWN; OUTSIDE");
        for (int n : OUTSIDE_12) {
            s.changesNothing("seen(0, " + n + ", 0)", Houses::busy, x -> x.seen(0, n, 0), OUTSIDE);
            s.changesNothing("seen(6, " + n + ", 0)", Houses::busy, x -> x.seen(6, n, 0), UNKNOWN);
        }
        for (int step : OUTSIDE_9) {
            s.changesNothing("seen(5, 0, " + step + ")", Houses::busy, x -> x.seen(5, 0, step), OUTSIDE);
            s.changesNothing("seen(6, 0, " + step + ")", Houses::busy, x -> x.seen(6, 0, step), UNKNOWN);
        }
        for (int person : NOBODY) {
            s.changesNothing("seen(" + person + ", 0, 0)", Houses::busy, x -> x.seen(person, 0, 0), UNKNOWN);
            s.is("seen(" + person + ", 0, 0) of a new house", new GriefDoors().seen(person, 0, 0), UNKNOWN);
        }
        s.is("seen(0, 0, 0) of nobody", new GriefDoors().seen(0, 0, 0), UNKNOWN);
    }

    private static void sixAtMost() {
        Sentence s = says(26, "SEEN, 6 at most");
        GriefDoors x = Due.houseOf("guest 30;guest 10");
        for (int k = 1; k <= 6; k++) {
            s.is("seen(0, 0, 3), the how manieth " + k, x.seen(0, 0, 3), k);
        }
        s.is("a seventh", x.seen(0, 0, 9), FULL);
        s.is("a seventh, of another", x.seen(1, 0, 1), FULL);
        s.is("count(6)", x.count(6), 6);
        s.is("kinds(0, 0), by six", x.kinds(0, 0), 1 | 4 | 8);
        s.changesNothing("a seventh", Houses::fullOfSights, y -> y.seen(0, 0, 9), FULL);
    }

    private static void whichRefusalComesFirst() {
        Sentence s = says(26, "UNKNOWN; OUTSIDE; FULL");
        s.changesNothing("seen(2, 0, 0) where it is full", Houses::fullOfSights, x -> x.seen(2, 0, 0), UNKNOWN);
        s.changesNothing("seen(-1, 13, 10) where it is full", Houses::fullOfSights, x -> x.seen(-1, 13, 10), UNKNOWN);
        s.changesNothing("seen(0, 13, 0) where it is full", Houses::fullOfSights, x -> x.seen(0, 13, 0), OUTSIDE);
        s.changesNothing("seen(0, -1, 0) where it is full", Houses::fullOfSights, x -> x.seen(0, -1, 0), OUTSIDE);
        s.changesNothing("seen(0, 0, 10) where it is full", Houses::fullOfSights, x -> x.seen(0, 0, 10), OUTSIDE);
        s.changesNothing("seen(1, 0, -1) where it is full", Houses::fullOfSights, x -> x.seen(1, 0, -1), OUTSIDE);
        s.changesNothing("seen(1, 12, 9) where it is full", Houses::fullOfSights, x -> x.seen(1, 12, 9), FULL);
    }

    private static void seenIsNothing() {
        Sentence s = says(27, "SEEN is nothing: how many there were.");
        GriefDoors x = new GriefDoors();
        s.is("forget() of nothing", x.forget(), 0);
        Houses.fullOfSights(x);
        s.is("forget() of six", x.forget(), 6);
        s.is("forget() again", x.forget(), 0);
        s.is("count(6)", x.count(6), 0);
        kinds(s, x, 0, 31, 0);
        kinds(s, x, 1, 31, 0);
        for (int k = 1; k <= 6; k++) {
            s.is("seen, the how manieth " + k + " behind it", x.seen(0, 0, 3), k);
        }
        s.is("a seventh", x.seen(0, 0, 3), FULL);
        s.is("kinds(0, 0), by these alone", x.kinds(0, 0), 1 | 4 | 8);
        s.is("forget()", x.forget(), 6);
        s.is("seen(0, 0, 3)", x.seen(0, 0, 3), 1);
        s.is("forget() of one", x.forget(), 1);
        s.changesNothing("forget() of nothing", y -> Due.tell(y, "guest 9"), y -> y.forget(), 0);
    }

    // ---- kinds

    private static void kindsByBits() {
        Sentence s = says(28, "KINDS (0 .. 4, by bits) of one by which all that is SEEN of it would be so");
        // GRIEFS 20 and 18 by KIND: GUEST 38, WIDOW 58, GENERAL 43, CHILD 20, SAINT 10
        String[] told = {"guest 20 18", "widow 20 18", "general 20 18", "child 20 18", "saint 20 18"};
        int[] steps = {3, 5, 4, 2, 1};
        for (String one : told) {
            for (int kind = 0; kind < 5; kind++) {
                GriefDoors x = Due.houseOf(one);
                x.seen(0, 0, steps[kind]);
                kinds(s, x, 0, 1 << kind, kind);
            }
        }
        GriefDoors none = Due.houseOf("widow");
        none.seen(0, 0, 0);
        kinds(s, none, 0, 31, 0);
        // 41 and 6 by KIND: 47, 88, 52, 41, 20
        s.changesNothing("kinds(0, 0)", Houses::busy, x -> x.kinds(0, 0), 1 | 8);
        s.changesNothing("kinds(0, 1)", Houses::busy, x -> x.kinds(0, 1), 0);
        // 42 behind a LENT by KIND: 39, 82, 39, 36, 21
        s.changesNothing("kinds(3, 0)", Houses::busy, x -> x.kinds(3, 0), 1 | 4 | 8);
    }

    private static void nothingIsSeenOfIt() {
        Sentence s = says(28, "all that is SEEN of it");
        GriefDoors x = Due.houseOf("guest 20 18;saint;guest 20 18");
        kinds(s, x, 0, 31, 0);
        kinds(s, x, 1, 31, 0);
        x.seen(0, 0, 5);
        x.seen(2, 0, 1);
        kinds(s, x, 0, 2, 1);
        kinds(s, x, 1, 31, 0);
        kinds(s, x, 2, 16, 4);
    }

    private static void noKind() {
        Sentence s = says(28, "by which all that is SEEN of it would be so");
        GriefDoors x = Due.houseOf("guest 20 18");
        x.seen(0, 0, 9);
        kinds(s, x, 0, 0, 0);
        x.seen(0, 0, 5);
        kinds(s, x, 0, 0, 1);
        x.forget();
        for (int k = 0; k < 5; k++) {
            x.seen(0, 0, 1);
        }
        kinds(s, x, 0, 16, 4);
        x.seen(0, 0, 2);
        kinds(s, x, 0, 0, 4);
    }

    private static void behindNLents() {
        Sentence s = says(28, "behind n LENTS (0 .. 12)");
        // 36 and 72 behind 12 LENTS by KIND: GUEST 36, WIDOW 24 + 60 + 60, GENERAL 36, CHILD 0, SAINT 36
        GriefDoors x = Due.houseOf("guest 36 72");
        x.seen(0, 12, 3);
        kinds(s, x, 0, 1 | 4 | 16, 0);
        x.forget();
        x.seen(0, 12, 0);
        kinds(s, x, 0, 8, 3);
        // one more of each: 1 + 37 and 5 more, which GENERAL has as there are two
        x = Due.houseOf("guest 37 73");
        x.seen(0, 12, 4);
        kinds(s, x, 0, 4, 2);
        // 99 behind none: 99, 198, 99, 99, 49
        x = Due.houseOf("child 99");
        x.seen(0, 0, 4);
        kinds(s, x, 0, 16, 4);
    }

    private static void stepsAtTheirEnds() {
        Sentence s = says(28, "STEP of one is LOAD by 10 (cut), 9 at most.");
        // by KIND: GUEST 99, WIDOW 198, GENERAL 99, CHILD 99, SAINT 49
        GriefDoors x = Due.houseOf("guest 99");
        x.seen(0, 0, 9);
        kinds(s, x, 0, 1 | 2 | 4 | 8, 0);
        // by KIND: 89, 178, 89, 89, 44
        x = Due.houseOf("guest 89");
        x.seen(0, 0, 8);
        kinds(s, x, 0, 1 | 4 | 8, 0);
        // by KIND: 9, 18, 9, 9, 4
        x = Due.houseOf("guest 9");
        x.seen(0, 0, 0);
        kinds(s, x, 0, 1 | 4 | 8 | 16, 0);
        // by KIND: 10, 20, 10, 10, 5
        x = Due.houseOf("guest 10");
        x.seen(0, 0, 1);
        kinds(s, x, 0, 1 | 4 | 8, 0);
    }

    private static void likeliestOfLikeOnes() {
        Sentence s = says(28, "LIKELIEST for one: the KIND by which most that is SEEN of it would be so; of like ones the least.");
        GriefDoors x = Due.houseOf("saint 20 18");
        kinds(s, x, 0, 31, 0);
        x.seen(0, 0, 1);
        x.seen(0, 0, 2);
        kinds(s, x, 0, 0, 3);
        x.seen(0, 0, 5);
        kinds(s, x, 0, 0, 1);
        x.seen(0, 0, 9);
        kinds(s, x, 0, 0, 1);
        x.seen(0, 0, 1);
        kinds(s, x, 0, 0, 4);
        x.seen(0, 0, 2);
        kinds(s, x, 0, 0, 3);
    }

    private static void byMost() {
        Sentence s = says(28, "the KIND by which most that is SEEN of it would be so");
        GriefDoors x = Due.houseOf("guest 20 18;guest 20 18");
        x.seen(0, 0, 3);
        x.seen(1, 0, 4);
        x.seen(1, 0, 4);
        x.seen(1, 0, 3);
        x.seen(1, 0, 3);
        x.seen(1, 0, 4);
        kinds(s, x, 1, 0, 2);
        kinds(s, x, 0, 1, 0);
    }

    private static void asTheyAreNow() {
        Sentence s = says(28, "(by GRIEFS as they are now)");
        GriefDoors x = Due.houseOf("child 20 18");
        x.keep(1);
        x.seen(0, 0, 3);
        kinds(s, x, 0, 1, 0);
        x.lent(1);
        // 14 and 12: GUEST 26, WIDOW 40, GENERAL 31, CHILD 14, SAINT 7
        kinds(s, x, 0, 4, 2);
        x.grieve(0, 14);
        // 14, 12 and 14: 40, 54, 45, 14, 7
        kinds(s, x, 0, 0, 0);
        x.comfort(0);
        x.comfort(0);
        // 12: 12, 24, 12, 12, 6
        kinds(s, x, 0, 0, 0);
        x.undo();
        x.undo();
        x.undo();
        kinds(s, x, 0, 4, 2);
        x.back(1);
        kinds(s, x, 0, 1, 0);
    }

    private static void kindsRefused() {
        Sentence s = says(28, "KINDS, by bits (what 0), LIKELIEST (1). UNKNOWN; OUTSIDE.");
        int[] outside = {-1, 2, LEAST, MOST};
        for (int what : outside) {
            s.changesNothing("kinds(0, " + what + ")", Houses::busy, x -> x.kinds(0, what), OUTSIDE);
            s.changesNothing("kinds(5, " + what + ")", Houses::busy, x -> x.kinds(5, what), OUTSIDE);
            s.changesNothing("kinds(6, " + what + ")", Houses::busy, x -> x.kinds(6, what), UNKNOWN);
        }
        for (int person : NOBODY) {
            s.changesNothing("kinds(" + person + ", 0)", Houses::busy, x -> x.kinds(person, 0), UNKNOWN);
            s.changesNothing("kinds(" + person + ", 1)", Houses::busy, x -> x.kinds(person, 1), UNKNOWN);
            s.is("kinds(" + person + ", 0) of a new house", new GriefDoors().kinds(person, 0), UNKNOWN);
        }
        s.is("kinds(0, 0) of nobody", new GriefDoors().kinds(0, 0), UNKNOWN);
    }
}
