/** Promises 29 to 35 at their bounds: drawers, and what is counted. A method for each sentence. */
public final class EdgesDrawersTest {
    private static final Due D = Due.begin();
    private static final int UNKNOWN = GriefDoors.UNKNOWN;
    private static final int OUTSIDE = GriefDoors.OUTSIDE;
    private static final int NULL = GriefDoors.NULL;
    private static final int INDEX = GriefDoors.INDEX;
    private static final int EMPTY = GriefDoors.EMPTY;
    private static final int CAST = GriefDoors.CAST;
    private static final int SIZE = GriefDoors.SIZE;
    private static final int LEAST = Integer.MIN_VALUE;
    private static final int MOST = Integer.MAX_VALUE;
    private static final int[] NO_DRAWER = {-1, 4, LEAST, MOST};
    /** Nobody of a busy house, of whom there are six. */
    private static final int[] NOBODY = {-1, 6, 7, LEAST, MOST};

    public static void main(String[] args) {
        howLong();
        aNewOne();
        drawerRefused();
        aPlace();
        numbersPut();
        wordsPut();
        peoplePut();
        vIsNoMatter();
        putOutside();
        noPlaceToPut();
        whichPutIsRefusedFirst();
        takenAsANumber();
        takenAsAWord();
        takenAsAPerson();
        nothingIsThere();
        itIsSomethingElse();
        whichTakeIsRefusedFirst();
        noPlaceToTake();
        tidiedOfHowMany();
        theLesserFirst();
        peopleAsTheyGoIn();
        ofLoadNought();
        aPlaceHasNothing();
        unlikeThings();
        whichTidyIsRefusedFirst();
        copiedToAnotherOne();
        copiedToItself();
        copiedNone();
        copyUnknown();
        copyNull();
        copyBelowNought();
        copyBeyondAnEnd();
        howManyPlacesHadSomething();
        droppedIsMissing();
        dropRefused();
        countedOfNone();
        countedOfAsManyAsThereCanBe();
        countOutside();
        D.end("EdgesDrawersTest");
    }

    private static Sentence says(int promise, String words) {
        return new Sentence(D, promise, words);
    }

    private static void has(Sentence s, GriefDoors x, int drawer, int what, int... due) {
        for (int i = 0; i < due.length; i++) {
            int taken = x.take(drawer, i, what);
            s.is("take(" + drawer + ", " + i + ", " + what + ")", what == 0 && taken > 0 ? taken - 50000 : taken, due[i]);
        }
        s.is("take(" + drawer + ", " + due.length + ", " + what + ")", x.take(drawer, due.length, what), INDEX);
    }

    // ---- drawer

    private static void howLong() {
        Sentence s = says(29, "rows of 0 to 10 PLACES");
        GriefDoors x = new GriefDoors();
        s.is("drawer(0, 0)", x.drawer(0, 0), 0);
        s.is("drawer(1, 1)", x.drawer(1, 1), 1);
        s.is("drawer(2, 9)", x.drawer(2, 9), 9);
        s.is("drawer(3, 10)", x.drawer(3, 10), 10);
        s.is("count(7)", x.count(7), 4);
        int[] places = {0, 1, 9, 10};
        for (int drawer = 0; drawer < 4; drawer++) {
            for (int i = 0; i < places[drawer]; i++) {
                s.is("take(" + drawer + ", " + i + ", 0)", x.take(drawer, i, 0), EMPTY);
            }
            s.is("take(" + drawer + ", " + places[drawer] + ", 0)", x.take(drawer, places[drawer], 0), INDEX);
        }
    }

    private static void aNewOne() {
        Sentence s = says(29, "A DRAWER is a new one with n empty PLACES: n.");
        GriefDoors x = new GriefDoors();
        Houses.fill(x, 0, 0, 1, 2, 3, 4, 5, 6, 7, 8, 9, 10);
        s.is("drawer(0, 10)", x.drawer(0, 10), 10);
        has(s, x, 0, 0, EMPTY, EMPTY, EMPTY, EMPTY, EMPTY, EMPTY, EMPTY, EMPTY, EMPTY, EMPTY);
        Houses.fill(x, 0, 1, 1, 2, 3);
        s.is("drawer(0, 1), a shorter one", x.drawer(0, 1), 1);
        has(s, x, 0, 1, EMPTY);
        s.is("drawer(0, 3), a longer one", x.drawer(0, 3), 3);
        has(s, x, 0, 1, EMPTY, EMPTY, EMPTY);
        s.is("drop(0)", x.drop(0), 0);
        s.is("drawer(0, 2) behind drop", x.drawer(0, 2), 2);
        has(s, x, 0, 1, EMPTY, EMPTY);
        s.is("count(7), as the others are missing", x.count(7), 1);
    }

    private static void drawerRefused() {
        Sentence s = says(29, "UNKNOWN; OUTSIDE (n above 10); SIZE.");
        s.changesNothing("drawer(0, 11)", Houses::busy, x -> x.drawer(0, 11), OUTSIDE);
        s.changesNothing("drawer(3, 11)", Houses::busy, x -> x.drawer(3, 11), OUTSIDE);
        s.changesNothing("drawer(0, " + MOST + ")", Houses::busy, x -> x.drawer(0, MOST), OUTSIDE);
        s.changesNothing("drawer(0, -1)", Houses::busy, x -> x.drawer(0, -1), SIZE);
        s.changesNothing("drawer(3, -1)", Houses::busy, x -> x.drawer(3, -1), SIZE);
        s.changesNothing("drawer(0, " + LEAST + ")", Houses::busy, x -> x.drawer(0, LEAST), SIZE);
        for (int drawer : NO_DRAWER) {
            s.changesNothing("drawer(" + drawer + ", 0)", Houses::busy, x -> x.drawer(drawer, 0), UNKNOWN);
            s.changesNothing("drawer(" + drawer + ", 11)", Houses::busy, x -> x.drawer(drawer, 11), UNKNOWN);
            s.changesNothing("drawer(" + drawer + ", -1)", Houses::busy, x -> x.drawer(drawer, -1), UNKNOWN);
        }
    }

    // ---- put

    private static void aPlace() {
        Sentence s = says(30, "PLACE i of a DRAWER has the number v");
        GriefDoors x = new GriefDoors();
        for (int drawer = 0; drawer < 4; drawer++) {
            x.drawer(drawer, 10);
            s.is("put(" + drawer + ", 0, 0, 5)", x.put(drawer, 0, 0, 5), 1);
            s.is("put(" + drawer + ", 9, 1, 6)", x.put(drawer, 9, 1, 6), 1);
            s.is("put(" + drawer + ", 9, 0, " + drawer + ") over it", x.put(drawer, 9, 0, drawer), 1);
        }
        for (int drawer = 0; drawer < 4; drawer++) {
            has(s, x, drawer, 0, 5, EMPTY, EMPTY, EMPTY, EMPTY, EMPTY, EMPTY, EMPTY, EMPTY, drawer);
        }
    }

    private static void numbersPut() {
        Sentence s = says(30, "the number v (what 0; -9999 .. 9999)");
        GriefDoors x = Due.houseOf("guest");
        x.drawer(2, 4);
        s.is("put(2, 0, 0, -9999)", x.put(2, 0, 0, -9999), 1);
        s.is("put(2, 1, 0, 9999)", x.put(2, 1, 0, 9999), 1);
        s.is("put(2, 2, 0, 0)", x.put(2, 2, 0, 0), 1);
        s.is("put(2, 3, 0, -1)", x.put(2, 3, 0, -1), 1);
        has(s, x, 2, 0, -9999, 9999, 0, -1);
        int[] outside = {-10000, 10000, LEAST, MOST};
        for (int v : outside) {
            s.changesNothing("put(0, 0, 0, " + v + ")", Houses::busy, y -> y.put(0, 0, 0, v), OUTSIDE);
        }
    }

    private static void wordsPut() {
        Sentence s = says(30, "told by its number, aaa 0, aab 1 .., 17575");
        GriefDoors x = new GriefDoors();
        x.drawer(1, 3);
        s.is("put(1, 0, 1, 0)", x.put(1, 0, 1, 0), 1);
        s.is("put(1, 1, 1, 1)", x.put(1, 1, 1, 1), 1);
        s.is("put(1, 2, 1, 17575)", x.put(1, 2, 1, 17575), 1);
        has(s, x, 1, 1, 0, 1, 17575);
        int[] outside = {-1, 17576, -9999, LEAST, MOST};
        for (int v : outside) {
            s.changesNothing("put(1, 0, 1, " + v + ")", Houses::busy, y -> y.put(1, 0, 1, v), OUTSIDE);
        }
    }

    private static void peoplePut() {
        Sentence s = says(30, "UNKNOWN (the DRAWER; by what 2 the PERSON)");
        GriefDoors x = Due.houseOf(Houses.SEVEN);
        x.drawer(3, 2);
        s.is("put(3, 0, 2, 6)", x.put(3, 0, 2, 6), 1);
        s.is("put(3, 1, 2, 0)", x.put(3, 1, 2, 0), 1);
        s.is("put(3, 1, 2, 7)", x.put(3, 1, 2, 7), UNKNOWN);
        has(s, x, 3, 2, 6, 0);
        for (int person : NOBODY) {
            s.changesNothing("put(2, 0, 2, " + person + ")", Houses::busy, y -> y.put(2, 0, 2, person), UNKNOWN);
        }
        GriefDoors nobody = new GriefDoors();
        nobody.drawer(0, 1);
        s.is("put(0, 0, 2, 0) of nobody", nobody.put(0, 0, 2, 0), UNKNOWN);
        for (int drawer : NO_DRAWER) {
            for (int what = 0; what < 4; what++) {
                int asked = what;
                s.changesNothing("put(" + drawer + ", 0, " + what + ", 0)", Houses::busy, y -> y.put(drawer, 0, asked, 0), UNKNOWN);
            }
        }
    }

    private static void vIsNoMatter() {
        Sentence s = says(30, "or nothing (3; v is no matter): 1.");
        int[] values = {0, -1, 9999, 10000, 17576, LEAST, MOST};
        GriefDoors x = Due.houseOf("guest 9");
        for (int v : values) {
            Houses.fill(x, 0, 0, 5, 6);
            s.is("put(0, 1, 3, " + v + ")", x.put(0, 1, 3, v), 1);
            has(s, x, 0, 0, 5, EMPTY);
            s.is("put(0, 1, 3, " + v + ") again", x.put(0, 1, 3, v), 1);
            s.is("drop(0)", x.drop(0), 1);
        }
    }

    private static void putOutside() {
        Sentence s = says(30, "OUTSIDE (what; the number, the WORD)");
        int[] outside = {-1, 4, LEAST, MOST};
        for (int what : outside) {
            s.changesNothing("put(0, 0, " + what + ", 0)", Houses::busy, x -> x.put(0, 0, what, 0), OUTSIDE);
            s.changesNothing("put(0, 4, " + what + ", 0)", Houses::busy, x -> x.put(0, 4, what, 0), OUTSIDE);
            s.changesNothing("put(3, 0, " + what + ", 0)", Houses::busy, x -> x.put(3, 0, what, 0), OUTSIDE);
            s.changesNothing("put(4, 0, " + what + ", 0)", Houses::busy, x -> x.put(4, 0, what, 0), UNKNOWN);
            s.changesNothing("put(0, 0, " + what + ", 6)", Houses::busy, x -> x.put(0, 0, what, 6), OUTSIDE);
        }
    }

    private static void noPlaceToPut() {
        Sentence s = says(30, "INDEX -12 (a PLACE that there is not, or beyond an end, or fewer than none)");
        int[] beyond = {-1, 4, 10, 11, LEAST, MOST};
        for (int i : beyond) {
            for (int what = 0; what < 4; what++) {
                int asked = what;
                s.changesNothing("put(0, " + i + ", " + what + ", 5)", Houses::busy, x -> x.put(0, i, asked, 5), INDEX);
            }
        }
        GriefDoors x = new GriefDoors();
        x.drawer(0, 0);
        x.drawer(1, 10);
        s.is("put(0, 0, 0, 5) where no PLACE is", x.put(0, 0, 0, 5), INDEX);
        s.is("put(0, 0, 3, 5) where no PLACE is", x.put(0, 0, 3, 5), INDEX);
        s.is("put(1, 10, 0, 5)", x.put(1, 10, 0, 5), INDEX);
        s.is("put(1, 9, 0, 5)", x.put(1, 9, 0, 5), 1);
    }

    private static void whichPutIsRefusedFirst() {
        Sentence s = says(30, "UNKNOWN (the DRAWER; by what 2 the PERSON); OUTSIDE (what; the number, the WORD); NULL; INDEX.");
        s.changesNothing("put(4, 0, 0, 10000)", Houses::busy, x -> x.put(4, 0, 0, 10000), UNKNOWN);
        s.changesNothing("put(-1, 0, 1, 17576)", Houses::busy, x -> x.put(-1, 0, 1, 17576), UNKNOWN);
        s.changesNothing("put(4, -1, 3, 0)", Houses::busy, x -> x.put(4, -1, 3, 0), UNKNOWN);
        s.changesNothing("put(3, 0, 2, 6)", Houses::busy, x -> x.put(3, 0, 2, 6), UNKNOWN);
        s.changesNothing("put(3, -1, 2, -1)", Houses::busy, x -> x.put(3, -1, 2, -1), UNKNOWN);
        s.changesNothing("put(0, 4, 2, 6)", Houses::busy, x -> x.put(0, 4, 2, 6), UNKNOWN);
        s.changesNothing("put(3, 0, 0, 10000)", Houses::busy, x -> x.put(3, 0, 0, 10000), OUTSIDE);
        s.changesNothing("put(3, 0, 1, 17576)", Houses::busy, x -> x.put(3, 0, 1, 17576), OUTSIDE);
        s.changesNothing("put(0, 4, 0, -10000)", Houses::busy, x -> x.put(0, 4, 0, -10000), OUTSIDE);
        s.changesNothing("put(0, -1, 1, -1)", Houses::busy, x -> x.put(0, -1, 1, -1), OUTSIDE);
        for (int what = 0; what < 4; what++) {
            int asked = what;
            s.changesNothing("put(3, 0, " + what + ", 5)", Houses::busy, x -> x.put(3, 0, asked, 5), NULL);
            s.changesNothing("put(3, -1, " + what + ", 5)", Houses::busy, x -> x.put(3, -1, asked, 5), NULL);
            s.changesNothing("put(3, 10, " + what + ", 5)", Houses::busy, x -> x.put(3, 10, asked, 5), NULL);
        }
    }

    // ---- take

    private static void takenAsANumber() {
        Sentence s = says(31, "taken as a number (what 0: that, and 50000 more)");
        GriefDoors x = new GriefDoors();
        Houses.fill(x, 3, 0, -9999, 9999, 0, -1);
        s.is("take(3, 0, 0) of -9999", x.take(3, 0, 0), 40001);
        s.is("take(3, 1, 0) of 9999", x.take(3, 1, 0), 59999);
        s.is("take(3, 2, 0) of 0", x.take(3, 2, 0), 50000);
        s.is("take(3, 3, 0) of -1", x.take(3, 3, 0), 49999);
        s.is("take(3, 0, 0), there yet", x.take(3, 0, 0), 40001);
        s.changesNothing("take(0, 0, 0)", Houses::busy, y -> y.take(0, 0, 0), 50005);
        s.changesNothing("take(0, 1, 0)", Houses::busy, y -> y.take(0, 1, 0), 49997);
    }

    private static void takenAsAWord() {
        Sentence s = says(31, "as a WORD (1)");
        GriefDoors x = new GriefDoors();
        Houses.fill(x, 0, 1, 0, 17575);
        s.is("take(0, 0, 1) of aaa", x.take(0, 0, 1), 0);
        s.is("take(0, 1, 1) of zzz", x.take(0, 1, 1), 17575);
        s.changesNothing("take(1, 2, 1)", Houses::busy, y -> y.take(1, 2, 1), 17575);
    }

    private static void takenAsAPerson() {
        Sentence s = says(31, "as a PERSON (2: the number)");
        GriefDoors x = Due.houseOf(Houses.SEVEN);
        Houses.fill(x, 0, 2, 0, 6, 6);
        has(s, x, 0, 2, 0, 6, 6);
        s.changesNothing("take(2, 1, 2)", Houses::busy, y -> y.take(2, 1, 2), 4);
    }

    private static void nothingIsThere() {
        Sentence s = says(31, "EMPTY -13 (nothing is there)");
        GriefDoors x = Due.houseOf("guest");
        x.drawer(0, 10);
        for (int what = 0; what < 3; what++) {
            int asked = what;
            s.is("take(0, 0, " + what + ")", x.take(0, 0, what), EMPTY);
            s.is("take(0, 9, " + what + ")", x.take(0, 9, what), EMPTY);
            s.changesNothing("take(0, 2, " + what + "), nothing there again", Houses::busy, y -> y.take(0, 2, asked), EMPTY);
        }
    }

    private static void itIsSomethingElse() {
        Sentence s = says(31, "CAST -14 (it is something else");
        for (int is = 0; is < 3; is++) {
            for (int what = 0; what < 3; what++) {
                if (is != what) {
                    GriefDoors x = Due.houseOf("guest");
                    Houses.fill(x, 1, is, 0);
                    s.is("take(1, 0, " + what + ") of what is " + is, x.take(1, 0, what), CAST);
                    s.is("take(1, 0, " + is + ")", x.take(1, 0, is), is == 0 ? 50000 : 0);
                }
            }
        }
        s.changesNothing("take(0, 3, 0) of a WORD", Houses::busy, x -> x.take(0, 3, 0), CAST);
        s.changesNothing("take(0, 0, 1) of a number", Houses::busy, x -> x.take(0, 0, 1), CAST);
        s.changesNothing("take(2, 0, 0) of a PERSON", Houses::busy, x -> x.take(2, 0, 0), CAST);
    }

    private static void whichTakeIsRefusedFirst() {
        Sentence s = says(31, "UNKNOWN; OUTSIDE; NULL; INDEX; EMPTY; CAST.");
        int[] outside = {-1, 3, LEAST, MOST};
        for (int what : outside) {
            s.changesNothing("take(4, 0, " + what + ")", Houses::busy, x -> x.take(4, 0, what), UNKNOWN);
            s.changesNothing("take(3, 0, " + what + ")", Houses::busy, x -> x.take(3, 0, what), OUTSIDE);
            s.changesNothing("take(0, 4, " + what + ")", Houses::busy, x -> x.take(0, 4, what), OUTSIDE);
            s.changesNothing("take(0, 2, " + what + ")", Houses::busy, x -> x.take(0, 2, what), OUTSIDE);
            s.changesNothing("take(0, 0, " + what + ")", Houses::busy, x -> x.take(0, 0, what), OUTSIDE);
        }
        for (int drawer : NO_DRAWER) {
            s.changesNothing("take(" + drawer + ", 0, 0)", Houses::busy, x -> x.take(drawer, 0, 0), UNKNOWN);
            s.changesNothing("take(" + drawer + ", -1, 0)", Houses::busy, x -> x.take(drawer, -1, 0), UNKNOWN);
        }
        int[] beyond = {-1, 0, 10, LEAST, MOST};
        for (int i : beyond) {
            s.changesNothing("take(3, " + i + ", 0)", Houses::busy, x -> x.take(3, i, 0), NULL);
        }
    }

    private static void noPlaceToTake() {
        Sentence s = says(31, "INDEX -12 (a PLACE that there is not, or beyond an end, or fewer than none)");
        int[] beyond = {-1, 4, 10, LEAST, MOST};
        for (int i : beyond) {
            s.changesNothing("take(0, " + i + ", 0)", Houses::busy, x -> x.take(0, i, 0), INDEX);
        }
        GriefDoors x = new GriefDoors();
        x.drawer(0, 0);
        s.is("take(0, 0, 0) where no PLACE is", x.take(0, 0, 0), INDEX);
        Houses.fill(x, 0, 0, 1, 2, 3, 4, 5, 6, 7, 8, 9, 10);
        s.is("take(0, 9, 0)", x.take(0, 9, 0), 50010);
        s.is("take(0, 10, 0)", x.take(0, 10, 0), INDEX);
        Houses.fill(x, 0, 0, 1);
        s.is("take(0, 1, 0) of a shorter one", x.take(0, 1, 0), INDEX);
    }

    // ---- tidy

    private static void tidiedOfHowMany() {
        Sentence s = says(32, "TIDIED: how many PLACES it has.");
        GriefDoors x = new GriefDoors();
        x.drawer(0, 0);
        s.is("tidy(0) of no PLACE", x.tidy(0), 0);
        Houses.fill(x, 1, 1, 17575);
        s.is("tidy(1) of one", x.tidy(1), 1);
        has(s, x, 1, 1, 17575);
        Houses.fill(x, 2, 0, 2, 1);
        s.is("tidy(2) of two", x.tidy(2), 2);
        has(s, x, 2, 0, 1, 2);
        Houses.fill(x, 3, 0, 10, 9, 8, 7, 6, 5, 4, 3, 2, 1);
        s.is("tidy(3) of ten", x.tidy(3), 10);
        has(s, x, 3, 0, 1, 2, 3, 4, 5, 6, 7, 8, 9, 10);
        s.is("tidy(3) again", x.tidy(3), 10);
        has(s, x, 3, 0, 1, 2, 3, 4, 5, 6, 7, 8, 9, 10);
    }

    private static void theLesserFirst() {
        Sentence s = says(32, "numbers, WORDS the lesser first");
        GriefDoors x = Due.houseOf("guest 1;guest 2;guest 3");
        Houses.fill(x, 0, 0, 9999, -9999, 0, -1, 1, 0);
        s.is("tidy(0)", x.tidy(0), 6);
        has(s, x, 0, 0, -9999, -1, 0, 0, 1, 9999);
        Houses.fill(x, 1, 1, 17575, 0, 676, 675, 26, 25, 1, 0);
        s.is("tidy(1)", x.tidy(1), 8);
        has(s, x, 1, 1, 0, 0, 1, 25, 26, 675, 676, 17575);
        Houses.fill(x, 2, 0, 0, 1, 2);
        s.is("tidy(2) of numbers that are of PEOPLE too", x.tidy(2), 3);
        has(s, x, 2, 0, 0, 1, 2);
    }

    private static void peopleAsTheyGoIn() {
        Sentence s = says(32, "PEOPLE as they go in (by LOAD, then number");
        GriefDoors x = Due.houseOf("guest 1;guest 9;guest 5;child 5;guest 8;widow 2 1;saint 18");
        Houses.fill(x, 0, 2, 0, 1, 2, 3, 4, 5, 6);
        s.is("tidy(0)", x.tidy(0), 7);
        has(s, x, 0, 2, 1, 6, 4, 2, 3, 5, 0);
        Houses.fill(x, 1, 2, 6, 5, 4, 3, 2, 1, 0, 6, 1, 3);
        s.is("tidy(1) of ten", x.tidy(1), 10);
        has(s, x, 1, 2, 1, 1, 6, 6, 4, 2, 3, 3, 5, 0);
        s.is("take(0, 0, 2), as it was", x.take(0, 0, 2), 1);
        x.lent(1);
        s.is("tidy(0) behind a LENT", x.tidy(0), 7);
        // 0, 6, 2, 0, 5, 2, 9
        has(s, x, 0, 2, 6, 1, 4, 2, 5, 0, 3);
    }

    private static void ofLoadNought() {
        Sentence s = says(32, "those of LOAD 0 by their number, too");
        GriefDoors x = Due.houseOf("guest;saint 1;child;guest 1;saint;widow;guest 1");
        Houses.fill(x, 0, 2, 6, 5, 4, 3, 2, 1, 0);
        s.is("tidy(0)", x.tidy(0), 7);
        has(s, x, 0, 2, 3, 6, 0, 1, 2, 4, 5);
        Houses.fill(x, 1, 2, 5, 1, 5, 0);
        s.is("tidy(1), none goes in", x.tidy(1), 4);
        has(s, x, 1, 2, 0, 1, 5, 5);
    }

    private static void aPlaceHasNothing() {
        Sentence s = says(32, "EMPTY: a PLACE has nothing");
        for (int i = 0; i < 3; i++) {
            int empty = i;
            s.changesNothing("tidy(1), nothing at " + i, x -> {
                Houses.busy(x);
                x.put(1, empty, 3, 0);
            }, x -> x.tidy(1), EMPTY);
        }
        s.changesNothing("tidy(3), nothing at all", x -> {
            Houses.busy(x);
            x.drawer(3, 10);
        }, x -> x.tidy(3), EMPTY);
        s.changesNothing("tidy(3), nothing at the only one", x -> {
            Houses.busy(x);
            x.drawer(3, 1);
        }, x -> x.tidy(3), EMPTY);
    }

    private static void unlikeThings() {
        Sentence s = says(32, "CAST: unlike things");
        for (int i = 0; i < 3; i++) {
            for (int what = 0; what < 3; what++) {
                int unlike = i;
                int sort = what;
                s.changesNothing("tidy(1), a thing of " + what + " at " + i, x -> {
                    Houses.busy(x);
                    Houses.fill(x, 1, sort == 0 ? 2 : 0, 5, 4, 3);
                    x.put(1, unlike, sort, 1);
                }, x -> x.tidy(1), CAST);
            }
        }
        s.changesNothing("tidy(3) of all three", x -> {
            Houses.busy(x);
            Houses.fill(x, 3, 0, 5, 4, 3);
            x.put(3, 1, 1, 2);
            x.put(3, 2, 2, 1);
        }, x -> x.tidy(3), CAST);
    }

    private static void whichTidyIsRefusedFirst() {
        Sentence s = says(32, "UNKNOWN; NULL; EMPTY: a PLACE has nothing; CAST: unlike things.");
        for (int drawer : NO_DRAWER) {
            s.changesNothing("tidy(" + drawer + ")", Houses::busy, x -> x.tidy(drawer), UNKNOWN);
        }
        s.changesNothing("tidy(3)", Houses::busy, x -> x.tidy(3), NULL);
        s.changesNothing("tidy(0), unlike things and nothing", Houses::busy, x -> x.tidy(0), EMPTY);
        s.changesNothing("tidy(0), unlike things, and nothing at the end", x -> {
            Houses.busy(x);
            x.put(0, 2, 0, 1);
            x.put(0, 1, 1, 1);
            x.put(0, 3, 3, 1);
        }, x -> x.tidy(0), EMPTY);
        for (int drawer = 0; drawer < 4; drawer++) {
            s.is("tidy(" + drawer + ") of a new house", new GriefDoors().tidy(drawer), NULL);
        }
    }

    // ---- copy

    private static GriefDoors fiveAndThree() {
        GriefDoors x = Due.houseOf("guest");
        Houses.fill(x, 0, 0, 1, 2, 3, 4, 5);
        Houses.fill(x, 1, 0, 7, 8, 9);
        return x;
    }

    private static void copiedToAnotherOne() {
        Sentence s = says(33, "What n PLACES of a DRAWER have from i on comes to another one");
        GriefDoors x = fiveAndThree();
        s.is("copy(0, 0, 1, 2, 1)", x.copy(0, 0, 1, 2, 1), 1);
        has(s, x, 1, 0, 7, 8, 1);
        s.is("copy(0, 4, 1, 0, 1)", x.copy(0, 4, 1, 0, 1), 1);
        has(s, x, 1, 0, 5, 8, 1);
        s.is("copy(0, 2, 1, 0, 3), to both ends", x.copy(0, 2, 1, 0, 3), 3);
        has(s, x, 1, 0, 3, 4, 5);
        has(s, x, 0, 0, 1, 2, 3, 4, 5);
        x.put(0, 3, 0, 44);
        has(s, x, 1, 0, 3, 4, 5);
        x.put(0, 0, 3, 0);
        x.put(0, 1, 1, 17575);
        x.put(0, 2, 2, 0);
        s.is("copy(0, 0, 1, 0, 3) of nothing, a WORD, a PERSON", x.copy(0, 0, 1, 0, 3), 3);
        has(s, x, 1, 0, EMPTY, CAST, CAST);
        has(s, x, 1, 1, EMPTY, 17575, CAST);
        has(s, x, 1, 2, EMPTY, CAST, 0);
        GriefDoors ten = new GriefDoors();
        Houses.fill(ten, 2, 1, 0, 1, 2, 3, 4, 5, 6, 7, 8, 9);
        ten.drawer(3, 10);
        s.is("copy(2, 0, 3, 0, 10)", ten.copy(2, 0, 3, 0, 10), 10);
        has(s, ten, 3, 1, 0, 1, 2, 3, 4, 5, 6, 7, 8, 9);
    }

    private static void copiedToItself() {
        Sentence s = says(33, "(or itself) from j on, as if all was taken ahead: n.");
        GriefDoors x = fiveAndThree();
        s.is("copy(0, 0, 0, 1, 4)", x.copy(0, 0, 0, 1, 4), 4);
        has(s, x, 0, 0, 1, 1, 2, 3, 4);
        x = fiveAndThree();
        s.is("copy(0, 1, 0, 0, 4)", x.copy(0, 1, 0, 0, 4), 4);
        has(s, x, 0, 0, 2, 3, 4, 5, 5);
        x = fiveAndThree();
        s.is("copy(0, 0, 0, 2, 3)", x.copy(0, 0, 0, 2, 3), 3);
        has(s, x, 0, 0, 1, 2, 1, 2, 3);
        x = fiveAndThree();
        s.is("copy(0, 0, 0, 0, 5)", x.copy(0, 0, 0, 0, 5), 5);
        has(s, x, 0, 0, 1, 2, 3, 4, 5);
        x = fiveAndThree();
        x.put(0, 0, 1, 26);
        x.put(0, 1, 3, 0);
        s.is("copy(0, 0, 0, 1, 2) of a WORD and nothing", x.copy(0, 0, 0, 1, 2), 2);
        has(s, x, 0, 1, 26, 26, EMPTY, CAST, CAST);
    }

    private static void copiedNone() {
        Sentence s = says(33, "INDEX (i, j, n below 0, or beyond an end)");
        s.changesNothing("copy(0, 0, 1, 0, 0)", Houses::busy, x -> x.copy(0, 0, 1, 0, 0), 0);
        s.changesNothing("copy(0, 4, 1, 3, 0), at both ends", Houses::busy, x -> x.copy(0, 4, 1, 3, 0), 0);
        s.changesNothing("copy(0, 4, 0, 0, 0)", Houses::busy, x -> x.copy(0, 4, 0, 0, 0), 0);
        s.changesNothing("copy(0, 5, 1, 0, 0)", Houses::busy, x -> x.copy(0, 5, 1, 0, 0), INDEX);
        s.changesNothing("copy(0, 0, 1, 4, 0)", Houses::busy, x -> x.copy(0, 0, 1, 4, 0), INDEX);
        s.changesNothing("copy(0, -1, 1, 0, 0)", Houses::busy, x -> x.copy(0, -1, 1, 0, 0), INDEX);
        s.changesNothing("copy(0, 0, 1, -1, 0)", Houses::busy, x -> x.copy(0, 0, 1, -1, 0), INDEX);
        GriefDoors x = new GriefDoors();
        x.drawer(0, 0);
        x.drawer(1, 10);
        s.is("copy(0, 0, 0, 0, 0) of no PLACE", x.copy(0, 0, 0, 0, 0), 0);
        s.is("copy(0, 0, 0, 0, 1) of no PLACE", x.copy(0, 0, 0, 0, 1), INDEX);
        s.is("copy(0, 0, 1, 10, 0)", x.copy(0, 0, 1, 10, 0), 0);
        s.is("copy(0, 1, 1, 0, 0)", x.copy(0, 1, 1, 0, 0), INDEX);
        s.is("copy(1, 10, 0, 0, 0)", x.copy(1, 10, 0, 0, 0), 0);
        s.is("copy(1, 11, 0, 0, 0)", x.copy(1, 11, 0, 0, 0), INDEX);
    }

    private static void copyUnknown() {
        Sentence s = says(33, "UNKNOWN; NULL (either); INDEX");
        for (int drawer : NO_DRAWER) {
            s.changesNothing("copy(" + drawer + ", 0, 1, 0, 1)", Houses::busy, x -> x.copy(drawer, 0, 1, 0, 1), UNKNOWN);
            s.changesNothing("copy(1, 0, " + drawer + ", 0, 1)", Houses::busy, x -> x.copy(1, 0, drawer, 0, 1), UNKNOWN);
            s.changesNothing("copy twice " + drawer, Houses::busy, x -> x.copy(drawer, 0, drawer, 0, 1), UNKNOWN);
            s.changesNothing("copy(" + drawer + ", 0, 3, 0, 1)", Houses::busy, x -> x.copy(drawer, 0, 3, 0, 1), UNKNOWN);
            s.changesNothing("copy(3, 0, " + drawer + ", 0, 1)", Houses::busy, x -> x.copy(3, 0, drawer, 0, 1), UNKNOWN);
            s.changesNothing("copy(1, -1, " + drawer + ", 9, 1)", Houses::busy, x -> x.copy(1, -1, drawer, 9, 1), UNKNOWN);
        }
    }

    private static void copyNull() {
        Sentence s = says(33, "NULL (either)");
        s.changesNothing("copy(3, 0, 1, 0, 1)", Houses::busy, x -> x.copy(3, 0, 1, 0, 1), NULL);
        s.changesNothing("copy(1, 0, 3, 0, 1)", Houses::busy, x -> x.copy(1, 0, 3, 0, 1), NULL);
        s.changesNothing("copy(3, 0, 3, 0, 0)", Houses::busy, x -> x.copy(3, 0, 3, 0, 0), NULL);
        s.changesNothing("copy(3, -1, 1, 0, 1)", Houses::busy, x -> x.copy(3, -1, 1, 0, 1), NULL);
        s.changesNothing("copy(1, 4, 3, 0, 1)", Houses::busy, x -> x.copy(1, 4, 3, 0, 1), NULL);
        s.changesNothing("copy(1, 0, 3, -1, 1)", Houses::busy, x -> x.copy(1, 0, 3, -1, 1), NULL);
        s.changesNothing("copy(1, 0, 3, 0, -1)", Houses::busy, x -> x.copy(1, 0, 3, 0, -1), NULL);
        s.changesNothing("copy(3, 0, 1, 9, 9)", Houses::busy, x -> x.copy(3, 0, 1, 9, 9), NULL);
    }

    private static void copyBelowNought() {
        Sentence s = says(33, "i, j, n below 0");
        int[] below = {-1, LEAST, -10};
        for (int least : below) {
            s.changesNothing("copy(0, " + least + ", 1, 0, 1)", Houses::busy, x -> x.copy(0, least, 1, 0, 1), INDEX);
            s.changesNothing("copy(0, 0, 1, " + least + ", 1)", Houses::busy, x -> x.copy(0, 0, 1, least, 1), INDEX);
            s.changesNothing("copy(0, 0, 1, 0, " + least + ")", Houses::busy, x -> x.copy(0, 0, 1, 0, least), INDEX);
            s.changesNothing("copy(0, 2, 0, 2, " + least + ")", Houses::busy, x -> x.copy(0, 2, 0, 2, least), INDEX);
        }
    }

    private static void copyBeyondAnEnd() {
        Sentence s = says(33, "or beyond an end");
        s.changesNothing("copy(0, 1, 0, 0, 4), beyond from's", Houses::busy, x -> x.copy(0, 1, 0, 0, 4), INDEX);
        s.changesNothing("copy(0, 0, 0, 1, 4), beyond to's", Houses::busy, x -> x.copy(0, 0, 0, 1, 4), INDEX);
        s.changesNothing("copy(0, 0, 1, 0, 4), beyond a shorter one's", Houses::busy, x -> x.copy(0, 0, 1, 0, 4), INDEX);
        s.changesNothing("copy(1, 0, 0, 0, 4), beyond a shorter one's", Houses::busy, x -> x.copy(1, 0, 0, 0, 4), INDEX);
        s.changesNothing("copy(0, 4, 1, 0, 1)", Houses::busy, x -> x.copy(0, 4, 1, 0, 1), INDEX);
        s.changesNothing("copy(0, 0, 1, 3, 1)", Houses::busy, x -> x.copy(0, 0, 1, 3, 1), INDEX);
        s.changesNothing("copy(0, " + MOST + ", 1, 0, 1)", Houses::busy, x -> x.copy(0, MOST, 1, 0, 1), INDEX);
        s.changesNothing("copy(0, 0, 1, " + MOST + ", 1)", Houses::busy, x -> x.copy(0, 0, 1, MOST, 1), INDEX);
        s.changesNothing("copy(0, 0, 1, 0, " + MOST + ")", Houses::busy, x -> x.copy(0, 0, 1, 0, MOST), INDEX);
        s.changesNothing("copy(0, 1, 1, 1, " + MOST + ")", Houses::busy, x -> x.copy(0, 1, 1, 1, MOST), INDEX);
        s.changesNothing("copy, all " + MOST, Houses::busy, x -> x.copy(0, MOST, 1, MOST, MOST), INDEX);
        GriefDoors x = fiveAndThree();
        s.is("copy(0, 2, 1, 0, 3), to both ends", x.copy(0, 2, 1, 0, 3), 3);
        s.is("copy(0, 3, 1, 0, 3)", x.copy(0, 3, 1, 0, 3), INDEX);
        s.is("copy(0, 2, 1, 1, 3)", x.copy(0, 2, 1, 1, 3), INDEX);
    }

    // ---- drop, count

    private static void howManyPlacesHadSomething() {
        Sentence s = says(34, "A DRAWER is missing from now on: how many PLACES of it had something.");
        GriefDoors x = Due.houseOf("guest");
        Houses.fill(x, 0, 0, 0, 0, 0, 0, 0, 0, 0, 0, 0, 0);
        Houses.fill(x, 1, 1, 0, 0, 0);
        Houses.fill(x, 2, 2, 0, 0, 0);
        x.put(1, 0, 3, 0);
        x.put(2, 2, 3, 0);
        x.drawer(3, 0);
        s.is("drop(0) of ten", x.drop(0), 10);
        s.is("drop(1), without the first", x.drop(1), 2);
        s.is("drop(2), without the last", x.drop(2), 2);
        s.is("drop(3) of no PLACE", x.drop(3), 0);
        s.is("count(7)", x.count(7), 0);
        for (int drawer = 0; drawer < 4; drawer++) {
            s.is("take(" + drawer + ", 0, 0)", x.take(drawer, 0, 0), NULL);
            s.is("drop(" + drawer + ") again", x.drop(drawer), NULL);
        }
        x.drawer(0, 10);
        s.is("drop(0) of ten empty ones", x.drop(0), 0);
        Houses.fill(x, 0, 0, 1);
        Houses.fill(x, 1, 0, 1);
        s.is("drop(0)", x.drop(0), 1);
        s.is("take(1, 0, 0), of another one", x.take(1, 0, 0), 50001);
    }

    private static void droppedIsMissing() {
        Sentence s = says(34, "A DRAWER is missing from now on");
        GriefDoors x = Due.houseOf("guest");
        for (int drawer = 0; drawer < 3; drawer++) {
            Houses.fill(x, drawer, 0, 1, 2, 3);
        }
        x.put(1, 0, 3, 0);
        x.put(2, 0, 1, 0);
        int[] things = {3, 2, 3};
        Houses.fill(x, 3, 0, 5);
        for (int drawer = 0; drawer < 3; drawer++) {
            s.is("drop(" + drawer + ")", x.drop(drawer), things[drawer]);
            s.is("tidy(" + drawer + ")", x.tidy(drawer), NULL);
            s.is("take(" + drawer + ", 0, 0)", x.take(drawer, 0, 0), NULL);
            s.is("take(" + drawer + ", 3, 0)", x.take(drawer, 3, 0), NULL);
            s.is("put(" + drawer + ", 0, 0, 1)", x.put(drawer, 0, 0, 1), NULL);
            s.is("put(" + drawer + ", 3, 0, 1)", x.put(drawer, 3, 0, 1), NULL);
            s.is("copy(" + drawer + ", 0, 3, 0, 1)", x.copy(drawer, 0, 3, 0, 1), NULL);
            s.is("copy(3, 0, " + drawer + ", 0, 1)", x.copy(3, 0, drawer, 0, 1), NULL);
            s.is("copy(3, 0, " + drawer + ", 4, 1)", x.copy(3, 0, drawer, 4, 1), NULL);
            s.is("drop(" + drawer + ")", x.drop(drawer), NULL);
            s.is("drawer(" + drawer + ", 11)", x.drawer(drawer, 11), OUTSIDE);
            s.is("drawer(" + drawer + ", -1)", x.drawer(drawer, -1), SIZE);
            s.is("count(7)", x.count(7), 3 - drawer);
        }
        has(s, x, 3, 0, 5);
    }

    private static void dropRefused() {
        Sentence s = says(34, "UNKNOWN; NULL.");
        for (int drawer : NO_DRAWER) {
            s.changesNothing("drop(" + drawer + ")", Houses::busy, x -> x.drop(drawer), UNKNOWN);
        }
        s.changesNothing("drop(3)", Houses::busy, x -> x.drop(3), NULL);
        for (int drawer = 0; drawer < 4; drawer++) {
            s.is("drop(" + drawer + ") of a new house", new GriefDoors().drop(drawer), NULL);
        }
    }

    private static void countedOfNone() {
        Sentence s = says(35, "0 PEOPLE, 1 PAIRS, 2 the LENT, 3 how many go in, 4 LOADS of all together, 5 GRIEFS of all");
        for (int what = 0; what < 10; what++) {
            int asked = what;
            s.changesNothing("count(" + what + ") of a new house", x -> { }, x -> x.count(asked), 0);
        }
        GriefDoors x = Due.houseOf("guest;saint 1;child");
        int[] due = {3, 0, 0, 0, 0, 1, 0, 0, 0, 0};
        for (int what = 0; what < 10; what++) {
            s.is("count(" + what + ") of three who do not go in", x.count(what), due[what]);
        }
        // 47, 34, 35, 42, 40 and none
        int[] busy = {6, 3, 3, 5, 198, 8, 2, 3, 4, 16};
        for (int what = 0; what < 10; what++) {
            int asked = what;
            s.changesNothing("count(" + what + ")", Houses::busy, y -> y.count(asked), busy[what]);
        }
    }

    private static void countedOfAsManyAsThereCanBe() {
        Sentence s = says(35, "6 SEEN, 7 DRAWERS that are there, 8 how many can be undone, 9 letters of THE TEXT");
        GriefDoors x = Due.houseOf(("widow 99 99 99;").repeat(6) + "widow 99 99 99;pair 0 6;pair 6 0");
        for (int k = 3; k <= 12; k++) {
            x.pair(k % 6, 6);
        }
        for (int k = 0; k < 6; k++) {
            x.seen(k, 0, 9);
        }
        for (int drawer = 0; drawer < 4; drawer++) {
            x.drawer(drawer, drawer);
        }
        for (int k = 0; k < 4; k++) {
            x.comfort(6);
            x.grieve(6, 99);
            x.comfort(0);
            x.grieve(0, 99);
        }
        Due.write(x, "house" + " ".repeat(195));
        int[] due = {7, 12, 0, 7, 7 * 396, 21, 6, 4, 8, 200};
        for (int what = 0; what < 10; what++) {
            s.is("count(" + what + ")", x.count(what), due[what]);
        }
        GriefDoors last = new GriefDoors();
        Houses.lentBegun(last, 999);
        s.is("count(2)", last.count(2), 999);
    }

    private static void countOutside() {
        Sentence s = says(35, "9 letters of THE TEXT. OUTSIDE.");
        int[] outside = {-1, 10, LEAST, MOST};
        for (int what : outside) {
            s.changesNothing("count(" + what + ")", Houses::busy, x -> x.count(what), OUTSIDE);
            s.is("count(" + what + ") of a new house", new GriefDoors().count(what), OUTSIDE);
        }
    }
}
