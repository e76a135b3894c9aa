/** Promises 17 to 25 at their bounds: what is foretold. A method for each sentence. */
public final class EdgesForetoldTest {
    private static final Due D = Due.begin();
    private static final int NONE = GriefDoors.NONE;
    private static final int UNKNOWN = GriefDoors.UNKNOWN;
    private static final int OUTSIDE = GriefDoors.OUTSIDE;
    private static final int LEAST = Integer.MIN_VALUE;
    private static final int MOST = Integer.MAX_VALUE;
    /** Nobody of a busy house, of whom there are six. */
    private static final int[] NOBODY = {-1, 6, 7, LEAST, MOST};
    private static final int[] OUTSIDE_60 = {-1, 61, LEAST, MOST};
    private static final int[] OUTSIDE_1 = {-1, 2, LEAST, MOST};
    private static final String ONE_TO_SEVEN = "guest 1;guest 2;guest 3;guest 4;guest 5;guest 6;guest 7";

    public static void main(String[] args) {
        behindLents();
        goneBehindLents();
        behindTheLastLent();
        steps();
        behindRefused();
        theKth();
        noneGoesIn();
        entersBehindLents();
        entersOutside();
        aheadFromNoughtToSixty();
        alsoIfTheOtherDoesNotGoIn();
        aheadNone();
        aheadUnknown();
        wrongs();
        doesNotGoInOrIsBehind();
        rankedOfHowMany();
        fewestAreBroken();
        rankedOfLikeOnes();
        rankedOutside();
        linesOfHowMany();
        linesWithoutPeople();
        nextOfLikeOnes();
        nextNone();
        theGreaterPartIsLeast();
        roomsOfC();
        noMoreThanC();
        roomsOfNobody();
        eachIntoTheLesserRoom();
        oneAloneHasMore();
        roomsRefused();
        misreadBounds();
        ofTwenty();
        lowestTerms();
        stepsAtTheirEnds();
        misreadRefused();
        D.end("EdgesForetoldTest");
    }

    private static Sentence says(int promise, String words) {
        return new Sentence(D, promise, words);
    }

    // ---- behind

    private static void behindLents() {
        Sentence s = says(17, "LOAD (what 0), STEP (1) of a PERSON behind n LENTS (0 .. 60).");
        GriefDoors x = Due.houseOf("widow 62 61 60;saint 99;guest 99;child 99;general 99 98;widow 99 99 99;guest");
        int[] now = {245, 49, 99, 99, 202, 396, 0};
        int[] behindOne = {241, 49, 96, 93, 196, 392, 0};
        int[] behindLast = {5, 49, 0, 0, 0, 156, 0};
        int[] lastSteps = {0, 4, 0, 0, 0, 9, 0};
        for (int one = 0; one < 7; one++) {
            s.is("behind(" + one + ", 0, 0)", x.behind(one, 0, 0), now[one]);
            s.is("behind(" + one + ", 1, 0)", x.behind(one, 1, 0), behindOne[one]);
            s.is("behind(" + one + ", 60, 0)", x.behind(one, 60, 0), behindLast[one]);
            s.is("behind(" + one + ", 60, 1)", x.behind(one, 60, 1), lastSteps[one]);
        }
        s.changesNothing("behind(0, 60, 0)", Houses::busy, y -> y.behind(0, 60, 0), 0);
        s.changesNothing("behind(0, 0, 1)", Houses::busy, y -> y.behind(0, 0, 1), 4);
    }

    private static void goneBehindLents() {
        Sentence s = says(17, "at 0, or below, it is gone");
        GriefDoors x = Due.houseOf("guest 99;widow 59 60 61;general 6 7;child 12 13;general 3 3 3");
        s.is("behind(0, 32, 0)", x.behind(0, 32, 0), 3);
        s.is("behind(0, 33, 0)", x.behind(0, 33, 0), 0);
        s.is("behind(0, 34, 0)", x.behind(0, 34, 0), 0);
        s.is("behind(1, 59, 0)", x.behind(1, 59, 0), 1 + 2 + 2);
        s.is("behind(1, 60, 0)", x.behind(1, 60, 0), 1 + 1);
        s.is("behind(2, 1, 0), both yet", x.behind(2, 1, 0), 3 + 4 + 5);
        s.is("behind(2, 2, 0), one yet", x.behind(2, 2, 0), 1);
        s.is("behind(2, 3, 0)", x.behind(2, 3, 0), 0);
        s.is("behind(3, 2, 0)", x.behind(3, 2, 0), 1);
        s.is("behind(3, 3, 0)", x.behind(3, 3, 0), 0);
        s.is("behind(4, 1, 0), none left", x.behind(4, 1, 0), 0);
    }

    private static void behindTheLastLent() {
        Sentence s = says(17, "FORETOLD (nothing changes), nothing but LENTS being done from now");
        GriefDoors x = Due.houseOf("saint 9;guest 5");
        for (int k = 0; k < 84; k++) {
            x.lent(k == 83 ? 3 : 12);
        }
        x.grieve(1, 99);
        s.is("behind(0, 60, 0) at 999", x.behind(0, 60, 0), 4);
        s.is("behind(1, 1, 0) at 999", x.behind(1, 1, 0), 96);
        s.is("enters(1, 60) at 999", x.enters(1, 60), NONE);
        s.is("ahead(0, 1) at 999", x.ahead(0, 1), 32);
        s.is("count(2)", x.count(2), 999);
    }

    private static void steps() {
        Sentence s = says(17, "STEP of one is LOAD by 10 (cut), 9 at most.");
        int[] loads = {1, 9, 10, 11, 19, 20, 89, 90, 91, 99};
        int[] due = {0, 0, 1, 1, 1, 2, 8, 9, 9, 9};
        for (int k = 0; k < loads.length; k++) {
            s.is("STEP of " + loads[k], Due.houseOf("guest " + loads[k]).behind(0, 0, 1), due[k]);
        }
        s.is("STEP of 0", Due.houseOf("guest").behind(0, 0, 1), 0);
        s.is("STEP of 100", Due.houseOf("guest 99 1").behind(0, 0, 1), 9);
        s.is("STEP of 109", Due.houseOf("guest 99 10").behind(0, 0, 1), 9);
        s.is("STEP of 396", Due.houseOf("widow 99 99 99").behind(0, 0, 1), 9);
    }

    private static void behindRefused() {
        Sentence s = says(17, "behind n LENTS (0 .. 60). UNKNOWN; OUTSIDE.");
        for (int n : OUTSIDE_60) {
            s.changesNothing("behind(0, " + n + ", 0)", Houses::busy, x -> x.behind(0, n, 0), OUTSIDE);
            s.changesNothing("behind(6, " + n + ", 0)", Houses::busy, x -> x.behind(6, n, 0), UNKNOWN);
        }
        for (int what : OUTSIDE_1) {
            s.changesNothing("behind(5, 0, " + what + ")", Houses::busy, x -> x.behind(5, 0, what), OUTSIDE);
            s.changesNothing("behind(6, 0, " + what + ")", Houses::busy, x -> x.behind(6, 0, what), UNKNOWN);
            s.changesNothing("behind(0, 61, " + what + ")", Houses::busy, x -> x.behind(0, 61, what), OUTSIDE);
        }
        for (int person : NOBODY) {
            s.changesNothing("behind(" + person + ", 0, 0)", Houses::busy, x -> x.behind(person, 0, 0), UNKNOWN);
            s.is("behind(" + person + ", 0, 0) of a new house", new GriefDoors().behind(person, 0, 0), UNKNOWN);
        }
        s.is("behind(0, 0, 0) of nobody", new GriefDoors().behind(0, 0, 0), UNKNOWN);
    }

    // ---- enters

    private static void theKth() {
        Sentence s = says(18, "The k-th (0 .. 6) of THE ORDER behind n LENTS (0 .. 60); NONE.");
        GriefDoors seven = Due.houseOf(ONE_TO_SEVEN);
        for (int k = 0; k < 7; k++) {
            s.is("enters(" + k + ", 0) of seven", seven.enters(k, 0), 6 - k);
        }
        GriefDoors alike = Due.houseOf("saint 8;guest 4;child 4;widow 2;guest 2 2;child 4 4;guest 4");
        for (int k = 0; k < 7; k++) {
            s.is("enters(" + k + ", 0) of seven alike", alike.enters(k, 0), k);
        }
        s.changesNothing("enters(0, 0)", Houses::busy, x -> x.enters(0, 0), 0);
        s.changesNothing("enters(4, 0)", Houses::busy, x -> x.enters(4, 0), 1);
    }

    private static void noneGoesIn() {
        Sentence s = says(18, "others do not go in");
        GriefDoors x = Due.houseOf("saint 1;guest;guest 1;saint 2;child");
        GriefDoors oneOfSeven = Due.houseOf("guest;guest;guest;saint 1;guest 4;guest;guest");
        int[] due = {2, 3, NONE, NONE, NONE, NONE, NONE};
        for (int k = 0; k < 7; k++) {
            s.is("enters(" + k + ", 0) of two", x.enters(k, 0), due[k]);
            s.is("enters(" + k + ", 0) of one of seven", oneOfSeven.enters(k, 0), k == 0 ? 4 : NONE);
            s.is("enters(" + k + ", 0) of nobody", new GriefDoors().enters(k, 0), NONE);
            s.is("enters(" + k + ", 0) of none who goes in", Due.houseOf("guest;saint 1").enters(k, 0), NONE);
        }
    }

    private static void entersBehindLents() {
        Sentence s = says(18, "THE ORDER behind n LENTS (0 .. 60)");
        GriefDoors x = Due.houseOf("widow 60;widow 61;guest 99;saint 2");
        s.is("enters(0, 0)", x.enters(0, 0), 1);
        s.is("enters(2, 0)", x.enters(2, 0), 2);
        s.is("enters(2, 32)", x.enters(2, 32), 2);
        s.is("enters(2, 33), as 2 is just gone", x.enters(2, 33), 3);
        s.is("enters(0, 59)", x.enters(0, 59), 1);
        s.is("enters(1, 59)", x.enters(1, 59), 0);
        s.is("enters(0, 60)", x.enters(0, 60), 1);
        s.is("enters(1, 60), as 0 is just gone", x.enters(1, 60), 3);
        s.is("enters(2, 60)", x.enters(2, 60), NONE);
        s.changesNothing("enters(0, 60)", Houses::busy, y -> y.enters(0, 60), 4);
    }

    private static void entersOutside() {
        Sentence s = says(18, "NONE. OUTSIDE.");
        int[] outside = {-1, 7, LEAST, MOST};
        for (int k : outside) {
            s.changesNothing("enters(" + k + ", 0)", Houses::busy, x -> x.enters(k, 0), OUTSIDE);
            s.changesNothing("enters(" + k + ", 60)", Houses::busy, x -> x.enters(k, 60), OUTSIDE);
            s.is("enters(" + k + ", 0) of nobody", new GriefDoors().enters(k, 0), OUTSIDE);
        }
        for (int n : OUTSIDE_60) {
            s.changesNothing("enters(0, " + n + ")", Houses::busy, x -> x.enters(0, n), OUTSIDE);
            s.changesNothing("enters(6, " + n + ")", Houses::busy, x -> x.enters(6, n), OUTSIDE);
            s.is("enters(0, " + n + ") of nobody", new GriefDoors().enters(0, n), OUTSIDE);
        }
    }

    // ---- ahead, wrong

    private static void aheadFromNoughtToSixty() {
        Sentence s = says(19, "by how many LENTS (0 .. 60) the one is ahead of the other in THE ORDER");
        GriefDoors x = Due.houseOf("widow 59;widow 60;widow 61;saint 2;guest 9;guest 9;child 12");
        s.is("ahead(0, 3)", x.ahead(0, 3), 0);
        s.is("ahead(3, 0), by 59", x.ahead(3, 0), 59);
        s.is("ahead(3, 1), by 60", x.ahead(3, 1), 60);
        s.is("ahead(3, 2), by 61", x.ahead(3, 2), NONE);
        s.is("ahead(2, 0)", x.ahead(2, 0), 0);
        s.is("ahead(4, 5), alike, the lesser number", x.ahead(4, 5), 0);
        s.is("ahead(5, 4), alike, the greater number", x.ahead(5, 4), NONE);
        s.is("ahead(6, 4)", x.ahead(6, 4), 0);
        s.is("ahead(4, 6), alike behind one LENT", x.ahead(4, 6), 1);
        GriefDoors later = Due.houseOf("child 12;guest 9");
        s.is("ahead(1, 0), alike behind one LENT, ahead behind two", later.ahead(1, 0), 2);
        s.changesNothing("ahead(4, 0)", Houses::busy, y -> y.ahead(4, 0), 2);
    }

    private static void alsoIfTheOtherDoesNotGoIn() {
        Sentence s = says(19, "(also if the other does not go in)");
        GriefDoors x = Due.houseOf("guest;saint 2;saint 1;guest 3");
        s.is("ahead(1, 0)", x.ahead(1, 0), 0);
        s.is("ahead(1, 2)", x.ahead(1, 2), 0);
        s.is("ahead(3, 0)", x.ahead(3, 0), 0);
        s.is("ahead(1, 3), behind the other's last", x.ahead(1, 3), 1);
    }

    private static void aheadNone() {
        Sentence s = says(19, "AHEAD; NONE.");
        GriefDoors x = Due.houseOf("guest;saint 2;saint 1;guest 3");
        s.is("ahead(0, 1), as 0 never goes in", x.ahead(0, 1), NONE);
        s.is("ahead(0, 2), as neither goes in", x.ahead(0, 2), NONE);
        s.is("ahead(2, 0), as neither goes in", x.ahead(2, 0), NONE);
        s.is("ahead(2, 3), where the other goes too", x.ahead(2, 3), NONE);
    }

    private static void aheadUnknown() {
        Sentence s = says(19, "UNKNOWN (no such PERSON, DRAWER; two that are the same, where two are asked)");
        for (int person : NOBODY) {
            s.changesNothing("ahead(" + person + ", 0)", Houses::busy, x -> x.ahead(person, 0), UNKNOWN);
            s.changesNothing("ahead(0, " + person + ")", Houses::busy, x -> x.ahead(0, person), UNKNOWN);
            s.changesNothing("ahead twice " + person, Houses::busy, x -> x.ahead(person, person), UNKNOWN);
        }
        for (int one = 0; one < 6; one++) {
            int same = one;
            s.changesNothing("ahead twice " + one, Houses::busy, x -> x.ahead(same, same), UNKNOWN);
        }
        s.is("ahead(0, 1) of nobody", new GriefDoors().ahead(0, 1), UNKNOWN);
        s.is("ahead(0, 1) of one", Due.houseOf("guest 1").ahead(0, 1), UNKNOWN);
    }

    private static void wrongs() {
        Sentence s = says(20, "WRONG: how many PAIRS are not so in THE ORDER");
        s.changesNothing("wrong() of nobody", x -> { }, x -> x.wrong(), 0);
        s.changesNothing("wrong() of no PAIRS", x -> Due.tell(x, ONE_TO_SEVEN), x -> x.wrong(), 0);
        // 3 is ahead of 0 no more, 1 is behind 2, 4 is behind 0
        s.changesNothing("wrong()", Houses::busy, x -> x.wrong(), 3);
        s.changesNothing("wrong() of twelve", Houses::fullOfPairs, x -> x.wrong(), 1);
        s.is("wrong(), as they are now", Due.houseOf("guest 10;child 9;pair 0 1").wrong(), 0);
        s.is("wrong(), as they are now, alike soon", Due.houseOf("child 12;guest 9;pair 0 1;pair 1 0").wrong(), 1);
        s.is("wrong(), none of twelve", Due.houseOf("guest 9;guest 8" + ";pair 0 1".repeat(12)).wrong(), 0);
        s.is("wrong(), all of twelve", Due.houseOf("guest 8;guest 9" + ";pair 0 1".repeat(12)).wrong(), 12);
    }

    private static void doesNotGoInOrIsBehind() {
        Sentence s = says(20, "one that should go ahead does not go in, or is behind");
        String[] told = {"guest 2;guest 1", "guest 1;guest 1", "guest 1;guest 2", "guest 1;guest", "guest;guest 1", "guest;guest"};
        int[] due = {0, 0, 1, 0, 1, 1};
        int[] backwards = {1, 1, 0, 1, 0, 1};
        for (int k = 0; k < told.length; k++) {
            s.is("wrong() of " + told[k] + ";pair 0 1", Due.houseOf(told[k] + ";pair 0 1").wrong(), due[k]);
            s.is("wrong() of " + told[k] + ";pair 1 0", Due.houseOf(told[k] + ";pair 1 0").wrong(), backwards[k]);
        }
    }

    // ---- ranked, lines, next

    private static void ranking(Sentence s, GriefDoors x, int broken, int... order) {
        s.is("ranked(NONE)", x.ranked(NONE), broken);
        for (int k = 0; k < 7; k++) {
            s.is("ranked(" + k + ")", x.ranked(k), k < order.length ? order[k] : NONE);
        }
    }

    private static void rankedOfHowMany() {
        Sentence s = says(21, "how many PAIRS are broken (k NONE), the k-th PERSON (0 .. 6); NONE.");
        ranking(s, new GriefDoors(), 0);
        ranking(s, Due.houseOf("guest"), 0, 0);
        ranking(s, Due.houseOf("guest;saint 9"), 0, 0, 1);
        ranking(s, Due.houseOf(ONE_TO_SEVEN), 0, 0, 1, 2, 3, 4, 5, 6);
        ranking(s, Due.houseOf(Houses.SEVEN + ";pair 6 5;pair 5 4;pair 4 3;pair 3 2;pair 2 1;pair 1 0"), 0, 6, 5, 4, 3, 2, 1, 0);
        ranking(s, Due.houseOf(Houses.SEVEN + ";pair 6 0"), 0, 1, 2, 3, 4, 5, 6, 0);
        s.changesNothing("ranked(NONE)", Houses::busy, x -> x.ranked(NONE), 0);
        s.changesNothing("ranked(0)", Houses::busy, x -> x.ranked(0), 1);
    }

    private static void fewestAreBroken() {
        Sentence s = says(21, "an order of all PEOPLE by which fewest PAIRS are broken");
        ranking(s, Due.houseOf("guest;guest;pair 1 0;pair 0 1;pair 1 0"), 1, 1, 0);
        ranking(s, Due.houseOf("guest;guest;pair 1 0" + ";pair 0 1".repeat(11)), 1, 0, 1);
        ranking(s, Due.houseOf("guest;guest" + ";pair 1 0;pair 0 1".repeat(6)), 6, 0, 1);
        ranking(s, Due.houseOf("guest;guest" + ";pair 1 0;pair 0 1".repeat(5) + ";pair 1 0"), 5, 1, 0);
        ranking(s, Due.houseOf("guest;guest;guest;pair 0 1;pair 1 2;pair 2 0;pair 2 0"), 1, 1, 2, 0);
        ranking(s, Due.houseOf("guest;guest;guest;pair 1 0;pair 2 1;pair 0 2"), 1, 0, 2, 1);
    }

    private static void rankedOfLikeOnes() {
        Sentence s = says(21, "of like ones the first (the lesser number ahead, place by place)");
        ranking(s, Due.houseOf("guest;guest;pair 0 1;pair 1 0"), 1, 0, 1);
        ranking(s, Due.houseOf("guest;guest;guest;guest;pair 3 1"), 0, 0, 2, 3, 1);
        ranking(s, Due.houseOf("guest;guest;guest;guest;pair 2 0"), 0, 1, 2, 0, 3);
        ranking(s, Due.houseOf("guest;guest;guest;pair 0 1;pair 1 2;pair 2 0"), 1, 0, 1, 2);
        ranking(s, Due.houseOf("guest;guest;guest;guest 99"), 0, 0, 1, 2, 3);
    }

    private static void rankedOutside() {
        Sentence s = says(21, "(0 .. 6); NONE. OUTSIDE.");
        int[] outside = {-2, 7, LEAST, MOST};
        for (int k : outside) {
            s.changesNothing("ranked(" + k + ")", Houses::busy, x -> x.ranked(k), OUTSIDE);
            s.is("ranked(" + k + ") of nobody", new GriefDoors().ranked(k), OUTSIDE);
            s.is("ranked(" + k + ") of seven", Due.houseOf(ONE_TO_SEVEN).ranked(k), OUTSIDE);
        }
    }

    private static void linesOfHowMany() {
        Sentence s = says(22, "LINES: how many orders of all PEOPLE break no PAIR");
        int[] due = {1, 2, 6, 24, 120, 720, 5040};
        GriefDoors x = new GriefDoors();
        for (int many = 1; many <= 7; many++) {
            Due.tell(x, "guest");
            s.is("lines() of " + many, x.lines(), due[many - 1]);
        }
        x.pair(6, 0);
        s.is("lines() of seven and a PAIR", x.lines(), 2520);
        x.pair(6, 0);
        s.is("lines() of the same PAIR twice", x.lines(), 2520);
        x.pair(0, 6);
        s.is("lines() of both", x.lines(), 0);
        String chain = Houses.SEVEN + ";pair 6 5;pair 5 4;pair 4 3;pair 3 2;pair 2 1;pair 1 0";
        s.is("lines() of a row", Due.houseOf(chain).lines(), 1);
        s.is("lines() of a ring", Due.houseOf(chain + ";pair 0 6").lines(), 0);
        s.is("lines() of two, both ways", Due.houseOf("guest;guest;pair 0 1;pair 1 0").lines(), 0);
        s.is("lines() of twelve alike", Due.houseOf("guest;guest" + ";pair 1 0".repeat(12)).lines(), 1);
        // of 720 half have 1 ahead of 2, and of these a third 0 behind 3 and 4
        s.changesNothing("lines()", Houses::busy, y -> y.lines(), 120);
    }

    private static void linesWithoutPeople() {
        Sentence s = says(22, "(without PEOPLE 1)");
        s.changesNothing("lines() of nobody", x -> { }, x -> x.lines(), 1);
        s.is("lines() behind house", Due.houseOf("guest;guest;pair 0 1;pair 1 0;house").lines(), 1);
        s.is("lines() of one", Due.houseOf("guest").lines(), 1);
    }

    private static void nextOfLikeOnes() {
        Sentence s = says(23, "of like ones the first; told as 10 times a, and b");
        s.is("next() of two", Due.houseOf("guest;guest").next(), 1);
        s.is("next() of seven", Due.houseOf(Houses.SEVEN).next(), 1);
        String row = ";pair 0 1;pair 1 2;pair 2 3;pair 3 4;pair 4 5;pair 4 6";
        s.is("next(), the last two", Due.houseOf(Houses.SEVEN + row).next(), 56);
        s.is("next(), the first two", Due.houseOf("guest;guest;guest;pair 0 2;pair 1 2").next(), 1);
        s.is("next(), 1 and 2 alone", Due.houseOf("guest;guest;guest;pair 0 1;pair 0 2").next(), 12);
        s.is("next(), 0 and 2 alone", Due.houseOf("guest;guest;guest;pair 0 1;pair 2 1").next(), 2);
        s.is("next() of two rows of two", Due.houseOf("guest;guest;guest;guest;pair 0 1;pair 2 3").next(), 2);
        // 3 and 4 are both ahead of 0, and part LINES by half
        s.changesNothing("next()", Houses::busy, x -> x.next(), 34);
    }

    private static void nextNone() {
        Sentence s = says(23, "none (none parts them)");
        s.changesNothing("next() of nobody", x -> { }, x -> x.next(), NONE);
        s.changesNothing("next() of one", x -> Due.tell(x, "guest"), x -> x.next(), NONE);
        s.changesNothing("next() of a PAIR", x -> Due.tell(x, "guest;guest;pair 0 1"), x -> x.next(), NONE);
        s.changesNothing("next() of a PAIR, backwards", x -> Due.tell(x, "guest;guest;pair 1 0"), x -> x.next(), NONE);
        s.changesNothing("next() of both", x -> Due.tell(x, "guest;guest;pair 1 0;pair 0 1"), x -> x.next(), NONE);
        s.is("next() of a ring and one", Due.houseOf("guest;guest;guest;pair 0 1;pair 1 0").next(), NONE);
        s.is("next() of a row", Due.houseOf(Houses.SEVEN + ";pair 6 5;pair 5 4;pair 4 3;pair 3 2;pair 2 1;pair 1 0").next(), NONE);
    }

    private static void theGreaterPartIsLeast() {
        Sentence s = says(23, "by the answer LINES are parted best: the greater part is least");
        // 0 ahead of 1, and 2 anywhere: 0 and 2 part three into two and one, as 1 and 2 do
        s.is("next() of three LINES", Due.houseOf("guest;guest;guest;pair 0 1").next(), 2);
        // 0, 1, 2 in a row, and 3 anywhere: 1 and 3 part four in the midst
        s.is("next() of four LINES", Due.houseOf("guest;guest;guest;guest;pair 0 1;pair 1 2").next(), 13);
        s.is("next() of four LINES, backwards", Due.houseOf("guest;guest;guest;guest;pair 2 1;pair 1 0").next(), 13);
        s.is("next() of twelve LINES", Due.houseOf("guest;guest;guest;guest;pair 0 1").next(), 23);
    }

    // ---- rooms

    private static void lodged(Sentence s, GriefDoors x, int c, int needed, int... rooms) {
        s.is("rooms(" + c + ", NONE)", x.rooms(c, NONE), needed);
        for (int one = 0; one < rooms.length; one++) {
            s.is("rooms(" + c + ", " + one + ")", x.rooms(c, one), rooms[one]);
        }
    }

    private static void roomsOfC() {
        Sentence s = says(24, "ROOMS for c (1 .. 400)");
        lodged(s, Due.houseOf("guest 1;saint 2"), 1, 2, 0, 1);
        lodged(s, Due.houseOf("widow 99 99 99;guest 4;guest 1"), 400, 2, 0, 0, 1);
        int[] outside = {0, 401, -1, LEAST, MOST};
        for (int c : outside) {
            s.changesNothing("rooms(" + c + ", NONE)", Houses::busy, x -> x.rooms(c, NONE), OUTSIDE);
            s.changesNothing("rooms(" + c + ", 5)", Houses::busy, x -> x.rooms(c, 5), OUTSIDE);
            s.is("rooms(" + c + ", NONE) of nobody", new GriefDoors().rooms(c, NONE), OUTSIDE);
        }
    }

    private static void noMoreThanC() {
        Sentence s = says(24, "so that LOADS in each room together are no more than c, in as few as can be");
        GriefDoors x = Due.houseOf("guest 4;guest 4;guest 3;guest 3;guest 2;guest 2");
        lodged(s, x, 18, 1, 0, 0, 0, 0, 0, 0);
        lodged(s, x, 17, 2, 0, 0, 0, 0, 0, 1);
        lodged(s, x, 9, 2, 0, 1, 0, 1, 0, 1);
        lodged(s, x, 8, 3, 0, 0, 1, 1, 1, 2);
        lodged(s, x, 4, 5, 0, 1, 2, 3, 4, 4);
        lodged(s, Due.houseOf(ONE_TO_SEVEN), 28, 1, 0, 0, 0, 0, 0, 0, 0);
        lodged(s, Due.houseOf(ONE_TO_SEVEN), 27, 2, 0, 0, 0, 0, 0, 0, 1);
        lodged(s, Due.houseOf("guest 9;child 9;guest 9;guest 9;guest 9;guest 9;guest 9"), 17, 7, 0, 1, 2, 3, 4, 5, 6);
        lodged(s, Due.houseOf("guest 9;child 9;guest 9;guest 9;guest 9;guest 9;guest 9"), 18, 4, 0, 0, 1, 1, 2, 2, 3);
    }

    private static void roomsOfNobody() {
        Sentence s = says(24, "PEOPLE into rooms 0, 1 ..");
        lodged(s, new GriefDoors(), 1, 0);
        lodged(s, new GriefDoors(), 400, 0);
        lodged(s, Due.houseOf("guest"), 1, 1, 0);
        lodged(s, Due.houseOf("guest;saint 1;child"), 1, 1, 0, 0, 0);
        lodged(s, Due.houseOf("guest 1;saint;guest 1;child"), 1, 2, 0, 0, 1, 0);
        s.changesNothing("rooms(1, NONE) of nobody", x -> { }, x -> x.rooms(1, NONE), 0);
    }

    private static void eachIntoTheLesserRoom() {
        Sentence s = says(24, "of like ones the first (each into the lesser room, PERSON by PERSON)");
        lodged(s, Due.houseOf("guest 1;guest 5;guest 5;guest 4"), 9, 2, 0, 0, 1, 1);
        lodged(s, Due.houseOf("guest 5;guest 4;guest 3;guest 2;guest 2"), 8, 2, 0, 1, 0, 1, 1);
        lodged(s, Due.houseOf("guest 2;guest 2;guest 2;guest 3;guest 3"), 6, 2, 0, 0, 0, 1, 1);
        lodged(s, Due.houseOf("guest 2;guest 3;guest 2;guest 3;guest 2"), 6, 2, 0, 1, 0, 1, 0);
        // 47 34 0, 35 42, 40
        s.changesNothing("rooms(90, 3)", Houses::busy, x -> x.rooms(90, 3), 1);
        s.changesNothing("rooms(90, NONE)", Houses::busy, x -> x.rooms(90, NONE), 3);
    }

    private static void oneAloneHasMore() {
        Sentence s = says(24, "none (one alone has more)");
        GriefDoors x = Due.houseOf("guest 1;guest 9;guest");
        lodged(s, x, 8, NONE, NONE, NONE, NONE);
        lodged(s, x, 9, 2, 0, 1, 0);
        lodged(s, x, 10, 1, 0, 0, 0);
        GriefDoors last = Due.houseOf("guest;guest;guest;guest;guest;guest;widow 99 99 99");
        lodged(s, last, 395, NONE, NONE, NONE, NONE, NONE, NONE, NONE, NONE);
        lodged(s, last, 396, 1, 0, 0, 0, 0, 0, 0, 0);
        lodged(s, Due.houseOf("guest 2"), 1, NONE, NONE);
    }

    private static void roomsRefused() {
        Sentence s = says(24, "the room of a PERSON; NONE. UNKNOWN; OUTSIDE.");
        int[] nobody = {-2, 6, 7, LEAST, MOST};
        for (int person : nobody) {
            s.changesNothing("rooms(400, " + person + ")", Houses::busy, x -> x.rooms(400, person), UNKNOWN);
            s.changesNothing("rooms(0, " + person + ")", Houses::busy, x -> x.rooms(0, person), UNKNOWN);
            s.changesNothing("rooms(401, " + person + ")", Houses::busy, x -> x.rooms(401, person), UNKNOWN);
            s.changesNothing("rooms(1, " + person + ")", Houses::busy, x -> x.rooms(1, person), UNKNOWN);
        }
        s.is("rooms(1, 0) of nobody", new GriefDoors().rooms(1, 0), UNKNOWN);
        s.is("rooms(0, 0) of nobody", new GriefDoors().rooms(0, 0), UNKNOWN);
        s.changesNothing("rooms(400, 5)", Houses::busy, x -> x.rooms(400, 5), 0);
    }

    // ---- misread

    private static void odds(Sentence s, GriefDoors x, int a, int b, int q, int above, int below) {
        String call = "misread(" + a + ", " + b + ", " + q;
        s.is(call + ", 0)", x.misread(a, b, q, 0), above);
        s.is(call + ", 1)", x.misread(a, b, q, 1), below);
    }

    private static GriefDoors stepsNoughtToFive() {
        return Due.houseOf("guest 9;guest 10;guest 20;guest 30;guest 40;guest 50;guest 1");
    }

    private static void misreadBounds() {
        Sentence s = says(25, "by q of twenty (0 .. 10) one too little, by q of twenty one too much, else as it is");
        GriefDoors x = stepsNoughtToFive();
        odds(s, x, 0, 6, 0, 0, 1);
        odds(s, x, 1, 0, 0, 1, 1);
        odds(s, x, 0, 1, 0, 0, 1);
        odds(s, x, 0, 6, 10, 1, 4);
        odds(s, x, 1, 0, 10, 3, 4);
        odds(s, x, 0, 1, 10, 1, 4);
        odds(s, x, 2, 0, 10, 3, 4);
        odds(s, x, 0, 2, 10, 0, 1);
        odds(s, x, 3, 0, 10, 1, 1);
        odds(s, x, 0, 3, 10, 0, 1);
        odds(s, x, 5, 0, 10, 1, 1);
        s.changesNothing("misread(3, 1, 10, 0)", Houses::busy, y -> y.misread(3, 1, 10, 0), 3);
        s.changesNothing("misread(3, 1, 0, 1)", Houses::busy, y -> y.misread(3, 1, 0, 1), 1);
    }

    private static void ofTwenty() {
        Sentence s = says(25, "the odds that the first one's is read as the greater one");
        GriefDoors x = stepsNoughtToFive();
        // by one of twenty each way, of 400: alike 18 + 18 + 1, one over 400 less 1, 18 and 18, two over 400 less 1
        odds(s, x, 0, 6, 1, 37, 400);
        odds(s, x, 1, 0, 1, 363, 400);
        odds(s, x, 0, 1, 1, 1, 400);
        odds(s, x, 2, 0, 1, 399, 400);
        odds(s, x, 0, 2, 1, 0, 1);
        odds(s, x, 3, 0, 1, 1, 1);
        // by nine of twenty each way: alike 9 * 2 + 2 * 9 + 81
        odds(s, x, 6, 0, 9, 117, 400);
    }

    private static void lowestTerms() {
        Sentence s = says(25, "Parts are told in lowest terms: above (part 0), below (1).");
        GriefDoors x = stepsNoughtToFive();
        odds(s, x, 0, 1, 2, 1, 100);
        odds(s, x, 0, 1, 4, 1, 25);
        odds(s, x, 0, 1, 5, 1, 16);
        odds(s, x, 2, 0, 2, 99, 100);
        // 4 * 12 + 12 * 4 + 16 of 400
        odds(s, x, 0, 6, 4, 7, 25);
        odds(s, x, 0, 2, 5, 0, 1);
        odds(s, x, 5, 0, 5, 1, 1);
    }

    private static void stepsAtTheirEnds() {
        Sentence s = says(25, "one too little .. one too much");
        GriefDoors x = Due.houseOf("guest;saint 1;guest 90;widow 99 99 99;guest 89;guest 10");
        odds(s, x, 0, 1, 10, 1, 4);
        odds(s, x, 2, 3, 10, 1, 4);
        odds(s, x, 3, 2, 1, 37, 400);
        odds(s, x, 4, 2, 1, 1, 400);
        odds(s, x, 2, 4, 10, 3, 4);
        odds(s, x, 0, 5, 1, 1, 400);
        odds(s, x, 5, 0, 1, 363, 400);
    }

    private static void misreadRefused() {
        Sentence s = says(25, "MISREAD. UNKNOWN; OUTSIDE.");
        int[] outside = {-1, 11, LEAST, MOST};
        for (int q : outside) {
            s.changesNothing("misread(0, 1, " + q + ", 0)", Houses::busy, x -> x.misread(0, 1, q, 0), OUTSIDE);
            s.changesNothing("misread(1, 1, " + q + ", 0)", Houses::busy, x -> x.misread(1, 1, q, 0), UNKNOWN);
            s.changesNothing("misread(6, 1, " + q + ", 0)", Houses::busy, x -> x.misread(6, 1, q, 0), UNKNOWN);
        }
        for (int part : OUTSIDE_1) {
            s.changesNothing("misread(0, 1, 0, " + part + ")", Houses::busy, x -> x.misread(0, 1, 0, part), OUTSIDE);
            s.changesNothing("misread(0, 0, 0, " + part + ")", Houses::busy, x -> x.misread(0, 0, 0, part), UNKNOWN);
            s.changesNothing("misread(0, 6, 0, " + part + ")", Houses::busy, x -> x.misread(0, 6, 0, part), UNKNOWN);
        }
        for (int person : NOBODY) {
            s.changesNothing("misread(" + person + ", 0, 0, 0)", Houses::busy, x -> x.misread(person, 0, 0, 0), UNKNOWN);
            s.changesNothing("misread(0, " + person + ", 0, 0)", Houses::busy, x -> x.misread(0, person, 0, 0), UNKNOWN);
        }
        for (int one = 0; one < 6; one++) {
            int same = one;
            s.changesNothing("misread twice " + one, Houses::busy, x -> x.misread(same, same, 0, 0), UNKNOWN);
        }
        s.is("misread(0, 1, 0, 0) of nobody", new GriefDoors().misread(0, 1, 0, 0), UNKNOWN);
        s.is("misread(0, 1, 0, 0) of one", Due.houseOf("guest 1").misread(0, 1, 0, 0), UNKNOWN);
    }
}
