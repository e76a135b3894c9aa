/** Promises 1 to 5 at their bounds: what is written, read and done. A method for each sentence. */
public final class EdgesToldTest {
    private static final Due D = Due.begin();
    private static final int NONE = GriefDoors.NONE;
    private static final int UNKNOWN = GriefDoors.UNKNOWN;
    private static final int OUTSIDE = GriefDoors.OUTSIDE;
    private static final int NOT = GriefDoors.NOT;
    private static final int FULL = GriefDoors.FULL;
    private static final String SEVEN = Houses.SEVEN;
    private static final String TWO = "guest;guest";
    private static final String PAIR = ";pair 0 1";
    private static final String[] KINDS = {"guest", "widow", "general", "child", "saint"};
    /** As all is of a new house before any other was made. */
    private static final String ALL_OF_A_NEW_HOUSE = AllAnswers.of(new GriefDoors());

    public static void main(String[] args) {
        nobody();
        noDrawers();
        eachHouseItsOwn();
        theLastCall();
        aLetter();
        twoHundredLetters();
        outsideAheadOfFull();
        theTextIsEmpty();
        theFault();
        theFaultAtTheLength();
        twentyClauses();
        noClauseIsEmpty();
        fromNoneToThreeWeights();
        weights();
        anEighth();
        anEighthByEarlierTexts();
        bothToldAhead();
        unlike();
        aThirteenth();
        aThirteenthByEarlierTexts();
        smallLetters();
        digits();
        numbersOfOneOrTwoDigits();
        blanksBetween();
        anyOtherLetter();
        theFirstToken();
        tooSoon();
        faultOnlyTells();
        howManyClauses();
        itHasAFault();
        aFaultyTextGoesOn();
        noneOfAFaultyTextIsDone();
        asMuchAsThereCanBe();
        allAsAtFirst();
        inTheirOrder();
        toldByEarlierTexts();
        allIsAsTold();
        itIsLentNought();
        nothingIsSeen();
        nothingIsKeptOrCanBeUndone();
        drawersAreAllMissing();
        D.end("EdgesToldTest");
    }

    private static Sentence says(int promise, String words) {
        return new Sentence(D, promise, words);
    }

    /** The fault of a text in a new house. */
    private static int fault(String text) {
        return Due.faultOf(new GriefDoors(), text);
    }

    /** The fault of a text behind one that was done. */
    private static int fault(String earlier, String text) {
        return Due.faultOf(Due.houseOf(earlier), text);
    }

    private static String times(int n, String clause) {
        return (clause + ";").repeat(n - 1) + clause;
    }

    // ---- a new object

    private static void nobody() {
        Sentence s = says(1, "Nobody");
        GriefDoors x = new GriefDoors();
        for (int what = 0; what < 10; what++) {
            s.is("count(" + what + ")", x.count(what), 0);
        }
        s.is("person(0, 0)", x.person(0, 0), UNKNOWN);
        s.is("enters(0, 0)", x.enters(0, 0), NONE);
        s.is("undo()", x.undo(), NOT);
        s.is("back(0)", x.back(0), NOT);
        s.is("back(1)", x.back(1), NOT);
        s.is("fault()", x.fault(), 0);
    }

    private static void noDrawers() {
        Sentence s = says(1, "no drawers");
        GriefDoors x = new GriefDoors();
        for (int drawer = 0; drawer < 4; drawer++) {
            s.is("take(" + drawer + ", 0, 0)", x.take(drawer, 0, 0), GriefDoors.NULL);
            s.is("drop(" + drawer + ")", x.drop(drawer), GriefDoors.NULL);
        }
        s.is("drawer(3, 0)", x.drawer(3, 0), 0);
        s.is("count(7)", x.count(7), 1);
    }

    private static void eachHouseItsOwn() {
        GriefDoors full = new GriefDoors();
        Houses.busy(full);
        D.due(1, "all of a new house beside a full one", AllAnswers.of(new GriefDoors()), ALL_OF_A_NEW_HOUSE);
    }

    private static void theLastCall() {
        Sentence s = says(1, "An object is used for at most 512 calls after it has been made");
        GriefDoors x = Due.houseOf("child 40;guest 7");
        int calls = "child 40;guest 7".length() + 1;
        while (calls + 2 < 510) {
            x.grieve(1, 5);
            x.undo();
            calls += 2;
        }
        while (calls < 510) {
            x.count(0);
            calls++;
        }
        s.is("call 511, grieve(1, 34)", x.grieve(1, 34), 41);
        s.is("call 512, person(1, 4)", x.person(1, 4), 0);
    }

    // ---- write, erase

    private static void aLetter() {
        Sentence s = says(2, "A letter (its number, 0 .. 255) more of THE TEXT: how many it has.");
        GriefDoors x = new GriefDoors();
        s.is("write(0)", x.write(0), 1);
        s.is("write(255)", x.write(255), 2);
        int[] outside = {-1, 256, Integer.MIN_VALUE, Integer.MAX_VALUE, 'a' + 256, 'a' - 256};
        for (int letter : outside) {
            s.is("write(" + letter + ")", x.write(letter), OUTSIDE);
            s.is("count(9)", x.count(9), 2);
            s.changesNothing("write(" + letter + ")", Houses::busy, y -> y.write(letter), OUTSIDE);
        }
    }

    private static void twoHundredLetters() {
        Sentence s = says(2, "THE TEXT is a row of letters, 200 at most");
        GriefDoors x = new GriefDoors();
        Due.write(x, "guest" + " ".repeat(194));
        s.is("count(9)", x.count(9), 199);
        s.is("letter 200", x.write('x'), 200);
        s.is("letter 201", x.write('y'), FULL);
        s.is("the fault, at the last letter", x.fault(), 199);
        s.is("count(9)", x.count(9), 200);
        s.changesNothing("letter 201", Houses::fullOfLetters, y -> y.write('x'), FULL);
        GriefDoors whole = new GriefDoors();
        Due.write(whole, " ".repeat(195) + "guest");
        s.is("letter 201", whole.write('s'), FULL);
        s.is("house() of 200 letters", whole.house(), 1);
        s.is("a letter behind it", whole.write('x'), 1);
    }

    private static void outsideAheadOfFull() {
        Sentence s = says(2, "OUTSIDE; FULL");
        s.changesNothing("write(256) where it is full", Houses::fullOfLetters, y -> y.write(256), OUTSIDE);
        s.changesNothing("write(-1) where it is full", Houses::fullOfLetters, y -> y.write(-1), OUTSIDE);
        s.changesNothing("write(255) where it is full", Houses::fullOfLetters, y -> y.write(255), FULL);
        s.changesNothing("write(0) where it is full", Houses::fullOfLetters, y -> y.write(0), FULL);
    }

    private static void theTextIsEmpty() {
        Sentence s = says(3, "THE TEXT is empty: how many letters it had.");
        GriefDoors x = new GriefDoors();
        s.is("erase() of none", x.erase(), 0);
        Due.write(x, "g");
        s.is("erase() of one", x.erase(), 1);
        s.is("count(9)", x.count(9), 0);
        s.is("fault()", x.fault(), 0);
        Due.write(x, "uest");
        s.is("fault(), as the first letter is gone", x.fault(), 0);
        s.is("house()", x.house(), NOT);
        s.is("erase()", x.erase(), 4);
        Due.write(x, "x".repeat(201));
        s.is("erase() of 200", x.erase(), 200);
        s.is("erase() again", x.erase(), 0);
        Due.write(x, "guest 5");
        s.is("house() of what was written then", x.house(), 1);
        s.is("erase() behind house()", x.erase(), 0);
        s.is("what was told stays", x.count(0), 1);
    }

    // ---- fault

    private static void theFault() {
        Sentence s = says(4, "The place of the FAULT (the letter with which the TOKEN begins, or the length); NONE.");
        s.is("of a clause", fault("guest"), NONE);
        s.is("at the first letter", fault("x"), 0);
        s.is("at the first letter of a long token", fault("guest butler"), 6);
        s.is("at the first digit of a long number", fault("guest 5 1234567"), 8);
        s.is("at the last letter that there can be", fault("guest" + " ".repeat(194) + "x"), 199);
        s.is("of 200 letters", fault("guest" + " ".repeat(195)), NONE);
    }

    private static void theFaultAtTheLength() {
        Sentence s = says(4, "or the length");
        s.is("of no letters", fault(""), 0);
        s.is("of a blank", fault(" "), 1);
        s.is("of 200 blanks", fault(" ".repeat(200)), 200);
        s.is("of 200 letters that end too soon", fault("pair 0" + " ".repeat(194)), 5);
        s.is("of 200 letters that end with ;", fault("guest" + " ".repeat(194) + ";"), 200);
    }

    private static void twentyClauses() {
        Sentence s = says(4, "CLAUSES with ; between, 20 at most");
        s.is("of one", fault("house"), NONE);
        s.is("of 19", fault(times(19, "house")), NONE);
        s.is("of 20", fault(times(20, "house")), NONE);
        s.is("of 20 and blanks", fault(times(20, "house") + "  "), NONE);
        s.is("of 21", fault(times(21, "house")), 119);
        s.is("of 21 with PEOPLE", fault("house;" + SEVEN + PAIR.repeat(12) + ";house"), 6 + 41 + 108);
        s.is("of 19 and ;", fault(times(19, "house") + ";"), 114);
        s.is("of 20 and another word", fault(times(20, "house") + " house"), 120);
        s.is("of 20 behind 20 of an earlier text", fault(times(20, "house"), times(20, "house")), NONE);
    }

    private static void noClauseIsEmpty() {
        Sentence s = says(4, "CLAUSES with ; between");
        s.is("of ; alone", fault(";"), 0);
        s.is("of ; ahead", fault(";guest"), 0);
        s.is("of ; behind", fault("guest;"), 6);
        s.is("of two ;", fault("guest;;guest"), 6);
        s.is("of two ; with a blank", fault("guest; ;guest"), 7);
        s.is("of no ;", fault("guest guest"), 6);
        s.is("of a comma", fault("guest,guest"), 5);
        s.is("of one ;", fault("guest;guest"), NONE);
    }

    private static void fromNoneToThreeWeights() {
        Sentence s = says(4, "WS none to three numbers 1 to 99");
        for (String kind : KINDS) {
            int at = kind.length() + 1;
            s.is(kind + ", none", fault(kind), NONE);
            s.is(kind + ", one", fault(kind + " 1"), NONE);
            s.is(kind + ", three", fault(kind + " 1 2 3"), NONE);
            s.is(kind + ", four", fault(kind + " 1 2 3 4"), at + 6);
            s.is(kind + ", three and ;", fault(kind + " 1 2 3;" + kind), NONE);
        }
        s.is("house, one", fault("house 1"), 6);
        s.is("four, the fourth out of its bounds too", fault("guest 1 2 3 0"), 12);
    }

    private static void weights() {
        Sentence s = says(4, "numbers 1 to 99");
        for (String kind : KINDS) {
            int at = kind.length() + 1;
            s.is(kind + " 0", fault(kind + " 0"), at);
            s.is(kind + " 1", fault(kind + " 1"), NONE);
            s.is(kind + " 99", fault(kind + " 99"), NONE);
            s.is(kind + " 100", fault(kind + " 100"), at);
            s.is(kind + " 1 0", fault(kind + " 1 0"), at + 2);
            s.is(kind + " 99 99 100", fault(kind + " 99 99 100"), at + 6);
            s.is(kind + " 99 99 0", fault(kind + " 99 99 0"), at + 6);
            s.is(kind + " 1 99 1", fault(kind + " 1 99 1"), NONE);
        }
        s.is("guest -1", fault("guest -1"), 6);
    }

    private static void anEighth() {
        Sentence s = says(4, "an eighth cannot stand there (at its word)");
        s.is("six and each", fault(times(6, "guest") + ";saint 9"), NONE);
        s.is("seven", fault(SEVEN), NONE);
        for (String kind : KINDS) {
            s.is("eight, a " + kind, fault(SEVEN + ";" + kind), 42);
            s.is("eight, a " + kind + " with a fault of its own", fault(SEVEN + " ; " + kind + " 0"), 44);
        }
        s.is("seven and a PAIR", fault(SEVEN + ";pair 6 0"), NONE);
        s.is("seven, house, seven", fault(SEVEN + ";house;" + SEVEN), NONE);
        s.is("seven, house, eight", fault(SEVEN + ";house;" + SEVEN + ";guest"), 42 + 6 + 42);
    }

    private static void anEighthByEarlierTexts() {
        Sentence s = says(4, "guest ..: one more .. an eighth cannot stand there");
        s.is("one behind six", fault(times(6, "guest"), "guest"), NONE);
        s.is("two behind six", fault(times(6, "guest"), "guest;guest"), 6);
        s.is("one behind seven", fault(SEVEN, "guest"), 0);
        s.is("house and one behind seven", fault(SEVEN, "house;guest"), NONE);
        s.is("house and eight behind seven", fault(SEVEN, "house;" + SEVEN + ";guest"), 48);
        s.is("PAIRS behind seven", fault(SEVEN, "pair 0 6"), NONE);
    }

    private static void bothToldAhead() {
        Sentence s = says(4, "A goes ahead of B, both told ahead");
        s.is("of nobody", fault("pair 0 1"), 5);
        s.is("of one", fault("guest;pair 0 1"), 13);
        s.is("of one, the first not told", fault("guest;pair 1 0"), 11);
        s.is("of two", fault(TWO + ";pair 0 1"), NONE);
        s.is("of two, backwards", fault(TWO + ";pair 1 0"), NONE);
        s.is("of two, the first not told", fault(TWO + ";pair 2 0"), 17);
        s.is("of two, the second not told", fault(TWO + ";pair 0 2"), 19);
        s.is("of seven, the last ones", fault(SEVEN + ";pair 6 5"), NONE);
        s.is("of seven, 7", fault(SEVEN + ";pair 7 0"), 47);
        s.is("of seven, 7 as the second", fault(SEVEN + ";pair 6 7"), 49);
        s.is("told behind it", fault("guest;pair 0 1;guest"), 13);
        s.is("told ahead of house", fault(TWO + ";house;pair 0 1"), 23);
        s.is("one told ahead of house", fault(TWO + ";house;guest;pair 0 1"), 31);
        s.is("both told by an earlier text", fault(TWO, "pair 1 0"), NONE);
        s.is("one told by an earlier text", fault("guest", "guest;pair 1 0"), NONE);
        s.is("not told by an earlier text", fault(TWO, "pair 1 2"), 7);
        s.is("told by an earlier text ahead of house", fault(TWO, "house;pair 0 1"), 11);
        s.is("a number of no PERSON at all", fault(SEVEN + ";pair 99 0"), 47);
    }

    private static void unlike() {
        Sentence s = says(4, "both told ahead, unlike");
        s.is("pair 0 0", fault(TWO + ";pair 0 0"), 19);
        s.is("pair 1 1", fault(TWO + ";pair 1 1"), 19);
        s.is("pair 1 01", fault(TWO + ";pair 1 01"), 19);
        s.is("pair 6 6", fault(SEVEN + ";pair 6 6"), 49);
        s.is("pair 0 0 of one", fault("guest;pair 0 0"), 13);
        s.is("pair 7 7, as neither is told", fault(SEVEN + ";pair 7 7"), 47);
        s.is("pair 0 1 twice", fault(TWO + PAIR + PAIR), NONE);
    }

    private static void aThirteenth() {
        Sentence s = says(4, "a thirteenth cannot");
        s.is("eleven", fault(TWO + PAIR.repeat(11)), NONE);
        s.is("twelve", fault(TWO + PAIR.repeat(12)), NONE);
        s.is("thirteen", fault(TWO + PAIR.repeat(13)), 11 + 108 + 1);
        s.is("thirteen, the last with a fault of its own", fault(TWO + PAIR.repeat(12) + ";pair 9 9"), 120);
        s.is("thirteen, the last too soon", fault(TWO + PAIR.repeat(12) + ";pair"), 120);
        s.is("twelve, the last too soon", fault(TWO + PAIR.repeat(11) + ";pair"), 11 + 99 + 5);
        s.is("twelve and one more PERSON", fault(TWO + PAIR.repeat(12) + ";guest"), NONE);
        s.is("twelve, house, and one", fault(TWO + PAIR.repeat(12) + ";house;" + TWO + PAIR), NONE);
    }

    private static void aThirteenthByEarlierTexts() {
        Sentence s = says(4, "a thirteenth cannot .. what earlier texts told stays as it was told");
        String eleven = TWO + PAIR.repeat(11);
        s.is("one behind eleven", fault(eleven, "pair 1 0"), NONE);
        s.is("two behind eleven", fault(eleven, "pair 1 0;pair 1 0"), 9);
        s.is("one behind twelve", fault(eleven + PAIR, "pair 1 0"), 0);
        s.is("house and twelve behind twelve", fault(eleven + PAIR, "house;" + eleven + PAIR), NONE);
        s.is("house and thirteen behind twelve", fault(eleven + PAIR, "house;" + eleven + PAIR + PAIR), 6 + 120);
        GriefDoors x = Due.houseOf(eleven);
        s.is("pair(0, 1), which no text told", x.pair(0, 1), 12);
        s.is("one behind eleven and that", Due.faultOf(x, "pair 1 0"), NONE);
        s.is("two behind eleven and that", Due.faultOf(x, "pair 1 0;pair 1 0"), 9);
        s.is("unpair(), which no text told", x.unpair(), 12);
        s.is("two behind it", Due.faultOf(x, "pair 1 0;pair 1 0"), 9);
    }

    private static void smallLetters() {
        Sentence s = says(4, "small letters a .. z");
        s.is("a row that goes on with a", fault("guesta"), 0);
        s.is("a row that goes on with z", fault("guestz"), 0);
        s.is("a row that begins with a", fault("aguest"), 0);
        s.is("a row that begins with z", fault("zguest"), 0);
        s.is("the letter ahead of a", fault("guest`"), 5);
        s.is("the letter behind z", fault("guest{"), 5);
        s.is("a great letter", fault("Guest"), 0);
        s.is("a great letter in the midst", fault("guEst"), 0);
        s.is("a great letter behind", fault("guestA"), 5);
        s.is("a letter short", fault("gues"), 0);
        s.is("another first letter", fault("huest"), 0);
        s.is("another last letter", fault("guess"), 0);
        s.is("a blank in a word", fault("gu est"), 0);
        s.is("words without a blank", fault("guestguest"), 0);
    }

    private static void digits() {
        Sentence s = says(4, "a row of digits");
        s.is("0 in a number", fault("guest 10"), NONE);
        s.is("9 in a number", fault("guest 19"), NONE);
        s.is("the letter ahead of 0", fault("guest 1/"), 7);
        s.is("the letter behind 9", fault("guest 1:"), 7);
        s.is("a number at a word's place", fault("1"), 0);
        s.is("a word at a number's place", fault(TWO + ";pair a b"), 17);
        s.is("a number behind a word without a blank", fault("guest9"), NONE);
        s.is("a word behind a number without a blank", fault("guest 9a"), 7);
        s.is("both numbers in a row", fault(TWO + ";pair 01"), 19);
    }

    private static void numbersOfOneOrTwoDigits() {
        Sentence s = says(4, "a number out of its bounds, of more digits, also");
        s.is("guest 9", fault("guest 9"), NONE);
        s.is("guest 09", fault("guest 09"), NONE);
        s.is("guest 009", fault("guest 009"), 6);
        s.is("guest 00", fault("guest 00"), 6);
        s.is("guest 000", fault("guest 000"), 6);
        s.is("guest 999", fault("guest 999"), 6);
        s.is("guest 4294967297", fault("guest 4294967297"), 6);
        s.is("guest 18446744073709551617", fault("guest 18446744073709551617"), 6);
        s.is("guest 5 and 194 noughts", fault("guest 5" + "0".repeat(193)), 6);
        s.is("pair 00 01", fault(TWO + ";pair 00 01"), NONE);
        s.is("pair 000 1", fault(TWO + ";pair 000 1"), 17);
        s.is("pair 0 001", fault(TWO + ";pair 0 001"), 19);
    }

    private static void blanksBetween() {
        Sentence s = says(4, "blanks between");
        s.is("ahead and behind", fault("  guest 9  "), NONE);
        s.is("around ;", fault("guest ; guest"), NONE);
        s.is("many", fault("guest    9     8"), NONE);
        s.is("none that need not be", fault("guest9 8;guest;pair0 1"), NONE);
        int[] others = {0, 9, 10, 11, 12, 13, 31, 33, 160, 255};
        for (int letter : others) {
            String text = "guest" + (char) letter + "9";
            s.is("letter " + letter + " between", fault(text), 5);
            s.is("letter " + letter + " ahead", fault((char) letter + "guest"), 0);
            s.is("letter " + letter + " behind", fault("guest" + (char) letter), 5);
        }
    }

    private static void anyOtherLetter() {
        Sentence s = says(4, "any other letter");
        s.is("two of them, the first", fault("guest ??"), 6);
        s.is("; twice, each by itself", fault("guest;;"), 6);
        s.is("one in a word", fault("guest;gu.est"), 6);
        s.is("a point behind", fault("guest."), 5);
        s.is("a point behind house", fault("house."), 5);
        s.is("letter 255", fault("\u00ff"), 0);
        s.is("letter 0", fault("\u0000"), 0);
    }

    private static void theFirstToken() {
        Sentence s = says(4, "A FAULT is at the first TOKEN (..) that cannot stand there");
        s.is("of two faults", fault("guest 0;butler"), 6);
        s.is("a fault and an end too soon", fault("butler;"), 0);
        s.is("in the last of twenty", fault(times(19, "house") + ";hous"), 114);
        s.is("a word of no kind", fault("person 5"), 0);
        s.is("a word at a weight's place", fault("guest guest"), 6);
        s.is("a third number of a PAIR", fault(TWO + ";pair 0 1 0"), 21);
        s.is("; for a PAIR's first", fault(TWO + ";pair ;guest"), 17);
        s.is("; for a PAIR's second", fault(TWO + ";pair 0;guest"), 18);
    }

    private static void tooSoon() {
        Sentence s = says(4, "or at the end, if it comes too soon");
        s.is("no clause", fault(""), 0);
        s.is("no clause behind ;", fault("house;"), 6);
        s.is("no clause behind ; and blanks", fault("house;   "), 9);
        s.is("pair", fault(TWO + ";pair"), 16);
        s.is("pair and a blank", fault(TWO + ";pair "), 17);
        s.is("pair 0", fault(TWO + ";pair 0"), 18);
        s.is("pair 0 and blanks", fault(TWO + ";pair 0  "), 20);
        s.is("pair where nobody is", fault("pair"), 4);
        s.is("pair 0 1", fault(TWO + ";pair 0 1"), NONE);
        s.is("house", fault("house"), NONE);
    }

    private static void faultOnlyTells() {
        Sentence s = says(4, "The place of the FAULT");
        s.changesNothing("fault(), none", Houses::busy, x -> x.fault(), NONE);
        s.changesNothing("fault() at the end", x -> {
            Houses.busy(x);
            x.write(';');
        }, x -> x.fault(), 17);
        s.changesNothing("fault() where nothing is", x -> { }, x -> x.fault(), 0);
    }

    // ---- house

    private static void howManyClauses() {
        Sentence s = says(5, "THE TEXT's CLAUSES are done, and it is empty then: how many there were.");
        GriefDoors x = new GriefDoors();
        s.is("one", Due.tell(x, "guest"), 1);
        s.is("count(9)", x.count(9), 0);
        s.is("house() once more", x.house(), NOT);
        s.is("twenty", Due.tell(x, times(20, "house")), 20);
        s.is("count(9)", x.count(9), 0);
        s.is("nineteen", Due.tell(x, times(18, "house") + ";guest"), 19);
        s.is("count(0)", x.count(0), 1);
        s.is("two hundred letters", Due.tell(x, "guest" + " ".repeat(195)), 1);
        s.is("count(9)", x.count(9), 0);
    }

    private static void itHasAFault() {
        Sentence s = says(5, "NOT: it has a FAULT.");
        s.changesNothing("house() of nothing", x -> { }, x -> x.house(), NOT);
        s.changesNothing("house() of nothing more", x -> {
            Houses.busy(x);
            x.erase();
        }, x -> x.house(), NOT);
        s.changesNothing("house() of a text that ends too soon", x -> {
            Houses.busy(x);
            x.write(';');
        }, x -> x.house(), NOT);
        s.changesNothing("house() of an eighth", x -> {
            Houses.busy(x);
            Due.write(x, ";guest");
        }, x -> x.house(), NOT);
        s.changesNothing("house() of 21 clauses", x -> Due.write(x, times(21, "house")), x -> x.house(), NOT);
        s.changesNothing("house() of 200 blanks", x -> Due.write(x, " ".repeat(200)), x -> x.house(), NOT);
        s.changesNothing("house() of a thirteenth PAIR", x -> {
            Due.tell(x, TWO + PAIR.repeat(12));
            Due.write(x, "pair 1 0");
        }, x -> x.house(), NOT);
    }

    private static void aFaultyTextGoesOn() {
        Sentence s = says(5, "Refused, and nothing changes");
        GriefDoors x = new GriefDoors();
        Due.write(x, "guest 9;");
        s.is("house() of a text that ends too soon", x.house(), NOT);
        s.is("a letter more", x.write('c'), 9);
        Due.write(x, "hild");
        s.is("house() of the whole", x.house(), 2);
        s.is("count(0)", x.count(0), 2);
    }

    private static void noneOfAFaultyTextIsDone() {
        Sentence s = says(5, "Refused, and nothing changes .. NOT: it has a FAULT.");
        String[] faulty = {"house;guest 9;butler", "guest 9;guest 0", "pair 0 5;pair 5 6", "pair 0 5;", "house;house;pair 0 1"};
        for (String text : faulty) {
            s.changesNothing("house() of " + text, x -> {
                Houses.busy(x);
                x.erase();
                Due.write(x, text);
            }, x -> x.house(), NOT);
        }
    }

    private static void asMuchAsThereCanBe() {
        Sentence s = says(5, "PEOPLE are 0, 1 .., 7 at most .. PAIRS, 12 at most");
        GriefDoors x = new GriefDoors();
        s.is("house() of all", Due.tell(x, "house;" + SEVEN + ";pair 6 5".repeat(12)), 20);
        s.is("count(0)", x.count(0), 7);
        s.is("count(1)", x.count(1), 12);
        s.is("person(6, 2)", x.person(6, 2), 0);
        s.is("person(7, 2)", x.person(7, 2), UNKNOWN);
        s.is("wrong()", x.wrong(), 12);
        s.is("ranked(NONE)", x.ranked(NONE), 0);
        s.is("ranked(6), as 6 goes ahead of 5", x.ranked(6), 5);
        GriefDoors grieved = Due.houseOf("guest;guest;guest;guest;guest;guest;general 97 98 99");
        for (int k = 0; k < 3; k++) {
            s.is("grief(6, " + k + ")", grieved.grief(6, k), 97 + k);
        }
        s.is("grief(5, 0)", grieved.grief(5, 0), NONE);
    }

    private static void allAsAtFirst() {
        Sentence s = says(5, "house: all as at first");
        GriefDoors x = new GriefDoors();
        s.is("of a new house", Due.tell(x, "house"), 1);
        D.due(5, "all behind house", AllAnswers.of(x), ALL_OF_A_NEW_HOUSE);
        GriefDoors busy = new GriefDoors();
        Houses.busy(busy);
        busy.erase();
        s.is("of a full one", Due.tell(busy, "house"), 1);
        D.due(5, "all behind house", AllAnswers.of(busy), ALL_OF_A_NEW_HOUSE);
        GriefDoors last = Due.houseOf("guest 9 8;guest 7;pair 1 0;house");
        s.is("at the end of a text, count(0)", last.count(0), 0);
        s.is("at the end of a text, count(1)", last.count(1), 0);
        Due.tell(last, "saint;child");
        s.is("nothing is left over, person(0, 2)", last.person(0, 2), 0);
        s.is("nothing is left over, count(1)", last.count(1), 0);
        s.is("nothing is left over, lines()", last.lines(), 2);
    }

    private static void inTheirOrder() {
        Sentence s = says(5, "CLAUSES are done in their order.");
        GriefDoors x = Due.houseOf("saint 1;house;widow 2;child 3");
        s.is("count(0)", x.count(0), 2);
        s.is("person(0, 0)", x.person(0, 0), 1);
        s.is("person(1, 0)", x.person(1, 0), 3);
        for (int kind = 0; kind < 5; kind++) {
            s.is("KIND of a " + KINDS[kind], Due.houseOf(KINDS[kind]).person(0, 0), kind);
        }
        GriefDoors griefs = Due.houseOf("general 99 1 50;guest 7");
        s.is("grief(0, 0)", griefs.grief(0, 0), 99);
        s.is("grief(0, 1)", griefs.grief(0, 1), 1);
        s.is("grief(0, 2)", griefs.grief(0, 2), 50);
        s.is("grief(1, 0)", griefs.grief(1, 0), 7);
        s.is("grief(1, 1)", griefs.grief(1, 1), NONE);
    }

    private static void toldByEarlierTexts() {
        Sentence s = says(5, "what earlier texts told stays as it was told");
        GriefDoors x = Due.houseOf("guest 9;widow 8;pair 1 0");
        x.pair(0, 1);
        s.is("house() of a PAIR", Due.tell(x, "pair 1 0"), 1);
        s.is("count(0)", x.count(0), 2);
        s.is("count(1), without that of pair()", x.count(1), 2);
        s.is("wrong()", x.wrong(), 0);
        x.unpair();
        s.is("house() of a PERSON", Due.tell(x, "child 7"), 1);
        s.is("count(1), those of unpair() too", x.count(1), 2);
        s.is("person(0, 1)", x.person(0, 1), 9);
        s.is("person(1, 1)", x.person(1, 1), 16);
        s.is("person(2, 1)", x.person(2, 1), 7);
        for (int k = 3; k < 7; k++) {
            s.is("house() of one more", Due.tell(x, "saint " + k), 1);
        }
        s.is("count(0), one by one", x.count(0), 7);
        s.is("grief(6, 0)", x.grief(6, 0), 6);
        s.is("grief(0, 0)", x.grief(0, 0), 9);
    }

    private static void allIsAsTold() {
        Sentence s = says(5, "Behind them all is as told");
        GriefDoors x = Due.houseOf("guest 9 8 7;guest;guest;guest;guest;guest;child 3");
        x.lent(12);
        x.grieve(1, 99);
        x.grieve(6, 50);
        s.is("house() of a PAIR", Due.tell(x, "pair 0 1"), 1);
        s.is("count(5)", x.count(5), 4);
        for (int k = 0; k < 3; k++) {
            s.is("grief(0, " + k + ")", x.grief(0, k), 9 - k);
        }
        s.is("grief(1, 0)", x.grief(1, 0), NONE);
        s.is("grief(6, 0)", x.grief(6, 0), 3);
        s.is("grief(6, 1)", x.grief(6, 1), NONE);
    }

    private static void itIsLentNought() {
        Sentence s = says(5, "it is LENT 0");
        GriefDoors x = new GriefDoors();
        Houses.lentBegun(x, 999);
        s.is("house()", Due.tell(x, "guest"), 1);
        s.is("count(2)", x.count(2), 0);
        s.is("lent(12)", x.lent(12), 12);
        s.is("house()", Due.tell(x, "house"), 1);
        s.is("count(2)", x.count(2), 0);
    }

    private static void nothingIsSeen() {
        Sentence s = says(5, "nothing is SEEN");
        GriefDoors x = new GriefDoors();
        Houses.fullOfSights(x);
        s.is("house()", Due.tell(x, "guest"), 1);
        s.is("count(6)", x.count(6), 0);
        s.is("kinds(0, 0)", x.kinds(0, 0), 31);
        s.is("kinds(1, 0)", x.kinds(1, 0), 31);
        s.is("forget()", x.forget(), 0);
        s.is("seen(0, 0, 9)", x.seen(0, 0, 9), 1);
    }

    private static void nothingIsKeptOrCanBeUndone() {
        Sentence s = says(5, "nothing is kept or can be undone");
        GriefDoors x = Due.houseOf("guest 99");
        for (int k = 0; k < 9; k++) {
            x.lent(1);
        }
        x.keep(0);
        x.keep(1);
        s.is("house()", Due.tell(x, "pair"), NOT);
        s.is("count(8), as the text had a fault", x.count(8), 8);
        x.erase();
        s.is("house()", Due.tell(x, "guest"), 1);
        s.is("count(8)", x.count(8), 0);
        s.is("undo()", x.undo(), NOT);
        s.is("back(0)", x.back(0), NOT);
        s.is("back(1)", x.back(1), NOT);
        x.keep(1);
        s.is("back(0), as 1 alone was kept", x.back(0), NOT);
        s.is("back(1)", x.back(1), 0);
    }

    private static void drawersAreAllMissing() {
        Sentence s = says(5, "DRAWERS are all missing");
        GriefDoors x = new GriefDoors();
        for (int drawer = 0; drawer < 4; drawer++) {
            Houses.fill(x, drawer, 0, 1, 2, 3);
        }
        s.is("house()", Due.tell(x, "guest"), 1);
        s.is("count(7)", x.count(7), 0);
        for (int drawer = 0; drawer < 4; drawer++) {
            s.is("drop(" + drawer + ")", x.drop(drawer), GriefDoors.NULL);
        }
        s.is("drawer(0, 3)", x.drawer(0, 3), 3);
        s.is("take(0, 0, 0)", x.take(0, 0, 0), GriefDoors.EMPTY);
    }
}
