/** Promises 6 to 10 at their bounds: PEOPLE, GRIEFS and PAIRS as they are told. A method for each sentence. */
public final class EdgesAskedTest {
    private static final Due D = Due.begin();
    private static final int NONE = GriefDoors.NONE;
    private static final int UNKNOWN = GriefDoors.UNKNOWN;
    private static final int OUTSIDE = GriefDoors.OUTSIDE;
    private static final int NOT = GriefDoors.NOT;
    private static final int FULL = GriefDoors.FULL;
    private static final int LEAST = Integer.MIN_VALUE;
    private static final int MOST = Integer.MAX_VALUE;
    /** Nobody of a busy house, of whom there are six. */
    private static final int[] NOBODY = {-1, 6, 7, LEAST, MOST};

    public static void main(String[] args) {
        whatOfAPerson();
        noSuchPerson();
        outsideOfAPerson();
        seven();
        guests();
        widows();
        generals();
        children();
        saints();
        howManyGriefs();
        loadOneOrMore();
        ofLikeOnesTheLesser();
        asTheHowManieth();
        byHowMuchTheyFade();
        griefK();
        noGriefK();
        griefRefused();
        takenAsAKind();
        noneSuch();
        asRefused();
        aPairMore();
        noSuchTwo();
        twelvePairs();
        unknownAheadOfFull();
        noPairs();
        D.end("EdgesAskedTest");
    }

    private static Sentence says(int promise, String words) {
        return new Sentence(D, promise, words);
    }

    private static int load(String told) {
        return Due.houseOf(told).person(0, 1);
    }

    // ---- person

    private static void whatOfAPerson() {
        Sentence s = says(6, "KIND (what 0), LOAD (1), how many GRIEFS (2), by how much these FADE (3)");
        int[] due = {1, 17 + 17, 1, 1, 4};
        for (int what = 0; what < 5; what++) {
            int asked = what;
            s.changesNothing("person(1, " + what + ")", Houses::busy, x -> x.person(1, asked), due[what]);
        }
    }

    private static void noSuchPerson() {
        Sentence s = says(6, "UNKNOWN (no such PERSON");
        for (int person : NOBODY) {
            for (int what = -1; what < 6; what++) {
                int asked = what;
                s.is("person(" + person + ", " + what + ") of a new house", new GriefDoors().person(person, what), UNKNOWN);
                s.changesNothing("person(" + person + ", " + what + ")", Houses::busy, x -> x.person(person, asked), UNKNOWN);
            }
        }
        GriefDoors one = Due.houseOf("guest");
        s.is("person(0, 2) of one", one.person(0, 2), 0);
        s.is("person(1, 2) of one", one.person(1, 2), UNKNOWN);
    }

    private static void outsideOfAPerson() {
        Sentence s = says(6, "UNKNOWN; OUTSIDE.");
        int[] outside = {-1, 5, LEAST, MOST};
        for (int what : outside) {
            s.changesNothing("person(0, " + what + ")", Houses::busy, x -> x.person(0, what), OUTSIDE);
            s.changesNothing("person(5, " + what + ")", Houses::busy, x -> x.person(5, what), OUTSIDE);
            s.changesNothing("person(6, " + what + ")", Houses::busy, x -> x.person(6, what), UNKNOWN);
        }
    }

    private static void seven() {
        Sentence s = says(6, "PEOPLE are 0, 1 .., 7 at most (none at first)");
        GriefDoors x = Due.houseOf("guest;guest;guest;guest;guest;guest;saint 9 8");
        s.is("person(6, 0)", x.person(6, 0), 4);
        s.is("person(6, 2)", x.person(6, 2), 2);
        s.is("person(7, 0)", x.person(7, 0), UNKNOWN);
        s.is("person(-1, 0)", x.person(-1, 0), UNKNOWN);
        s.is("person(0, 0) of nobody", new GriefDoors().person(0, 0), UNKNOWN);
    }

    private static void guests() {
        Sentence s = says(6, "GUEST: WEIGHTS of all GRIEFS together.");
        s.is("of none", load("guest"), 0);
        s.is("of 1", load("guest 1"), 1);
        s.is("of 1 2", load("guest 1 2"), 3);
        s.is("of 99 99 99", load("guest 99 99 99"), 297);
        s.is("of like ones", load("guest 4 4 4"), 12);
    }

    private static void widows() {
        Sentence s = says(6, "WIDOW: as GUEST, and the greatest WEIGHT once more.");
        s.is("of none", load("widow"), 0);
        s.is("of 1", load("widow 1"), 2);
        s.is("of 1 2, the greatest behind", load("widow 1 2"), 5);
        s.is("of 3 2 1, the greatest ahead", load("widow 3 2 1"), 9);
        s.is("of 1 3 2, the greatest between", load("widow 1 3 2"), 9);
        s.is("of like ones", load("widow 4 4"), 12);
        s.is("of 99 99 99", load("widow 99 99 99"), 396);
    }

    private static void generals() {
        Sentence s = says(6, "GENERAL: as GUEST, and 5 more, if there are two GRIEFS or more.");
        s.is("of none", load("general"), 0);
        s.is("of one", load("general 99"), 99);
        s.is("of two", load("general 1 1"), 7);
        s.is("of three", load("general 1 1 1"), 8);
        s.is("of 99 99 99", load("general 99 99 99"), 302);
        GriefDoors x = Due.houseOf("general 9");
        s.is("of one, and one more", x.grieve(0, 2), 16);
        x.comfort(0);
        s.is("of two, one comforted", x.person(0, 1), 2);
    }

    private static void children() {
        Sentence s = says(6, "CHILD: the greatest WEIGHT (0 without GRIEFS).");
        s.is("of none", load("child"), 0);
        s.is("of 1", load("child 1"), 1);
        s.is("of 3 2 1", load("child 3 2 1"), 3);
        s.is("of 1 3 2", load("child 1 3 2"), 3);
        s.is("of 1 2 3", load("child 1 2 3"), 3);
        s.is("of 99 99 99", load("child 99 99 99"), 99);
    }

    private static void saints() {
        Sentence s = says(6, "SAINT: half of what CHILD has (cut).");
        s.is("of none", load("saint"), 0);
        s.is("of 1", load("saint 1"), 0);
        s.is("of 2", load("saint 2"), 1);
        s.is("of 3", load("saint 3"), 1);
        s.is("of 1 1 1", load("saint 1 1 1"), 0);
        s.is("of 1 99 98", load("saint 1 99 98"), 49);
        s.is("of 98", load("saint 98"), 49);
    }

    private static void howManyGriefs() {
        Sentence s = says(6, "each with 0 to 3 GRIEFS in an order");
        String[] told = {"child", "child 9", "child 9 9", "child 9 9 9"};
        for (int many = 0; many < 4; many++) {
            s.is("person(0, 2) of " + told[many], Due.houseOf(told[many]).person(0, 2), many);
        }
    }

    private static void loadOneOrMore() {
        Sentence s = says(6, "PEOPLE of LOAD 1 or more, the greater LOAD ahead .. others do not go in.");
        GriefDoors x = Due.houseOf("saint 1;saint 2;guest;child 1;widow 1;saint 1");
        int[] due = {NONE, 1, NONE, 2, 0, NONE};
        for (int one = 0; one < due.length; one++) {
            s.is("person(" + one + ", 4)", x.person(one, 4), due[one]);
        }
        s.is("count(3)", x.count(3), 3);
        s.is("count(3), where none goes in", Due.houseOf("saint 1;guest").count(3), 0);
        s.is("person(0, 4), where none goes in", Due.houseOf("saint 1;guest").person(0, 4), NONE);
        GriefDoors ahead = Due.houseOf("guest 7;guest 8");
        s.is("a greater LOAD by one", ahead.person(1, 4), 0);
        s.is("a lesser LOAD by one", ahead.person(0, 4), 1);
    }

    private static void ofLikeOnesTheLesser() {
        Sentence s = says(6, "of like ones the lesser number");
        GriefDoors x = Due.houseOf("saint 8;guest 4;child 4;widow 2;guest 2 2;child 4 4;guest 4");
        for (int one = 0; one < 7; one++) {
            s.is("person(" + one + ", 4), all alike", x.person(one, 4), one);
        }
        GriefDoors two = Due.houseOf("guest 3;guest 4;guest 4");
        s.is("person(1, 4)", two.person(1, 4), 0);
        s.is("person(2, 4)", two.person(2, 4), 1);
        s.is("person(0, 4)", two.person(0, 4), 2);
    }

    private static void asTheHowManieth() {
        Sentence s = says(6, "as the how manieth one goes in (4; 0 on; NONE: not)");
        GriefDoors x = Due.houseOf("guest 1;guest 2;guest 3;guest 4;guest 5;guest 6;guest 7");
        for (int one = 0; one < 7; one++) {
            s.is("person(" + one + ", 4) of seven", x.person(one, 4), 6 - one);
        }
        s.is("person(0, 4) of one alone", Due.houseOf("guest 1").person(0, 4), 0);
        s.is("person(0, 4) without GRIEFS", Due.houseOf("guest").person(0, 4), NONE);
        x.lent(1);
        s.is("person(2, 4), whose GRIEF is just gone", x.person(2, 4), NONE);
        s.is("person(3, 4), whose GRIEF is 1", x.person(3, 4), 3);
    }

    private static void byHowMuchTheyFade() {
        Sentence s = says(6, "By KIND: GUEST: by 3. WIDOW: as GUEST, but 2 less. GENERAL: as GUEST. CHILD: by 6. SAINT: by 0.");
        GriefDoors x = Due.houseOf("guest;widow;general;child;saint");
        int[] due = {3, 1, 3, 6, 0};
        for (int one = 0; one < 5; one++) {
            s.is("person(" + one + ", 3) without GRIEFS", x.person(one, 3), due[one]);
            x.grieve(one, 1);
            s.is("person(" + one + ", 3)", x.person(one, 3), due[one]);
        }
    }

    // ---- grief, as

    private static void griefK() {
        Sentence s = says(7, "WEIGHT of GRIEF k (0 .. 2) of a PERSON");
        int[] due = {81, 7, 3};
        for (int k = 0; k < 3; k++) {
            int asked = k;
            s.changesNothing("grief(4, " + k + ")", Houses::busy, x -> x.grief(4, asked), due[k]);
        }
        GriefDoors x = Due.houseOf("guest 1 99 1;guest;guest;guest;guest;guest;guest 99 1 99");
        s.is("grief(0, 0)", x.grief(0, 0), 1);
        s.is("grief(0, 1)", x.grief(0, 1), 99);
        s.is("grief(0, 2)", x.grief(0, 2), 1);
        s.is("grief(6, 0)", x.grief(6, 0), 99);
        s.is("grief(6, 1)", x.grief(6, 1), 1);
        s.is("grief(6, 2)", x.grief(6, 2), 99);
    }

    private static void noGriefK() {
        Sentence s = says(7, "WEIGHT of GRIEF k (0 .. 2) of a PERSON; NONE.");
        GriefDoors x = Due.houseOf("child;child 5;child 5 6;child 5 6 7");
        for (int many = 0; many < 4; many++) {
            for (int k = 0; k < 3; k++) {
                s.is("grief(" + many + ", " + k + ")", x.grief(many, k), k < many ? 5 + k : NONE);
            }
        }
        x.comfort(3);
        s.is("grief(3, 2) behind a comfort", x.grief(3, 2), NONE);
        x.lent(1);
        s.is("grief(3, 0) behind a LENT", x.grief(3, 0), NONE);
    }

    private static void griefRefused() {
        Sentence s = says(7, "NONE. UNKNOWN; OUTSIDE.");
        int[] outside = {-1, 3, LEAST, MOST};
        for (int k : outside) {
            s.changesNothing("grief(4, " + k + ")", Houses::busy, x -> x.grief(4, k), OUTSIDE);
            s.changesNothing("grief(5, " + k + ") of no GRIEFS", Houses::busy, x -> x.grief(5, k), OUTSIDE);
            s.changesNothing("grief(6, " + k + ")", Houses::busy, x -> x.grief(6, k), UNKNOWN);
        }
        for (int person : NOBODY) {
            s.is("grief(" + person + ", 0) of a new house", new GriefDoors().grief(person, 0), UNKNOWN);
            s.changesNothing("grief(" + person + ", 2)", Houses::busy, x -> x.grief(person, 2), UNKNOWN);
        }
    }

    private static void takenAsAKind() {
        Sentence s = says(8, "A PERSON taken as a KIND (0 .. 5, as they are over one another): LOAD.");
        GriefDoors x = Due.houseOf("guest 9 3;widow 9 3;general 9 3;child 9 3;saint 9 3");
        int[] loads = {12, 21, 17, 9, 4};
        int[][] such = {{0, 1}, {0, 1, 2}, {0, 1, 3}, {0, 4}, {0, 4, 5}};
        for (int one = 0; one < 5; one++) {
            for (int kind : such[one]) {
                s.is("as(" + one + ", " + kind + ")", x.as(one, kind), loads[one]);
            }
        }
        s.is("as(0, 0) without GRIEFS", Due.houseOf("saint").as(0, 0), 0);
        s.changesNothing("as(4, 5)", Houses::busy, y -> y.as(4, 5), 40);
    }

    private static void noneSuch() {
        Sentence s = says(8, "NOT: it is none such.");
        GriefDoors x = Due.houseOf("guest 9 3;widow 9 3;general 9 3;child 9 3;saint 9 3");
        int[][] not = {{2, 3, 4, 5}, {3, 4, 5}, {2, 4, 5}, {1, 2, 3, 5}, {1, 2, 3}};
        for (int one = 0; one < 5; one++) {
            for (int kind : not[one]) {
                s.is("as(" + one + ", " + kind + ")", x.as(one, kind), NOT);
            }
        }
        s.changesNothing("as(4, 1)", Houses::busy, y -> y.as(4, 1), NOT);
    }

    private static void asRefused() {
        Sentence s = says(8, "LOAD. UNKNOWN; OUTSIDE; NOT");
        int[] outside = {-1, 6, LEAST, MOST};
        for (int kind : outside) {
            s.changesNothing("as(4, " + kind + ")", Houses::busy, x -> x.as(4, kind), OUTSIDE);
            s.changesNothing("as(6, " + kind + ")", Houses::busy, x -> x.as(6, kind), UNKNOWN);
        }
        for (int person : NOBODY) {
            s.is("as(" + person + ", 0) of a new house", new GriefDoors().as(person, 0), UNKNOWN);
            s.changesNothing("as(" + person + ", 0)", Houses::busy, x -> x.as(person, 0), UNKNOWN);
        }
    }

    // ---- pair, unpair

    private static void aPairMore() {
        Sentence s = says(9, "A PAIR more: how many there are.");
        GriefDoors x = Due.houseOf("guest 9;guest 8;guest;guest;guest;guest;guest 1");
        s.is("count(1) ahead", x.count(1), 0);
        s.is("pair(6, 0), the last and the first", x.pair(6, 0), 1);
        s.is("wrong()", x.wrong(), 1);
        s.is("pair(0, 6)", x.pair(0, 6), 2);
        s.is("wrong()", x.wrong(), 1);
        s.is("pair(0, 6), the same again", x.pair(0, 6), 3);
        s.is("ranked(NONE)", x.ranked(NONE), 1);
        s.is("count(1)", x.count(1), 3);
        s.is("wrong()", x.wrong(), 1);
    }

    private static void noSuchTwo() {
        Sentence s = says(9, "UNKNOWN (no such PERSON, DRAWER; two that are the same, where two are asked)");
        for (int person : NOBODY) {
            s.changesNothing("pair(" + person + ", 0)", Houses::busy, x -> x.pair(person, 0), UNKNOWN);
            s.changesNothing("pair(5, " + person + ")", Houses::busy, x -> x.pair(5, person), UNKNOWN);
            s.changesNothing("pair twice " + person, Houses::busy, x -> x.pair(person, person), UNKNOWN);
        }
        for (int one = 0; one < 6; one++) {
            int same = one;
            s.changesNothing("pair twice " + one, Houses::busy, x -> x.pair(same, same), UNKNOWN);
        }
        s.is("pair(0, 1) of nobody", new GriefDoors().pair(0, 1), UNKNOWN);
        s.is("pair(0, 1) of one", Due.houseOf("guest").pair(0, 1), UNKNOWN);
        s.is("pair(5, 0) of six", Due.houseOf("guest;guest;guest;guest;guest;guest").pair(5, 0), 1);
    }

    private static void twelvePairs() {
        Sentence s = says(9, "PAIRS, 12 at most (none at first)");
        GriefDoors x = Due.houseOf("guest 9;guest 8");
        for (int k = 1; k <= 12; k++) {
            s.is("pair " + k, x.pair(1, 0), k);
        }
        s.is("pair 13", x.pair(0, 1), FULL);
        s.is("count(1)", x.count(1), 12);
        s.is("wrong(), of all twelve", x.wrong(), 12);
        s.changesNothing("pair 13, of a text's and eleven more", Houses::fullOfPairs, y -> y.pair(0, 1), FULL);
        GriefDoors told = Due.houseOf("guest 9;guest 8" + ";pair 1 0".repeat(11));
        s.is("pair 12, behind eleven of a text", told.pair(0, 1), 12);
        s.is("pair 13", told.pair(0, 1), FULL);
        s.is("wrong(), of the eleven", told.wrong(), 11);
        GriefDoors all = Due.houseOf("guest 9;guest 8" + ";pair 1 0".repeat(12));
        s.is("pair 13, behind twelve of a text", all.pair(0, 1), FULL);
        s.is("wrong()", all.wrong(), 12);
    }

    private static void unknownAheadOfFull() {
        Sentence s = says(9, "how many there are. UNKNOWN; FULL.");
        s.changesNothing("pair(1, 1) where it is full", Houses::fullOfPairs, x -> x.pair(1, 1), UNKNOWN);
        s.changesNothing("pair(3, 0) where it is full", Houses::fullOfPairs, x -> x.pair(3, 0), UNKNOWN);
        s.changesNothing("pair(0, 3) where it is full", Houses::fullOfPairs, x -> x.pair(0, 3), UNKNOWN);
        s.changesNothing("pair(-1, 0) where it is full", Houses::fullOfPairs, x -> x.pair(-1, 0), UNKNOWN);
        s.changesNothing("pair(0, 2) where it is full", Houses::fullOfPairs, x -> x.pair(0, 2), FULL);
    }

    private static void noPairs() {
        Sentence s = says(10, "There are no PAIRS: how many there were.");
        GriefDoors x = new GriefDoors();
        s.is("unpair() of nobody", x.unpair(), 0);
        Due.tell(x, "guest 9;guest 8;guest 7;pair 1 0");
        s.is("lines() ahead", x.lines(), 3);
        s.is("next() ahead", x.next(), 2);
        s.is("ranked(0) ahead", x.ranked(0), 1);
        s.is("unpair() of one of a text", x.unpair(), 1);
        s.is("unpair() again", x.unpair(), 0);
        s.is("wrong()", x.wrong(), 0);
        s.is("lines()", x.lines(), 6);
        s.is("next()", x.next(), 1);
        s.is("ranked(0)", x.ranked(0), 0);
        for (int k = 1; k <= 12; k++) {
            s.is("pair " + k + " behind it", x.pair(1, 0), k);
        }
        s.is("unpair() of twelve", x.unpair(), 12);
        s.is("count(1)", x.count(1), 0);
        s.is("ranked(0)", x.ranked(0), 0);
        s.is("pair behind it", x.pair(0, 1), 1);
        s.is("wrong(), of that alone", x.wrong(), 0);
        s.changesNothing("unpair() of none", y -> Due.tell(y, "guest 9;guest 8"), y -> y.unpair(), 0);
    }
}
