/** Promises 17 to 25: what is foretold. */
public final class ForetoldTest {
    private static final Due D = Due.begin();

    public static void main(String[] args) {
        behind();
        enters();
        ahead();
        wrong();
        ranked();
        lines();
        next();
        rooms();
        misread();
        aFullHouse();
        nothingChanges();
        D.end("ForetoldTest");
    }

    private static void behind() {
        GriefDoors x = Due.houseOf("general 30 4;widow 99 99 99;saint 99;child 60;guest 99");
        D.due(17, "behind(0, 0, 0)", x.behind(0, 0, 0), 39);
        D.due(17, "behind(0, 1, 0)", x.behind(0, 1, 0), 33);
        D.due(17, "behind(0, 2, 0)", x.behind(0, 2, 0), 24);
        D.due(17, "behind(0, 2, 1)", x.behind(0, 2, 1), 2);
        D.due(17, "behind(0, 10, 0)", x.behind(0, 10, 0), 0);
        D.due(17, "behind(0, 2, 0), where a GRIEF is just gone", Due.houseOf("general 6 7").behind(0, 2, 0), 1);
        D.due(17, "behind(1, 0, 0)", x.behind(1, 0, 0), 396);
        D.due(17, "behind(1, 0, 1)", x.behind(1, 0, 1), 9);
        D.due(17, "behind(1, 60, 0)", x.behind(1, 60, 0), 156);
        D.due(17, "behind(2, 60, 0)", x.behind(2, 60, 0), 49);
        D.due(17, "behind(3, 9, 0)", x.behind(3, 9, 0), 6);
        D.due(17, "behind(3, 10, 0)", x.behind(3, 10, 0), 0);
        D.due(17, "behind(4, 1, 1)", x.behind(4, 1, 1), 9);
        D.due(17, "behind(4, 3, 1)", x.behind(4, 3, 1), 9);
        D.due(17, "behind(4, 4, 1)", x.behind(4, 4, 1), 8);
        D.due(17, "behind(0, 61, 0)", x.behind(0, 61, 0), GriefDoors.OUTSIDE);
        D.due(17, "behind(0, -1, 0)", x.behind(0, -1, 0), GriefDoors.OUTSIDE);
        D.due(17, "behind(0, 0, 2)", x.behind(0, 0, 2), GriefDoors.OUTSIDE);
        D.due(17, "behind(0, 0, -1)", x.behind(0, 0, -1), GriefDoors.OUTSIDE);
        D.due(17, "behind(5, 61, 2)", x.behind(5, 61, 2), GriefDoors.UNKNOWN);
    }

    private static void enters() {
        GriefDoors x = Due.houseOf("guest 30;child 40;guest 30;saint;saint 40");
        int[] now = {1, 0, 2, 4, -1, -1, -1};
        int[] behindThree = {1, 0, 2, 4, -1, -1, -1};
        int[] behindFour = {4, 0, 2, 1, -1, -1, -1};
        int[] behindTen = {4, -1, -1, -1, -1, -1, -1};
        for (int k = 0; k < 7; k++) {
            D.due(18, "enters(" + k + ", 0)", x.enters(k, 0), now[k]);
            D.due(18, "enters(" + k + ", 3)", x.enters(k, 3), behindThree[k]);
            D.due(18, "enters(" + k + ", 4)", x.enters(k, 4), behindFour[k]);
            D.due(18, "enters(" + k + ", 10)", x.enters(k, 10), behindTen[k]);
        }
        D.due(18, "enters(0, 60)", x.enters(0, 60), 4);
        D.due(18, "enters(7, 0)", x.enters(7, 0), GriefDoors.OUTSIDE);
        D.due(18, "enters(-1, 0)", x.enters(-1, 0), GriefDoors.OUTSIDE);
        D.due(18, "enters(0, 61)", x.enters(0, 61), GriefDoors.OUTSIDE);
        D.due(18, "enters(0, -1)", x.enters(0, -1), GriefDoors.OUTSIDE);
    }

    private static void ahead() {
        GriefDoors x = Due.houseOf("guest 30;child 40;guest 30;saint;saint 2;widow 70 60;widow 35");
        D.due(19, "ahead(1, 0)", x.ahead(1, 0), 0);
        D.due(19, "ahead(0, 1)", x.ahead(0, 1), 4);
        D.due(19, "ahead(0, 2)", x.ahead(0, 2), 0);
        D.due(19, "ahead(2, 0)", x.ahead(2, 0), GriefDoors.NONE);
        D.due(19, "ahead(0, 3)", x.ahead(0, 3), 0);
        D.due(19, "ahead(3, 0)", x.ahead(3, 0), GriefDoors.NONE);
        D.due(19, "ahead(4, 0)", x.ahead(4, 0), 10);
        D.due(19, "ahead(4, 5)", x.ahead(4, 5), GriefDoors.NONE);
        D.due(19, "ahead(4, 6)", x.ahead(4, 6), 35);
        D.due(19, "ahead(0, 0)", x.ahead(0, 0), GriefDoors.UNKNOWN);
        D.due(19, "ahead(0, 7)", x.ahead(0, 7), GriefDoors.UNKNOWN);
        D.due(19, "ahead(-1, 0)", x.ahead(-1, 0), GriefDoors.UNKNOWN);
        GriefDoors last = Due.houseOf("widow 60;widow 61;saint 2");
        D.due(19, "ahead(2, 0) at the last", last.ahead(2, 0), 60);
        D.due(19, "ahead(2, 1) beyond it", last.ahead(2, 1), GriefDoors.NONE);
    }

    private static void wrong() {
        GriefDoors x = Due.houseOf("guest 30;child 40;guest 30;saint;saint 1");
        D.due(20, "wrong()", x.wrong(), 0);
        int[][] pairs = {{1, 0}, {0, 1}, {0, 2}, {2, 0}, {0, 3}, {3, 0}, {3, 4}, {4, 3}, {0, 1}};
        int[] due = {0, 1, 1, 2, 2, 3, 4, 5, 6};
        for (int k = 0; k < pairs.length; k++) {
            x.pair(pairs[k][0], pairs[k][1]);
            D.due(20, "wrong() with pair " + k, x.wrong(), due[k]);
        }
        x.lent(4);
        D.due(20, "wrong() behind four LENTS", x.wrong(), 5);
    }

    private static void ranking(GriefDoors x, int broken, int... order) {
        D.due(21, "ranked(-1)", x.ranked(-1), broken);
        for (int k = 0; k < 7; k++) {
            D.due(21, "ranked(" + k + ")", x.ranked(k), k < order.length ? order[k] : GriefDoors.NONE);
        }
    }

    private static void ranked() {
        GriefDoors x = new GriefDoors();
        ranking(x, 0);
        D.due(21, "ranked(7)", x.ranked(7), GriefDoors.OUTSIDE);
        D.due(21, "ranked(-2)", x.ranked(-2), GriefDoors.OUTSIDE);
        Due.tell(x, "guest;guest;guest;guest 9");
        ranking(x, 0, 0, 1, 2, 3);
        x.pair(2, 1);
        ranking(x, 0, 0, 2, 1, 3);
        x.pair(3, 0);
        ranking(x, 0, 2, 1, 3, 0);
        x.pair(1, 2);
        ranking(x, 1, 1, 2, 3, 0);
        x.pair(2, 1);
        ranking(x, 1, 2, 1, 3, 0);
        x.pair(0, 3);
        ranking(x, 2, 0, 2, 1, 3);
        x.pair(3, 2);
        x.pair(3, 2);
        ranking(x, 2, 0, 3, 2, 1);
    }

    private static void lines() {
        GriefDoors x = new GriefDoors();
        D.due(22, "lines() of nobody", x.lines(), 1);
        Due.tell(x, "guest");
        D.due(22, "lines() of one", x.lines(), 1);
        Due.tell(x, "guest;guest;guest");
        D.due(22, "lines()", x.lines(), 24);
        x.pair(0, 1);
        D.due(22, "lines()", x.lines(), 12);
        x.pair(0, 1);
        D.due(22, "lines()", x.lines(), 12);
        x.pair(2, 3);
        D.due(22, "lines()", x.lines(), 6);
        x.pair(1, 2);
        D.due(22, "lines()", x.lines(), 1);
        x.pair(3, 0);
        D.due(22, "lines()", x.lines(), 0);
        Due.tell(x, "house;guest;guest;guest;guest;guest;guest;guest");
        D.due(22, "lines() of seven", x.lines(), 5040);
    }

    private static void next() {
        GriefDoors x = new GriefDoors();
        D.due(23, "next() of nobody", x.next(), GriefDoors.NONE);
        Due.tell(x, "guest");
        D.due(23, "next() of one", x.next(), GriefDoors.NONE);
        Due.tell(x, "guest;guest;guest");
        D.due(23, "next()", x.next(), 1);
        x.pair(0, 1);
        D.due(23, "next(): 2 and 3 part 12 best", x.next(), 23);
        x.pair(2, 3);
        D.due(23, "next(): 0 and 2 part 6 best, as 1 and 3 do", x.next(), 2);
        x.unpair();
        x.pair(1, 0);
        x.pair(2, 1);
        x.pair(3, 2);
        D.due(23, "next() of one line", x.next(), GriefDoors.NONE);
        x.pair(0, 3);
        D.due(23, "next() of no line", x.next(), GriefDoors.NONE);
    }

    private static void lodged(GriefDoors x, int c, int needed, int... rooms) {
        D.due(24, "rooms(" + c + ", -1)", x.rooms(c, -1), needed);
        for (int one = 0; one < rooms.length; one++) {
            D.due(24, "rooms(" + c + ", " + one + ")", x.rooms(c, one), rooms[one]);
        }
    }

    private static void rooms() {
        GriefDoors x = new GriefDoors();
        lodged(x, 1, 0);
        D.due(24, "rooms(0, -1)", x.rooms(0, -1), GriefDoors.OUTSIDE);
        D.due(24, "rooms(401, -1)", x.rooms(401, -1), GriefDoors.OUTSIDE);
        D.due(24, "rooms(0, 0)", x.rooms(0, 0), GriefDoors.UNKNOWN);
        D.due(24, "rooms(1, -2)", x.rooms(1, -2), GriefDoors.UNKNOWN);
        Due.tell(x, "guest;saint 1");
        lodged(x, 1, 1, 0, 0);
        Due.tell(x, "house;guest 4;guest 4;guest 3;guest 3;guest 2;guest 2");
        lodged(x, 9, 2, 0, 1, 0, 1, 0, 1);
        lodged(x, 18, 1, 0, 0, 0, 0, 0, 0);
        lodged(x, 17, 2, 0, 0, 0, 0, 0, 1);
        lodged(x, 4, 5, 0, 1, 2, 3, 4, 4);
        lodged(x, 3, -1, -1, -1, -1, -1, -1, -1);
        D.due(24, "rooms(3, 6)", x.rooms(3, 6), GriefDoors.UNKNOWN);
        Due.tell(x, "house;guest 1;guest 5;guest 5;guest 4");
        lodged(x, 9, 2, 0, 0, 1, 1);
        lodged(x, 8, 3, 0, 0, 1, 2);
        Due.tell(x, "house;guest 9;guest 9;guest 9;guest 9;guest 9;guest 9;guest 9");
        lodged(x, 10, 7, 0, 1, 2, 3, 4, 5, 6);
        Due.tell(x, "house;widow 99 99 99");
        lodged(x, 395, -1, -1);
        lodged(x, 396, 1, 0);
        lodged(x, 400, 1, 0);
    }

    private static void odds(GriefDoors x, int a, int b, int q, int above, int below) {
        String call = "misread(" + a + ", " + b + ", " + q;
        D.due(25, call + ", 0)", x.misread(a, b, q, 0), above);
        D.due(25, call + ", 1)", x.misread(a, b, q, 1), below);
    }

    private static void misread() {
        GriefDoors x = Due.houseOf("guest 20;guest 29;guest 30;guest 40;guest 50;guest 99;widow 99");
        odds(x, 0, 1, 0, 0, 1);
        odds(x, 0, 2, 0, 0, 1);
        odds(x, 2, 0, 0, 1, 1);
        odds(x, 0, 1, 10, 1, 4);
        // like STEPS: above by (0,-), (+,0), (+,-) with q 1: 18 + 18 + 1 of 400
        odds(x, 0, 1, 1, 37, 400);
        odds(x, 1, 0, 1, 37, 400);
        // one less: by (+,-) alone, as (+,0) and (0,-) are like
        odds(x, 0, 2, 2, 1, 100);
        odds(x, 0, 3, 10, 0, 1);
        // one more: all but those two less, and those alike
        odds(x, 2, 0, 1, 363, 400);
        odds(x, 3, 0, 10, 3, 4);
        odds(x, 4, 0, 10, 1, 1);
        // STEPS are nine at most, and are read as ten too
        odds(x, 5, 6, 10, 1, 4);
        GriefDoors low = Due.houseOf("guest;saint");
        odds(low, 0, 1, 10, 1, 4);
        D.due(25, "misread(0, 1, 11, 0)", x.misread(0, 1, 11, 0), GriefDoors.OUTSIDE);
        D.due(25, "misread(0, 1, -1, 0)", x.misread(0, 1, -1, 0), GriefDoors.OUTSIDE);
        D.due(25, "misread(0, 1, 0, 2)", x.misread(0, 1, 0, 2), GriefDoors.OUTSIDE);
        D.due(25, "misread(0, 1, 0, -1)", x.misread(0, 1, 0, -1), GriefDoors.OUTSIDE);
        D.due(25, "misread(0, 0, 11, 2)", x.misread(0, 0, 11, 2), GriefDoors.UNKNOWN);
        D.due(25, "misread(0, 7, 0, 0)", x.misread(0, 7, 0, 0), GriefDoors.UNKNOWN);
        D.due(25, "misread(-1, 0, 0, 0)", x.misread(-1, 0, 0, 0), GriefDoors.UNKNOWN);
    }

    private static void aFullHouse() {
        GriefDoors x = Due.houseOf("guest 1;guest 2;guest 3;guest 4;guest 5;guest 6;saint");
        int[] order = {5, 4, 3, 2, 1, 0, -1};
        for (int k = 0; k < 7; k++) {
            D.due(18, "enters(" + k + ", 0)", x.enters(k, 0), order[k]);
        }
        ranking(x, 0, 0, 1, 2, 3, 4, 5, 6);
        D.due(22, "lines()", x.lines(), 5040);
        D.due(23, "next()", x.next(), 1);
        x.pair(0, 1);
        x.pair(6, 0);
        ranking(x, 0, 2, 3, 4, 5, 6, 0, 1);
        D.due(22, "lines()", x.lines(), 840);
        D.due(23, "next(): 0 is in the midst of three", x.next(), 2);
        x.pair(0, 6);
        ranking(x, 1, 0, 1, 2, 3, 4, 5, 6);
        D.due(23, "next()", x.next(), GriefDoors.NONE);
        lodged(x, 21, 1, 0, 0, 0, 0, 0, 0, 0);
        lodged(x, 7, 3, 0, 1, 2, 2, 1, 0, 0);
        D.due(35, "count(3)", x.count(3), 6);
        D.due(35, "count(4)", x.count(4), 21);
        D.due(35, "count(5)", x.count(5), 6);
    }

    private static void nothingChanges() {
        GriefDoors x = Due.houseOf("guest 30 4;child 40;widow 7;pair 0 1;pair 1 2;pair 2 0");
        x.lent(1);
        x.seen(0, 0, 2);
        String before = Due.stateOf(x);
        x.behind(0, 60, 0);
        x.enters(0, 60);
        x.ahead(2, 1);
        x.next();
        x.rooms(50, 1);
        x.misread(0, 1, 3, 0);
        D.due(17, "the state behind all that is foretold", Due.stateOf(x), before);
    }
}
