import java.util.Arrays;
import java.util.Random;

/** Runs of up to 512 calls, alike each time, with arguments at and beyond their bounds, against the Oracle. */
public final class OracleTest {
    private static final Due D = Due.begin();
    private static final int RUNS = 90;
    private static final int CALLS = 512;
    /** No more calls than this fill the drawers. */
    private static final int FILLING = 4 + 4 * 6;
    private static final String[] WORDS = {"guest", "widow", "general", "child", "saint", "guest", "widow", "child"};
    private static final int[] FAR = {Integer.MIN_VALUE, Integer.MAX_VALUE, -2, 61, 401, 10000, -10000, 17576, 256, 1000};

    private static final String SPOILERS = " ;;0199aghp.A\t\u00e9\u0000\u00ff";

    private final Random random;
    private final int run;
    private final GriefDoors x = new GriefDoors();
    private final Oracle due = new Oracle();
    private final StringBuilder told = new StringBuilder();
    private int calls = 0;

    private OracleTest(int run) {
        this.run = run;
        this.random = new Random(20261118L + run);
    }

    public static void main(String[] args) {
        for (int run = 0; run < RUNS; run++) {
            new OracleTest(run).go();
        }
        D.end("OracleTest");
    }

    private void go() {
        tell(houseText());
        while (calls < CALLS) {
            int sort = random.nextInt(run % 3 == 0 ? 40 : 600);
            if (sort < 2) {
                tell(moreText());
            } else if (sort < 4) {
                tell(spoiled(moreText()));
            } else {
                one(random.nextInt(run % 3 == 2 ? 50 : 33));
            }
            if (run % 3 == 2 && due.count(7) < 2 && calls + FILLING <= CALLS) {
                fillDrawers();
            }
        }
    }

    private void tell(String text) {
        for (int k = 0; k < text.length() && calls < CALLS; k++) {
            same("write", x.write(text.charAt(k)), due.write(text.charAt(k)), text.charAt(k));
        }
        told.append(" \"").append(text).append('"');
        if (calls + 3 <= CALLS) {
            same("fault", x.fault(), due.fault());
            same("house", x.house(), due.house());
            same("erase", x.erase(), due.erase());
        }
    }

    private void fillDrawers() {
        for (int d = 0; d < 4; d++) {
            int n = random.nextInt(7);
            same("drawer", x.drawer(d, n), due.drawer(d, n), d, n);
            for (int i = 0; i < n; i++) {
                put(d, i);
            }
        }
    }

    private void put(int d, int i) {
        int what = random.nextInt(20) == 0 ? number(0, 3) : d % 3;
        int v = what == 2 ? someone() : what == 1 ? number(0, 17575) : number(-9999, 9999);
        same("put", x.put(d, i, what, v), due.put(d, i, what, v), d, i, what, v);
    }

    private String houseText() {
        StringBuilder text = new StringBuilder();
        int many = random.nextInt(8);
        int most = random.nextBoolean() ? 99 : 12;
        for (int k = 0; k < many; k++) {
            text.append(text.length() > 0 ? ";" : "").append(personText(most));
        }
        int pairs = many < 2 ? 0 : random.nextInt(6);
        for (int k = 0; k < pairs; k++) {
            int a = random.nextInt(many);
            text.append(";pair ").append(a).append(' ').append((a + 1 + random.nextInt(many - 1)) % many);
        }
        return text.toString();
    }

    private String personText(int most) {
        StringBuilder text = new StringBuilder(WORDS[random.nextInt(WORDS.length)]);
        for (int k = random.nextInt(4); k > 0; k--) {
            text.append(' ').append(1 + random.nextInt(most));
        }
        return text.toString();
    }

    private String moreText() {
        switch (random.nextInt(7)) {
            case 0:
                return "house;" + houseText();
            case 1:
                return "pair 0 1; pair 1 2";
            case 2:
                return manyPairs();
            case 3:
                return "house;guest 9;widow 8;child 7;" + manyPairs();
            case 4:
                return personText(99) + " ; " + personText(20);
            case 5:
                return "house;".repeat(16 + random.nextInt(6)) + "guest";
            default:
                return personText(99);
        }
    }

    /** So many that a thirteenth is among them now and then, by what earlier texts told. */
    private String manyPairs() {
        StringBuilder text = new StringBuilder("pair 1 0");
        for (int k = random.nextInt(13); k > 0; k--) {
            int a = random.nextInt(2);
            text.append(";pair ").append(a).append(' ').append(1 - a);
        }
        return text.toString();
    }

    private String spoiled(String text) {
        StringBuilder all = new StringBuilder(text);
        for (int k = random.nextInt(3); k >= 0; k--) {
            int at = random.nextInt(all.length() + 1);
            if (random.nextBoolean() && at < all.length()) {
                all.deleteCharAt(at);
            } else {
                all.insert(at, SPOILERS.charAt(random.nextInt(SPOILERS.length())));
            }
        }
        return all.toString();
    }

    /** A number that mostly is within its bounds, else next to them, else far off. */
    private int number(int least, int most) {
        int sort = random.nextInt(40);
        if (sort == 0) {
            return least - 1;
        }
        if (sort == 1) {
            return most + 1;
        }
        return sort == 2 ? FAR[random.nextInt(FAR.length)] : least + random.nextInt(most - least + 1);
    }

    private int someone() {
        return number(0, Math.max(due.count(0) - 1, 0));
    }

    private void one(int call) {
        int a = someone();
        int b = someone();
        if (call < 11) {
            tellOrDo(call, a, b);
        } else if (call < 22) {
            foretell(call, a, b);
        } else {
            // beyond the calls that there are: drawers once more, since it takes many calls to fill one
            keepHouse(call < 33 ? call : 25 + (call - 33) % 6, a);
        }
    }

    private void tellOrDo(int call, int a, int b) {
        int n;
        switch (call) {
            case 0: n = number(0, 4); same("person", x.person(a, n), due.person(a, n), a, n); break;
            case 1: n = number(0, 2); same("grief", x.grief(a, n), due.grief(a, n), a, n); break;
            case 2: n = number(0, 5); same("as", x.as(a, n), due.as(a, n), a, n); break;
            case 3: same("pair", x.pair(a, b), due.pair(a, b), a, b); break;
            case 4: if (random.nextInt(6) == 0) { same("unpair", x.unpair(), due.unpair()); } break;
            case 5: n = number(1, random.nextInt(4) == 0 ? 12 : 2); same("lent", x.lent(n), due.lent(n), n); break;
            case 6: n = number(1, 99); same("grieve", x.grieve(a, n), due.grieve(a, n), a, n); break;
            case 7: same("comfort", x.comfort(a), due.comfort(a), a); break;
            case 8: same("undo", x.undo(), due.undo()); break;
            case 9: n = number(0, 1); same("keep", x.keep(n), due.keep(n), n); break;
            default: n = number(0, 1); same("back", x.back(n), due.back(n), n); break;
        }
    }

    private void foretell(int call, int a, int b) {
        int n;
        int k;
        switch (call) {
            case 11: n = number(0, 60); k = number(0, 1); same("behind", x.behind(a, n, k), due.behind(a, n, k), a, n, k); break;
            case 12: k = number(0, 6); n = number(0, 60); same("enters", x.enters(k, n), due.enters(k, n), k, n); break;
            case 13: same("ahead", x.ahead(a, b), due.ahead(a, b), a, b); break;
            case 14: same("wrong", x.wrong(), due.wrong()); break;
            case 15: k = number(-1, 6); if (isSeldom()) { same("ranked", x.ranked(k), due.ranked(k), k); } break;
            case 16: if (isSeldom()) { same("lines", x.lines(), due.lines()); } break;
            case 17: if (isSeldom()) { same("next", x.next(), due.next()); } break;
            case 18:
            case 19:
                n = number(1, random.nextBoolean() ? 400 : 60);
                k = random.nextInt(4) == 0 ? -1 : a;
                if (isSeldom()) { same("rooms", x.rooms(n, k), due.rooms(n, k), n, k); }
                break;
            default: n = number(0, 10); k = number(0, 1); same("misread", x.misread(a, b, n, k), due.misread(a, b, n, k), a, b, n, k); break;
        }
    }

    /** Dear for the Oracle where there are seven. */
    private boolean isSeldom() {
        return due.count(0) < 6 || random.nextInt(6) == 0;
    }

    private void keepHouse(int call, int a) {
        int d = number(0, 3);
        int i = number(0, 3);
        int n;
        int v;
        switch (call) {
            case 22: n = number(0, 3); v = number(0, 9); same("seen", x.seen(a, n, v), due.seen(a, n, v), a, n, v); break;
            case 23: if (random.nextInt(4) == 0) { same("forget", x.forget(), due.forget()); } break;
            case 24: n = number(0, 1); same("kinds", x.kinds(a, n), due.kinds(a, n), a, n); break;
            case 25: n = number(0, 10); if (random.nextInt(8) == 0) { same("drawer", x.drawer(d, n), due.drawer(d, n), d, n); } break;
            case 26:
            case 27:
                put(d, i);
                break;
            case 28: n = number(0, 2); same("take", x.take(d, i, n), due.take(d, i, n), d, i, n); break;
            case 29: same("tidy", x.tidy(d), due.tidy(d), d); break;
            case 30:
                v = number(0, 3);
                n = number(0, 3);
                int j = number(0, 2);
                same("copy", x.copy(d, i, v, j, n), due.copy(d, i, v, j, n), d, i, v, j, n);
                break;
            case 31: if (random.nextInt(8) == 0) { same("drop", x.drop(d), due.drop(d), d); } break;
            default: n = number(0, 9); same("count", x.count(n), due.count(n), n); break;
        }
    }

    private void same(String call, int got, int want, int... arguments) {
        calls++;
        D.due(0, "run " + run + ", call " + calls + ", told" + told + ": " + call + Arrays.toString(arguments), got, want);
    }
}
