import java.util.ArrayList;
import java.util.Arrays;
import java.util.List;
import java.util.regex.Matcher;
import java.util.regex.Pattern;

/** A second way to every answer, as slow as it likes: Lents one by one, orders all tried, texts by patterns. */
final class Oracle {
    private static final int NONE = -1, UNKNOWN = -2, OUTSIDE = -3, NOT = -4, FULL = -5;
    private static final int NULL = -11, INDEX = -12, EMPTY = -13, CAST = -14, SIZE = -15;
    private static final List<String> KINDS = List.of("guest", "widow", "general", "child", "saint");
    private static final Pattern TOKEN = Pattern.compile("[a-z]+|[0-9]+|[^ ]", Pattern.DOTALL);

    private static final class One {
        final int kind;
        final List<Integer> told;
        List<Integer> griefs;

        One(int kind, List<Integer> told) {
            this.kind = kind;
            this.told = told;
            this.griefs = new ArrayList<>(told);
        }
    }

    private record Was(int lent, List<List<Integer>> griefs) {
    }

    private record Token(int at, String word) {
    }

    private record Thing(int sort, int value) {
    }

    private StringBuilder text = new StringBuilder();
    private List<One> people = new ArrayList<>();
    private List<int[]> pairs = new ArrayList<>();
    private List<int[]> pairsOfTexts = new ArrayList<>();
    private List<int[]> sights = new ArrayList<>();
    private List<Was> undos = new ArrayList<>();
    private Was[] kept = new Was[2];
    private Thing[][] drawers = new Thing[4][];
    private int lent = 0;

    // ---- what is told

    int write(int letter) {
        if (letter < 0 || letter > 255) {
            return OUTSIDE;
        }
        if (text.length() == 200) {
            return FULL;
        }
        text.append((char) letter);
        return text.length();
    }

    int erase() {
        int had = text.length();
        text = new StringBuilder();
        return had;
    }

    int fault() {
        return read(new ArrayList<>());
    }

    private int read(List<List<String>> clauses) {
        List<Token> tokens = new ArrayList<>();
        Matcher matcher = TOKEN.matcher(text);
        while (matcher.find()) {
            tokens.add(new Token(matcher.start(), matcher.group()));
        }
        Token end = new Token(text.length(), "");
        tokens.add(end);
        int there = people.size();
        int paired = pairsOfTexts.size();
        List<String> clause = new ArrayList<>();
        for (Token token : tokens) {
            String word = token.word();
            boolean fits;
            if (clause.isEmpty()) {
                fits = word.equals("house") || (KINDS.contains(word) && there < 7) || (word.equals("pair") && paired < 12);
            } else if (word.isEmpty() || word.equals(";")) {
                fits = (!clause.get(0).equals("pair") || clause.size() == 3) && (word.isEmpty() || clauses.size() < 19);
            } else if (!word.matches("[0-9]{1,2}")) {
                fits = false;
            } else {
                int number = Integer.parseInt(word);
                fits = switch (clause.get(0)) {
                    case "house" -> false;
                    case "pair" -> number < there && clause.size() < 3
                        && (clause.size() < 2 || Integer.parseInt(clause.get(1)) != number);
                    default -> number > 0 && clause.size() < 4;
                };
            }
            if (!fits) {
                return token.at();
            }
            if (word.isEmpty() || word.equals(";")) {
                String first = clause.get(0);
                paired = first.equals("house") ? 0 : first.equals("pair") ? paired + 1 : paired;
                there = first.equals("house") ? 0 : first.equals("pair") ? there : there + 1;
                clauses.add(clause);
                clause = new ArrayList<>();
                if (word.isEmpty()) {
                    return NONE;
                }
            } else {
                clause.add(word);
            }
        }
        return end.at();
    }

    int house() {
        List<List<String>> clauses = new ArrayList<>();
        if (read(clauses) != NONE) {
            return NOT;
        }
        for (List<String> clause : clauses) {
            List<Integer> numbers = new ArrayList<>();
            for (String number : clause.subList(1, clause.size())) {
                numbers.add(Integer.parseInt(number));
            }
            if (clause.get(0).equals("house")) {
                people.clear();
                pairsOfTexts.clear();
            } else if (clause.get(0).equals("pair")) {
                pairsOfTexts.add(new int[] {numbers.get(0), numbers.get(1)});
            } else {
                people.add(new One(KINDS.indexOf(clause.get(0)), numbers));
            }
        }
        for (One one : people) {
            one.griefs = new ArrayList<>(one.told);
        }
        pairs = new ArrayList<>(pairsOfTexts);
        lent = 0;
        sights.clear();
        undos.clear();
        kept = new Was[2];
        drawers = new Thing[4][];
        text = new StringBuilder();
        return clauses.size();
    }

    private boolean isOne(int person) {
        return person >= 0 && person < people.size();
    }

    private static int fades(int kind) {
        return switch (kind) {
            case 0, 2 -> 3;
            case 1 -> 3 - 2;
            case 3 -> 6;
            default -> 0;
        };
    }

    private static int load(int kind, List<Integer> griefs) {
        int sum = griefs.stream().mapToInt(Integer::intValue).sum();
        int max = griefs.stream().mapToInt(Integer::intValue).max().orElse(0);
        return switch (kind) {
            case 0 -> sum;
            case 1 -> sum + max;
            case 2 -> griefs.size() > 1 ? sum + 5 : sum;
            case 3 -> max;
            default -> max / 2;
        };
    }

    private static List<Integer> faded(int kind, List<Integer> griefs, int lents) {
        List<Integer> left = new ArrayList<>(griefs);
        for (int n = 0; n < lents; n++) {
            left.replaceAll(weight -> weight - fades(kind));
            left.removeIf(weight -> weight <= 0);
        }
        return left;
    }

    private int load(int person, int lents) {
        One one = people.get(person);
        return load(one.kind, faded(one.kind, one.griefs, lents));
    }

    private List<Integer> order(int lents) {
        List<Integer> order = new ArrayList<>();
        int[] loads = new int[people.size()];
        for (int one = 0; one < people.size(); one++) {
            loads[one] = load(one, lents);
            if (loads[one] >= 1) {
                order.add(one);
            }
        }
        order.sort((a, b) -> loads[a] != loads[b] ? loads[b] - loads[a] : a - b);
        return order;
    }

    int person(int person, int what) {
        if (!isOne(person)) {
            return UNKNOWN;
        }
        One one = people.get(person);
        return switch (what) {
            case 0 -> one.kind;
            case 1 -> load(one.kind, one.griefs);
            case 2 -> one.griefs.size();
            case 3 -> fades(one.kind);
            case 4 -> order(0).indexOf(person);
            default -> OUTSIDE;
        };
    }

    int grief(int person, int k) {
        if (!isOne(person)) {
            return UNKNOWN;
        }
        if (k < 0 || k > 2) {
            return OUTSIDE;
        }
        List<Integer> griefs = people.get(person).griefs;
        return k < griefs.size() ? griefs.get(k) : NONE;
    }

    int as(int person, int kind) {
        if (!isOne(person)) {
            return UNKNOWN;
        }
        if (kind < 0 || kind > 5) {
            return OUTSIDE;
        }
        List<Integer> such = switch (people.get(person).kind) {
            case 0 -> List.of(0, 1);
            case 1 -> List.of(0, 1, 2);
            case 2 -> List.of(0, 1, 3);
            case 3 -> List.of(0, 4);
            default -> List.of(0, 4, 5);
        };
        return such.contains(kind) ? load(person, 0) : NOT;
    }

    int pair(int a, int b) {
        if (!isOne(a) || !isOne(b) || a == b) {
            return UNKNOWN;
        }
        if (pairs.size() == 12) {
            return FULL;
        }
        pairs.add(new int[] {a, b});
        return pairs.size();
    }

    int unpair() {
        int had = pairs.size();
        pairs.clear();
        return had;
    }

    // ---- what is done

    private Was was() {
        List<List<Integer>> griefs = new ArrayList<>();
        for (One one : people) {
            griefs.add(new ArrayList<>(one.griefs));
        }
        return new Was(lent, griefs);
    }

    private void become(Was was) {
        lent = was.lent();
        for (int one = 0; one < people.size(); one++) {
            people.get(one).griefs = new ArrayList<>(was.griefs().get(one));
        }
    }

    private void remember() {
        undos.add(was());
        if (undos.size() > 8) {
            undos.remove(0);
        }
    }

    int lent(int n) {
        if (n < 1 || n > 12) {
            return OUTSIDE;
        }
        if (lent + n > 999) {
            return FULL;
        }
        remember();
        for (One one : people) {
            one.griefs = faded(one.kind, one.griefs, n);
        }
        lent += n;
        return lent;
    }

    int grieve(int person, int weight) {
        if (!isOne(person)) {
            return UNKNOWN;
        }
        if (weight < 1 || weight > 99) {
            return OUTSIDE;
        }
        if (people.get(person).griefs.size() == 3) {
            return FULL;
        }
        remember();
        people.get(person).griefs.add(weight);
        return load(person, 0);
    }

    int comfort(int person) {
        if (!isOne(person)) {
            return UNKNOWN;
        }
        List<Integer> griefs = people.get(person).griefs;
        if (griefs.isEmpty()) {
            return NOT;
        }
        remember();
        int greatest = griefs.stream().mapToInt(Integer::intValue).max().orElse(0);
        griefs.remove(griefs.indexOf(greatest));
        return greatest;
    }

    int undo() {
        if (undos.isEmpty()) {
            return NOT;
        }
        become(undos.remove(undos.size() - 1));
        return undos.size();
    }

    int keep(int k) {
        if (k != 0 && k != 1) {
            return UNKNOWN;
        }
        kept[k] = was();
        return lent;
    }

    int back(int k) {
        if (k != 0 && k != 1) {
            return UNKNOWN;
        }
        if (kept[k] == null) {
            return NOT;
        }
        become(kept[k]);
        undos.clear();
        return lent;
    }

    // ---- foretold

    private static int step(int load) {
        return load >= 90 ? 9 : load / 10;
    }

    int behind(int person, int n, int what) {
        if (!isOne(person)) {
            return UNKNOWN;
        }
        if (n < 0 || n > 60 || what < 0 || what > 1) {
            return OUTSIDE;
        }
        return what == 0 ? load(person, n) : step(load(person, n));
    }

    int enters(int k, int n) {
        if (k < 0 || k > 6 || n < 0 || n > 60) {
            return OUTSIDE;
        }
        List<Integer> order = order(n);
        return k < order.size() ? order.get(k) : NONE;
    }

    private static boolean isAhead(List<Integer> order, int one, int other) {
        return order.contains(one) && (!order.contains(other) || order.indexOf(one) < order.indexOf(other));
    }

    int ahead(int person, int other) {
        if (!isOne(person) || !isOne(other) || person == other) {
            return UNKNOWN;
        }
        for (int n = 0; n <= 60; n++) {
            if (isAhead(order(n), person, other)) {
                return n;
            }
        }
        return NONE;
    }

    private int broken(List<Integer> order) {
        int broken = 0;
        for (int[] pair : pairs) {
            broken += isAhead(order, pair[0], pair[1]) ? 0 : 1;
        }
        return broken;
    }

    int wrong() {
        return broken(order(0));
    }

    private static List<List<Integer>> allOrders(int many) {
        List<List<Integer>> orders = new ArrayList<>();
        extend(new ArrayList<>(), many, orders);
        return orders;
    }

    private static void extend(List<Integer> begun, int many, List<List<Integer>> orders) {
        if (begun.size() == many) {
            orders.add(new ArrayList<>(begun));
        }
        for (int one = 0; one < many; one++) {
            if (!begun.contains(one)) {
                begun.add(one);
                extend(begun, many, orders);
                begun.remove(begun.size() - 1);
            }
        }
    }

    int ranked(int k) {
        if (k < -1 || k > 6) {
            return OUTSIDE;
        }
        List<Integer> best = null;
        for (List<Integer> order : allOrders(people.size())) {
            if (best == null || broken(order) < broken(best)) {
                best = order;
            }
        }
        return k == NONE ? broken(best) : k < best.size() ? best.get(k) : NONE;
    }

    private List<List<Integer>> unbroken() {
        List<List<Integer>> orders = allOrders(people.size());
        orders.removeIf(order -> broken(order) > 0);
        return orders;
    }

    int lines() {
        return unbroken().size();
    }

    int next() {
        List<List<Integer>> orders = unbroken();
        int best = NONE;
        int bestPart = Integer.MAX_VALUE;
        for (int a = 0; a < people.size(); a++) {
            for (int b = a + 1; b < people.size(); b++) {
                int yes = 0;
                for (List<Integer> order : orders) {
                    yes += isAhead(order, a, b) ? 1 : 0;
                }
                int no = orders.size() - yes;
                if (yes > 0 && no > 0 && Math.max(yes, no) < bestPart) {
                    best = 10 * a + b;
                    bestPart = Math.max(yes, no);
                }
            }
        }
        return best;
    }

    int rooms(int c, int person) {
        if (person != NONE && !isOne(person)) {
            return UNKNOWN;
        }
        if (c < 1 || c > 400) {
            return OUTSIDE;
        }
        int many = people.size();
        for (int rooms = 0; rooms <= many; rooms++) {
            int[] at = new int[many];
            for (boolean more = rooms > 0 || many == 0; more; more = advance(at, rooms)) {
                if (fits(at, c)) {
                    return person == NONE ? rooms : at[person];
                }
            }
        }
        return NONE;
    }

    /** The next way in the order of the first ones first. */
    private static boolean advance(int[] at, int rooms) {
        for (int one = at.length - 1; one >= 0; one--) {
            at[one]++;
            if (at[one] < rooms) {
                return true;
            }
            at[one] = 0;
        }
        return false;
    }

    private boolean fits(int[] at, int c) {
        int[] filled = new int[7];
        for (int one = 0; one < at.length; one++) {
            filled[at[one]] += load(people.get(one).kind, people.get(one).griefs);
        }
        return Arrays.stream(filled).max().orElse(0) <= c;
    }

    int misread(int a, int b, int q, int part) {
        if (!isOne(a) || !isOne(b) || a == b) {
            return UNKNOWN;
        }
        if (q < 0 || q > 10 || part < 0 || part > 1) {
            return OUTSIDE;
        }
        int above = 0;
        for (int i = 0; i < 20; i++) {
            for (int j = 0; j < 20; j++) {
                above += read(step(load(a, 0)), i, q) > read(step(load(b, 0)), j, q) ? 1 : 0;
            }
        }
        int below = 400;
        for (int by = 400; by > 1; by--) {
            if (above % by == 0 && below % by == 0) {
                above /= by;
                below /= by;
            }
        }
        return part == 0 ? above : below;
    }

    private static int read(int step, int ofTwenty, int q) {
        return ofTwenty < q ? step - 1 : ofTwenty < 2 * q ? step + 1 : step;
    }

    // ---- what was seen

    int seen(int person, int n, int s) {
        if (!isOne(person)) {
            return UNKNOWN;
        }
        if (n < 0 || n > 12 || s < 0 || s > 9) {
            return OUTSIDE;
        }
        if (sights.size() == 6) {
            return FULL;
        }
        sights.add(new int[] {person, n, s});
        return sights.size();
    }

    int forget() {
        int had = sights.size();
        sights.clear();
        return had;
    }

    int kinds(int person, int what) {
        if (!isOne(person)) {
            return UNKNOWN;
        }
        if (what < 0 || what > 1) {
            return OUTSIDE;
        }
        int bits = 0;
        int likeliest = NONE;
        int most = -1;
        for (int kind = 0; kind < 5; kind++) {
            int so = 0;
            int not = 0;
            for (int[] sight : sights) {
                if (sight[0] == person) {
                    int step = step(load(kind, faded(kind, people.get(person).griefs, sight[1])));
                    so += step == sight[2] ? 1 : 0;
                    not += step == sight[2] ? 0 : 1;
                }
            }
            bits += not == 0 ? 1 << kind : 0;
            likeliest = so > most ? kind : likeliest;
            most = Math.max(most, so);
        }
        return what == 0 ? bits : likeliest;
    }

    // ---- drawers

    private static boolean isDrawer(int drawer) {
        return drawer >= 0 && drawer < 4;
    }

    int drawer(int drawer, int n) {
        if (!isDrawer(drawer)) {
            return UNKNOWN;
        }
        if (n > 10) {
            return OUTSIDE;
        }
        if (n < 0) {
            return SIZE;
        }
        drawers[drawer] = new Thing[n];
        return n;
    }

    int put(int drawer, int i, int what, int v) {
        if (!isDrawer(drawer) || what == 2 && !isOne(v)) {
            return UNKNOWN;
        }
        if (what < 0 || what > 3 || what == 0 && Math.abs((long) v) > 9999 || what == 1 && (v < 0 || v > 17575)) {
            return OUTSIDE;
        }
        if (drawers[drawer] == null) {
            return NULL;
        }
        if (i < 0 || i >= drawers[drawer].length) {
            return INDEX;
        }
        drawers[drawer][i] = what == 3 ? null : new Thing(what, v);
        return 1;
    }

    int take(int drawer, int i, int what) {
        if (!isDrawer(drawer)) {
            return UNKNOWN;
        }
        if (what < 0 || what > 2) {
            return OUTSIDE;
        }
        if (drawers[drawer] == null) {
            return NULL;
        }
        if (i < 0 || i >= drawers[drawer].length) {
            return INDEX;
        }
        Thing thing = drawers[drawer][i];
        if (thing == null) {
            return EMPTY;
        }
        if (thing.sort() != what) {
            return CAST;
        }
        return what == 0 ? thing.value() + 50000 : thing.value();
    }

    int tidy(int drawer) {
        if (!isDrawer(drawer)) {
            return UNKNOWN;
        }
        Thing[] row = drawers[drawer];
        if (row == null) {
            return NULL;
        }
        List<Thing> things = new ArrayList<>(Arrays.asList(row));
        if (things.contains(null)) {
            return EMPTY;
        }
        if (things.stream().map(Thing::sort).distinct().count() > 1) {
            return CAST;
        }
        List<Integer> order = order(0);
        things.sort((a, b) -> {
            int first = order.contains(a.value()) ? order.indexOf(a.value()) : 100 + a.value();
            int second = order.contains(b.value()) ? order.indexOf(b.value()) : 100 + b.value();
            return a.sort() == 2 ? first - second : a.value() - b.value();
        });
        drawers[drawer] = things.toArray(new Thing[0]);
        return row.length;
    }

    int copy(int from, int i, int to, int j, int n) {
        if (!isDrawer(from) || !isDrawer(to)) {
            return UNKNOWN;
        }
        if (drawers[from] == null || drawers[to] == null) {
            return NULL;
        }
        if (i < 0 || j < 0 || n < 0 || (long) i + n > drawers[from].length || (long) j + n > drawers[to].length) {
            return INDEX;
        }
        Thing[] taken = Arrays.copyOfRange(drawers[from], i, i + n);
        for (int k = 0; k < n; k++) {
            drawers[to][j + k] = taken[k];
        }
        return n;
    }

    int drop(int drawer) {
        if (!isDrawer(drawer)) {
            return UNKNOWN;
        }
        if (drawers[drawer] == null) {
            return NULL;
        }
        int had = 0;
        for (Thing thing : drawers[drawer]) {
            had += thing == null ? 0 : 1;
        }
        drawers[drawer] = null;
        return had;
    }

    int count(int what) {
        int loads = 0;
        int griefs = 0;
        int there = 0;
        for (int one = 0; one < people.size(); one++) {
            loads += load(one, 0);
            griefs += people.get(one).griefs.size();
        }
        for (Thing[] drawer : drawers) {
            there += drawer == null ? 0 : 1;
        }
        int[] all = {
            people.size(), pairs.size(), lent, order(0).size(), loads, griefs, sights.size(), there, undos.size(), text.length()
        };
        return what < 0 || what > 9 ? OUTSIDE : all[what];
    }
}
