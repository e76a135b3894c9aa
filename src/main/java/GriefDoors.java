/**
 * A house whose rooms are gone into in order of grief. What each call promises stands in
 * shared/DOC.md under its name; words in capitals there are words in capitals here.
 */
public final class GriefDoors {
    public static final int NONE = -1, UNKNOWN = -2, OUTSIDE = -3, NOT = -4, FULL = -5, NULL = -11, INDEX = -12, EMPTY = -13, CAST = -14, SIZE = -15;

    private static final int MOST_PEOPLE = 7;
    private static final int MOST_GRIEFS = 3;
    private static final int MOST_WEIGHT = 99;
    private static final int MOST_PAIRS = 12;
    private static final int MOST_LETTERS = 200;
    private static final int LAST_LETTER = 255;
    private static final int MOST_CLAUSES = 20;
    private static final int LENTS_AT_ONCE = 12;
    private static final int LAST_LENT = 999;
    private static final int LENTS_FORETOLD = 60;
    private static final int MOST_UNDONE = 8;
    private static final int KEEPINGS = 2;
    private static final int MOST_IN_ROOM = 400;
    private static final int MOST_SEEN = 6;
    private static final int LENTS_SEEN = 12;
    private static final int GREATEST_STEP = 9;
    private static final int READINGS = 20;
    private static final int MOST_MISREAD = 10;
    private static final int DRAWERS = 4;
    private static final int MOST_PLACES = 10;
    private static final int GREATEST_NUMBER = 9999;
    private static final int NUMBER_TOLD_WITH = 50000;
    private static final int LAST_WORD = 17575;

    private static final int GUEST = 0;
    private static final int WIDOW = 1;
    private static final int GENERAL = 2;
    private static final int CHILD = 3;
    private static final int SAINT = 4;
    private static final int KIND_COUNT = 5;
    private static final int[] FADES = {3, 1, 3, 6, 0};

    /** KINDS as they are over one another, PERSON at the root: the one that is over each. */
    private static final int ROOT = 0;
    private static final int[] OVER = {-1, 0, 1, 1, 0, 4};

    private static final int HOUSE_WORD = 5;
    private static final int PAIR_WORD = 6;
    private static final int WORD_COUNT = 7;

    private static final int A_NUMBER = 0;
    private static final int A_WORD = 1;
    private static final int A_PERSON = 2;
    private static final int NOTHING = 3;

    private final Text text = new Text();
    private final People people = new People();
    private final Pairs pairs = new Pairs();
    /** PAIRS of texts alone, apart from what pair() and unpair() make of them, since what texts told stays as told. */
    private final Pairs pairsTold = new Pairs();
    private final Undos undos = new Undos();
    private final Griefs[] keepings = {new Griefs(), new Griefs()};
    private final boolean[] isKept = new boolean[KEEPINGS];
    private final Sights sights = new Sights();
    private final Orders orders = new Orders();
    private final Lodging lodging = new Lodging();
    private final Drawer[] drawers = {new Drawer(), new Drawer(), new Drawer(), new Drawer()};

    public GriefDoors() {
    }

    // ---- what is told

    public int write(int letter) {
        if (!isWithin(letter, 0, LAST_LETTER)) {
            return OUTSIDE;
        }
        if (text.length >= MOST_LETTERS) {
            return FULL;
        }
        text.append(letter);
        return text.length;
    }

    public int erase() {
        int had = text.length;
        text.length = 0;
        return had;
    }

    public int fault() {
        return text.read(people.many, pairsTold.many);
    }

    public int house() {
        if (text.read(people.many, pairsTold.many) != NONE) {
            return NOT;
        }
        for (int clause = 0; clause < text.clauses; clause++) {
            doClause(clause);
        }
        beginAsTold();
        return text.clauses;
    }

    public int person(int person, int what) {
        if (!people.has(person)) {
            return UNKNOWN;
        }
        switch (what) {
            case 0:
                return people.kindOf[person];
            case 1:
                return people.load(person, 0);
            case 2:
                return people.now.many[person];
            case 3:
                return FADES[people.kindOf[person]];
            case 4:
                return people.placeOf(person, 0);
            default:
                return OUTSIDE;
        }
    }

    public int grief(int person, int k) {
        if (!people.has(person)) {
            return UNKNOWN;
        }
        if (!isWithin(k, 0, MOST_GRIEFS - 1)) {
            return OUTSIDE;
        }
        return k < people.now.many[person] ? people.now.weight(person, k) : NONE;
    }

    public int as(int person, int kind) {
        if (!people.has(person)) {
            return UNKNOWN;
        }
        if (!isWithin(kind, 0, OVER.length - 1)) {
            return OUTSIDE;
        }
        return isSuch(people.kindOf[person], kind) ? people.load(person, 0) : NOT;
    }

    public int pair(int a, int b) {
        if (!areTwo(a, b)) {
            return UNKNOWN;
        }
        if (pairs.many >= MOST_PAIRS) {
            return FULL;
        }
        pairs.append(a, b);
        return pairs.many;
    }

    public int unpair() {
        int had = pairs.many;
        pairs.many = 0;
        return had;
    }

    // ---- what is done

    public int lent(int n) {
        if (!isWithin(n, 1, LENTS_AT_ONCE)) {
            return OUTSIDE;
        }
        if (people.now.lent + n > LAST_LENT) {
            return FULL;
        }
        undos.remember(people.now);
        people.passLents(n);
        return people.now.lent;
    }

    public int grieve(int person, int weight) {
        if (!people.has(person)) {
            return UNKNOWN;
        }
        if (!isWithin(weight, 1, MOST_WEIGHT)) {
            return OUTSIDE;
        }
        if (people.now.many[person] >= MOST_GRIEFS) {
            return FULL;
        }
        undos.remember(people.now);
        people.now.append(person, weight);
        return people.load(person, 0);
    }

    public int comfort(int person) {
        if (!people.has(person)) {
            return UNKNOWN;
        }
        if (people.now.many[person] < 1) {
            return NOT;
        }
        undos.remember(people.now);
        return people.now.removeGreatest(person);
    }

    public int undo() {
        if (undos.many < 1) {
            return NOT;
        }
        undos.restore(people.now);
        return undos.many;
    }

    public int keep(int k) {
        if (!isWithin(k, 0, KEEPINGS - 1)) {
            return UNKNOWN;
        }
        keepings[k].become(people.now);
        isKept[k] = true;
        return people.now.lent;
    }

    public int back(int k) {
        if (!isWithin(k, 0, KEEPINGS - 1)) {
            return UNKNOWN;
        }
        if (!isKept[k]) {
            return NOT;
        }
        people.now.become(keepings[k]);
        undos.many = 0;
        return people.now.lent;
    }

    // ---- foretold

    public int behind(int person, int n, int what) {
        if (!people.has(person)) {
            return UNKNOWN;
        }
        if (!isWithin(n, 0, LENTS_FORETOLD) || !isWithin(what, 0, 1)) {
            return OUTSIDE;
        }
        int load = people.load(person, n);
        return what == 0 ? load : stepOf(load);
    }

    public int enters(int k, int n) {
        if (!isWithin(k, 0, MOST_PEOPLE - 1) || !isWithin(n, 0, LENTS_FORETOLD)) {
            return OUTSIDE;
        }
        for (int one = 0; one < people.many; one++) {
            if (people.placeOf(one, n) == k) {
                return one;
            }
        }
        return NONE;
    }

    public int ahead(int person, int other) {
        if (!areTwo(person, other)) {
            return UNKNOWN;
        }
        for (int n = 0; n <= LENTS_FORETOLD; n++) {
            if (people.isAhead(person, other, n)) {
                return n;
            }
        }
        return NONE;
    }

    public int wrong() {
        int wrongs = 0;
        for (int k = 0; k < pairs.many; k++) {
            if (!people.isAhead(pairs.first[k], pairs.second[k], 0)) {
                wrongs++;
            }
        }
        return wrongs;
    }

    public int ranked(int k) {
        if (!isWithin(k, NONE, MOST_PEOPLE - 1)) {
            return OUTSIDE;
        }
        orders.learn(people.many, pairs);
        int broken = orders.rank();
        if (k == NONE) {
            return broken;
        }
        return k < people.many ? orders.ranking[k] : NONE;
    }

    public int lines() {
        orders.learn(people.many, pairs);
        return orders.countUnbroken();
    }

    public int next() {
        orders.learn(people.many, pairs);
        return orders.bestQuestion();
    }

    public int rooms(int c, int person) {
        if (person != NONE && !people.has(person)) {
            return UNKNOWN;
        }
        if (!isWithin(c, 1, MOST_IN_ROOM)) {
            return OUTSIDE;
        }
        int needed = lodging.settle(people, c);
        if (needed == NONE || person == NONE) {
            return needed;
        }
        return lodging.roomOf[person];
    }

    public int misread(int a, int b, int q, int part) {
        if (!areTwo(a, b)) {
            return UNKNOWN;
        }
        if (!isWithin(q, 0, MOST_MISREAD) || !isWithin(part, 0, 1)) {
            return OUTSIDE;
        }
        int over = stepOf(people.load(a, 0)) - stepOf(people.load(b, 0));
        int above = readingsAsGreater(over, q);
        int below = READINGS * READINGS;
        int common = commonDivisor(below, above);
        return (part == 0 ? above : below) / common;
    }

    // ---- what was seen

    public int seen(int person, int n, int s) {
        if (!people.has(person)) {
            return UNKNOWN;
        }
        if (!isWithin(n, 0, LENTS_SEEN) || !isWithin(s, 0, GREATEST_STEP)) {
            return OUTSIDE;
        }
        if (sights.many >= MOST_SEEN) {
            return FULL;
        }
        sights.append(person, n, s);
        return sights.many;
    }

    public int forget() {
        int had = sights.many;
        sights.many = 0;
        return had;
    }

    public int kinds(int person, int what) {
        if (!people.has(person)) {
            return UNKNOWN;
        }
        if (!isWithin(what, 0, 1)) {
            return OUTSIDE;
        }
        return what == 0 ? sights.possibleKinds(person, people.now) : sights.likeliestKind(person, people.now);
    }

    // ---- drawers

    public int drawer(int drawer, int n) {
        if (!isDrawer(drawer)) {
            return UNKNOWN;
        }
        if (n > MOST_PLACES) {
            return OUTSIDE;
        }
        if (n < 0) {
            return SIZE;
        }
        drawers[drawer].renew(n);
        return n;
    }

    public int put(int drawer, int i, int what, int v) {
        if (!isDrawer(drawer) || (what == A_PERSON && !people.has(v))) {
            return UNKNOWN;
        }
        if (!canBePut(what, v)) {
            return OUTSIDE;
        }
        Drawer into = drawers[drawer];
        if (!into.isThere) {
            return NULL;
        }
        if (!into.hasPlace(i)) {
            return INDEX;
        }
        into.sorts[i] = what;
        into.values[i] = v;
        return 1;
    }

    public int take(int drawer, int i, int what) {
        if (!isDrawer(drawer)) {
            return UNKNOWN;
        }
        if (!isWithin(what, A_NUMBER, A_PERSON)) {
            return OUTSIDE;
        }
        Drawer from = drawers[drawer];
        if (!from.isThere) {
            return NULL;
        }
        if (!from.hasPlace(i)) {
            return INDEX;
        }
        if (from.sorts[i] == NOTHING) {
            return EMPTY;
        }
        if (from.sorts[i] != what) {
            return CAST;
        }
        return what == A_NUMBER ? from.values[i] + NUMBER_TOLD_WITH : from.values[i];
    }

    public int tidy(int drawer) {
        if (!isDrawer(drawer)) {
            return UNKNOWN;
        }
        Drawer one = drawers[drawer];
        if (!one.isThere) {
            return NULL;
        }
        if (one.howManyThings() < one.places) {
            return EMPTY;
        }
        if (!one.isOfLikeThings()) {
            return CAST;
        }
        one.sort(people);
        return one.places;
    }

    public int copy(int from, int i, int to, int j, int n) {
        if (!isDrawer(from) || !isDrawer(to)) {
            return UNKNOWN;
        }
        Drawer source = drawers[from];
        Drawer target = drawers[to];
        if (!source.isThere || !target.isThere) {
            return NULL;
        }
        if (!source.hasPlaces(i, n) || !target.hasPlaces(j, n)) {
            return INDEX;
        }
        System.arraycopy(source.sorts, i, target.sorts, j, n);
        System.arraycopy(source.values, i, target.values, j, n);
        return n;
    }

    public int drop(int drawer) {
        if (!isDrawer(drawer)) {
            return UNKNOWN;
        }
        Drawer one = drawers[drawer];
        if (!one.isThere) {
            return NULL;
        }
        int had = one.howManyThings();
        one.isThere = false;
        return had;
    }

    public int count(int what) {
        switch (what) {
            case 0:
                return people.many;
            case 1:
                return pairs.many;
            case 2:
                return people.now.lent;
            case 3:
                return people.howManyGoIn();
            case 4:
                return people.allLoads();
            case 5:
                return people.allGriefs();
            case 6:
                return sights.many;
            case 7:
                return drawersThere();
            case 8:
                return undos.many;
            case 9:
                return text.length;
            default:
                return OUTSIDE;
        }
    }

    // ---- of the house itself

    private void doClause(int clause) {
        int word = text.words[clause];
        int at = clause * MOST_GRIEFS;
        if (word == HOUSE_WORD) {
            people.many = 0;
            pairsTold.many = 0;
        } else if (word == PAIR_WORD) {
            pairsTold.append(text.numbers[at], text.numbers[at + 1]);
        } else {
            people.tell(word, text.numbers, at, text.counts[clause]);
        }
    }

    private void beginAsTold() {
        people.now.become(people.told);
        pairs.become(pairsTold);
        undos.many = 0;
        sights.many = 0;
        for (int k = 0; k < KEEPINGS; k++) {
            isKept[k] = false;
        }
        for (int k = 0; k < DRAWERS; k++) {
            drawers[k].isThere = false;
        }
        text.length = 0;
    }

    private boolean areTwo(int a, int b) {
        return people.has(a) && people.has(b) && a != b;
    }

    private int drawersThere() {
        int there = 0;
        for (int k = 0; k < DRAWERS; k++) {
            if (drawers[k].isThere) {
                there++;
            }
        }
        return there;
    }

    // ---- small rules

    private static boolean isWithin(int number, int least, int most) {
        return number >= least && number <= most;
    }

    private static boolean isDrawer(int drawer) {
        return isWithin(drawer, 0, DRAWERS - 1);
    }

    private static boolean canBePut(int what, int v) {
        switch (what) {
            case A_NUMBER:
                return isWithin(v, -GREATEST_NUMBER, GREATEST_NUMBER);
            case A_WORD:
                return isWithin(v, 0, LAST_WORD);
            default:
                return what == A_PERSON || what == NOTHING;
        }
    }

    /** In the row of KINDS over one another PERSON comes first, so a KIND's own number is one more there. */
    private static boolean isSuch(int kind, int asked) {
        int one = kind + 1;
        for (int k = 0; k < OVER.length; k++) {
            if (one == asked) {
                return true;
            }
            if (one <= ROOT || one >= OVER.length) {
                return false;
            }
            one = OVER[one];
        }
        return false;
    }

    private static int stepOf(int load) {
        return Math.min(load / 10, GREATEST_STEP);
    }

    /** Of 400 pairs of readings, how many take the first STEP, which is by so much over the other, for the greater. */
    private static int readingsAsGreater(int over, int q) {
        int greater = 0;
        for (int first = -1; first <= 1; first++) {
            for (int second = -1; second <= 1; second++) {
                if (over + first > second) {
                    greater += readingsOff(first, q) * readingsOff(second, q);
                }
            }
        }
        return greater;
    }

    private static int readingsOff(int by, int q) {
        return by == 0 ? READINGS - 2 * q : q;
    }

    private static int commonDivisor(int a, int b) {
        int greater = a;
        int lesser = b;
        for (int k = 0; k < READINGS * READINGS && lesser > 0; k++) {
            int rest = greater % lesser;
            greater = lesser;
            lesser = rest;
        }
        return Math.max(greater, 1);
    }

    /** THE TEXT, and the CLAUSES that its latest reading found. */
    static final class Text {
        private static final int SMALL_LETTER = 0;
        private static final int DIGIT = 1;
        private static final int OTHER = 2;
        private static final int END = 3;

        final int[] letters = new int[MOST_LETTERS];
        int length = 0;
        int clauses = 0;
        final int[] words = new int[MOST_CLAUSES];
        final int[] counts = new int[MOST_CLAUSES];
        final int[] numbers = new int[MOST_CLAUSES * MOST_GRIEFS];
        int peopleTold = 0;
        int pairsTold = 0;
        int tokenStart = 0;
        int tokenEnd = 0;
        int tokenSort = END;

        void append(int letter) {
            if (length < MOST_LETTERS) {
                letters[length] = letter;
                length++;
            }
        }

        /** The place of the FAULT; NONE. */
        int read(int peopleThere, int pairsThere) {
            peopleTold = peopleThere;
            pairsTold = pairsThere;
            clauses = 0;
            tokenEnd = 0;
            while (clauses < MOST_CLAUSES) {
                goOn();
                if (!readClause(clauses)) {
                    return tokenStart;
                }
                clauses++;
                if (tokenStart >= length) {
                    return NONE;
                }
                if (letters[tokenStart] != ';') {
                    return tokenStart;
                }
            }
            // behind the last CLAUSE that there can be no ; can stand
            return tokenStart;
        }

        /** Reads a CLAUSE from its word to the TOKEN behind it; where it can't, the TOKEN is the FAULT. */
        private boolean readClause(int clause) {
            int word = wordHere();
            words[clause] = word;
            counts[clause] = 0;
            if (word == NONE) {
                return false;
            }
            if (word == HOUSE_WORD) {
                return readHouse();
            }
            return word == PAIR_WORD ? readTwo(clause) : readOne(clause);
        }

        private boolean readHouse() {
            peopleTold = 0;
            pairsTold = 0;
            goOn();
            return true;
        }

        private boolean readOne(int clause) {
            if (peopleTold >= MOST_PEOPLE) {
                return false;
            }
            goOn();
            while (counts[clause] < MOST_GRIEFS && tokenSort == DIGIT) {
                int weight = numberHere();
                if (!isWithin(weight, 1, MOST_WEIGHT)) {
                    return false;
                }
                addNumber(clause, weight);
                goOn();
            }
            peopleTold++;
            return true;
        }

        private boolean readTwo(int clause) {
            if (pairsTold >= MOST_PAIRS) {
                return false;
            }
            goOn();
            int a = numberHere();
            if (!isWithin(a, 0, peopleTold - 1)) {
                return false;
            }
            addNumber(clause, a);
            goOn();
            int b = numberHere();
            if (!isWithin(b, 0, peopleTold - 1) || b == a) {
                return false;
            }
            addNumber(clause, b);
            goOn();
            pairsTold++;
            return true;
        }

        private void addNumber(int clause, int number) {
            if (counts[clause] < MOST_GRIEFS) {
                numbers[clause * MOST_GRIEFS + counts[clause]] = number;
                counts[clause]++;
            }
        }

        /** To the TOKEN that comes next, or to the end. */
        private void goOn() {
            tokenStart = tokenEnd;
            while (tokenStart < length && letters[tokenStart] == ' ') {
                tokenStart++;
            }
            tokenEnd = tokenStart;
            tokenSort = END;
            if (tokenStart >= length) {
                return;
            }
            tokenSort = sortOf(letters[tokenStart]);
            tokenEnd++;
            while (tokenSort != OTHER && tokenEnd < length && sortOf(letters[tokenEnd]) == tokenSort) {
                tokenEnd++;
            }
        }

        private static int sortOf(int letter) {
            if (letter >= 'a' && letter <= 'z') {
                return SMALL_LETTER;
            }
            return letter >= '0' && letter <= '9' ? DIGIT : OTHER;
        }

        /** The number of one or two digits; NONE. */
        private int numberHere() {
            if (tokenSort != DIGIT || tokenEnd - tokenStart > 2) {
                return NONE;
            }
            int number = 0;
            for (int k = tokenStart; k < tokenEnd; k++) {
                number = number * 10 + letters[k] - '0';
            }
            return number;
        }

        /** The number of the word, a KIND's word by its KIND; NONE. */
        private int wordHere() {
            for (int word = 0; word < WORD_COUNT; word++) {
                if (isSpelledHere(spelling(word))) {
                    return word;
                }
            }
            return NONE;
        }

        private boolean isSpelledHere(String word) {
            if (tokenEnd - tokenStart != word.length()) {
                return false;
            }
            for (int k = 0; k < word.length(); k++) {
                if (letters[tokenStart + k] != word.charAt(k)) {
                    return false;
                }
            }
            return true;
        }

        private static String spelling(int word) {
            switch (word) {
                case GUEST:
                    return "guest";
                case WIDOW:
                    return "widow";
                case GENERAL:
                    return "general";
                case CHILD:
                    return "child";
                case SAINT:
                    return "saint";
                case HOUSE_WORD:
                    return "house";
                default:
                    return "pair";
            }
        }
    }

    /** The GRIEFS of all PEOPLE, and the LENT: all that can be undone, kept, or be as it was told. */
    static final class Griefs {
        int lent = 0;
        final int[] many = new int[MOST_PEOPLE];
        final int[] weights = new int[MOST_PEOPLE * MOST_GRIEFS];

        void become(Griefs other) {
            lent = other.lent;
            System.arraycopy(other.many, 0, many, 0, MOST_PEOPLE);
            System.arraycopy(other.weights, 0, weights, 0, MOST_PEOPLE * MOST_GRIEFS);
        }

        int weight(int person, int k) {
            return weights[person * MOST_GRIEFS + k];
        }

        void append(int person, int weight) {
            if (many[person] < MOST_GRIEFS) {
                weights[person * MOST_GRIEFS + many[person]] = weight;
                many[person]++;
            }
        }

        int removeGreatest(int person) {
            int greatest = 0;
            for (int k = 1; k < many[person]; k++) {
                if (weight(person, k) > weight(person, greatest)) {
                    greatest = k;
                }
            }
            int gone = weight(person, greatest);
            for (int k = greatest + 1; k < many[person]; k++) {
                weights[person * MOST_GRIEFS + k - 1] = weight(person, k);
            }
            many[person] = Math.max(many[person] - 1, 0);
            return gone;
        }

        void fade(int person, int by) {
            int had = many[person];
            many[person] = 0;
            for (int k = 0; k < had; k++) {
                int left = weight(person, k) - by;
                if (left > 0) {
                    append(person, left);
                }
            }
        }

        /** LOAD as one of this KIND behind so many LENTS: each GRIEF fades by itself, so all LENTS go off at once. */
        int loadAs(int person, int kind, int lents) {
            int sum = 0;
            int greatest = 0;
            int lasting = 0;
            for (int k = 0; k < many[person]; k++) {
                int left = weight(person, k) - lents * FADES[kind];
                if (left > 0) {
                    sum += left;
                    greatest = Math.max(greatest, left);
                    lasting++;
                }
            }
            switch (kind) {
                case WIDOW:
                    return sum + greatest;
                case GENERAL:
                    return lasting >= 2 ? sum + 5 : sum;
                case CHILD:
                    return greatest;
                case SAINT:
                    return greatest / 2;
                default:
                    return sum;
            }
        }
    }

    /** PEOPLE by KIND, with their GRIEFS as they are now and as they were told, and THE ORDER. */
    static final class People {
        int many = 0;
        final int[] kindOf = new int[MOST_PEOPLE];
        final Griefs now = new Griefs();
        final Griefs told = new Griefs();

        boolean has(int person) {
            return person >= 0 && person < many;
        }

        void tell(int kind, int[] weights, int from, int griefs) {
            if (many >= MOST_PEOPLE) {
                return;
            }
            kindOf[many] = kind;
            told.many[many] = 0;
            for (int k = 0; k < griefs; k++) {
                told.append(many, weights[from + k]);
            }
            many++;
        }

        void passLents(int n) {
            for (int one = 0; one < many; one++) {
                now.fade(one, n * FADES[kindOf[one]]);
            }
            now.lent += n;
        }

        int load(int person, int lents) {
            return now.loadAs(person, kindOf[person], lents);
        }

        /** Whether one goes in, and the other behind it or not at all. */
        boolean isAhead(int one, int other, int lents) {
            int load = load(one, lents);
            int otherLoad = load(other, lents);
            return load > 0 && (load > otherLoad || (load == otherLoad && one < other));
        }

        int placeOf(int person, int lents) {
            if (load(person, lents) < 1) {
                return NONE;
            }
            int place = 0;
            for (int other = 0; other < many; other++) {
                if (other != person && isAhead(other, person, lents)) {
                    place++;
                }
            }
            return place;
        }

        int howManyGoIn() {
            int going = 0;
            for (int one = 0; one < many; one++) {
                if (load(one, 0) > 0) {
                    going++;
                }
            }
            return going;
        }

        int allLoads() {
            int loads = 0;
            for (int one = 0; one < many; one++) {
                loads += load(one, 0);
            }
            return loads;
        }

        int allGriefs() {
            int griefs = 0;
            for (int one = 0; one < many; one++) {
                griefs += now.many[one];
            }
            return griefs;
        }
    }

    /** PAIRS: of each the one that goes ahead, and the other. */
    static final class Pairs {
        int many = 0;
        final int[] first = new int[MOST_PAIRS];
        final int[] second = new int[MOST_PAIRS];

        void become(Pairs other) {
            many = other.many;
            System.arraycopy(other.first, 0, first, 0, MOST_PAIRS);
            System.arraycopy(other.second, 0, second, 0, MOST_PAIRS);
        }

        void append(int a, int b) {
            if (many < MOST_PAIRS) {
                first[many] = a;
                second[many] = b;
                many++;
            }
        }
    }

    /** What there was ahead of the latest things done, in a ring, so that the oldest gives way. */
    static final class Undos {
        int many = 0;
        int latest = 0;
        final Griefs[] past = {
            new Griefs(), new Griefs(), new Griefs(), new Griefs(),
            new Griefs(), new Griefs(), new Griefs(), new Griefs()
        };

        void remember(Griefs griefs) {
            latest = (latest + 1) % MOST_UNDONE;
            past[latest].become(griefs);
            many = Math.min(many + 1, MOST_UNDONE);
        }

        void restore(Griefs griefs) {
            griefs.become(past[latest]);
            latest = (latest + MOST_UNDONE - 1) % MOST_UNDONE;
            many = Math.max(many - 1, 0);
        }
    }

    /** Orders of all PEOPLE, by PAIRS alone. A set of PEOPLE is a number, a bit each. */
    static final class Orders {
        private static final int SETS = 1 << MOST_PEOPLE;

        int people = 0;
        final int[] told = new int[MOST_PEOPLE * MOST_PEOPLE];
        final int[] aheadOf = new int[MOST_PEOPLE];
        final int[] leastBroken = new int[SETS];
        final int[] unbroken = new int[SETS];
        final int[] ranking = new int[MOST_PEOPLE];

        void learn(int howMany, Pairs pairs) {
            people = Math.min(howMany, MOST_PEOPLE);
            for (int k = 0; k < told.length; k++) {
                told[k] = 0;
            }
            for (int one = 0; one < MOST_PEOPLE; one++) {
                aheadOf[one] = 0;
            }
            for (int k = 0; k < pairs.many; k++) {
                told[pairs.first[k] * MOST_PEOPLE + pairs.second[k]]++;
                aheadOf[pairs.second[k]] |= 1 << pairs.first[k];
            }
        }

        /** How many PAIRS RANKED breaks; the order itself is put into the ranking. */
        int rank() {
            int all = (1 << people) - 1;
            leastBroken[0] = 0;
            for (int set = 1; set <= all; set++) {
                leastBroken[set] = brokenFrom(set, bestFirst(set));
            }
            int left = all;
            for (int k = 0; k < people; k++) {
                ranking[k] = bestFirst(left);
                left &= ~(1 << ranking[k]);
            }
            return leastBroken[all];
        }

        /** Of the set's PEOPLE the least one who goes first of them where fewest PAIRS are broken. */
        private int bestFirst(int set) {
            int best = NONE;
            for (int one = 0; one < people; one++) {
                boolean isIn = (set >> one & 1) == 1;
                if (isIn && (best == NONE || brokenFrom(set, one) < brokenFrom(set, best))) {
                    best = one;
                }
            }
            return Math.max(best, 0);
        }

        /** How many PAIRS of the set's PEOPLE are broken if this one of them goes first. */
        private int brokenFrom(int set, int first) {
            int rest = set & ~(1 << first);
            int broken = leastBroken[rest];
            for (int one = 0; one < people; one++) {
                if ((rest >> one & 1) == 1) {
                    broken += told[one * MOST_PEOPLE + first];
                }
            }
            return broken;
        }

        /** How many orders of all break no PAIR: of each set, by who goes first of it. */
        int countUnbroken() {
            int all = (1 << people) - 1;
            unbroken[0] = 1;
            for (int set = 1; set <= all; set++) {
                unbroken[set] = 0;
                for (int one = 0; one < people; one++) {
                    boolean isIn = (set >> one & 1) == 1;
                    if (isIn && (aheadOf[one] & set) == 0) {
                        unbroken[set] += unbroken[set & ~(1 << one)];
                    }
                }
            }
            return unbroken[all];
        }

        int bestQuestion() {
            int all = countUnbroken();
            int question = NONE;
            int leastPart = all;
            for (int a = 0; a < people; a++) {
                for (int b = a + 1; b < people; b++) {
                    int yes = countUnbrokenWith(a, b);
                    int part = Math.max(yes, all - yes);
                    if (part < leastPart) {
                        leastPart = part;
                        question = 10 * a + b;
                    }
                }
            }
            return question;
        }

        private int countUnbrokenWith(int a, int b) {
            int asTold = aheadOf[b];
            aheadOf[b] = asTold | 1 << a;
            int yes = countUnbroken();
            aheadOf[b] = asTold;
            return yes;
        }
    }

    /** PEOPLE in ROOMS: the first way, PERSON by PERSON, with the fewest rooms. */
    static final class Lodging {
        final int[] loads = new int[MOST_PEOPLE];
        final int[] roomOf = new int[MOST_PEOPLE];
        final int[] filled = new int[MOST_PEOPLE];

        /** How many rooms there are then; NONE. */
        int settle(People people, int most) {
            for (int one = 0; one < people.many; one++) {
                loads[one] = people.load(one, 0);
                if (loads[one] > most) {
                    return NONE;
                }
            }
            for (int rooms = 0; rooms <= people.many; rooms++) {
                if (settleFrom(this, 0, people.many, 0, rooms, most)) {
                    return rooms;
                }
            }
            return NONE;
        }

        /** Rooms are opened one behind the other, since one who opens a room opens the least one. */
        private static boolean settleFrom(Lodging all, int one, int people, int opened, int rooms, int most) {
            if (one >= people || one >= MOST_PEOPLE) {
                return true;
            }
            for (int room = 0; room <= opened && room < rooms; room++) {
                int had = room < opened ? all.filled[room] : 0;
                if (had + all.loads[one] > most) {
                    continue;
                }
                all.filled[room] = had + all.loads[one];
                all.roomOf[one] = room;
                if (settleFrom(all, one + 1, people, Math.max(opened, room + 1), rooms, most)) {
                    return true;
                }
                all.filled[room] = had;
            }
            return false;
        }
    }

    /** What is SEEN. */
    static final class Sights {
        int many = 0;
        final int[] whose = new int[MOST_SEEN];
        final int[] lents = new int[MOST_SEEN];
        final int[] steps = new int[MOST_SEEN];

        void append(int person, int n, int step) {
            if (many < MOST_SEEN) {
                whose[many] = person;
                lents[many] = n;
                steps[many] = step;
                many++;
            }
        }

        int possibleKinds(int person, Griefs griefs) {
            int bits = 0;
            for (int kind = 0; kind < KIND_COUNT; kind++) {
                if (howManySo(person, kind, griefs) == howManyOf(person)) {
                    bits |= 1 << kind;
                }
            }
            return bits;
        }

        int likeliestKind(int person, Griefs griefs) {
            int likeliest = 0;
            for (int kind = 1; kind < KIND_COUNT; kind++) {
                if (howManySo(person, kind, griefs) > howManySo(person, likeliest, griefs)) {
                    likeliest = kind;
                }
            }
            return likeliest;
        }

        private int howManyOf(int person) {
            int of = 0;
            for (int k = 0; k < many; k++) {
                if (whose[k] == person) {
                    of++;
                }
            }
            return of;
        }

        private int howManySo(int person, int kind, Griefs griefs) {
            int so = 0;
            for (int k = 0; k < many; k++) {
                if (whose[k] == person && stepOf(griefs.loadAs(person, kind, lents[k])) == steps[k]) {
                    so++;
                }
            }
            return so;
        }
    }

    /** A DRAWER: of each PLACE what sort of thing it has, and which. */
    static final class Drawer {
        boolean isThere = false;
        int places = 0;
        final int[] sorts = new int[MOST_PLACES];
        final int[] values = new int[MOST_PLACES];

        void renew(int n) {
            isThere = true;
            places = n;
            for (int k = 0; k < MOST_PLACES; k++) {
                sorts[k] = NOTHING;
            }
        }

        boolean hasPlace(int i) {
            return i >= 0 && i < places;
        }

        boolean hasPlaces(int from, int n) {
            return from >= 0 && n >= 0 && from <= places - n;
        }

        int howManyThings() {
            int things = 0;
            for (int k = 0; k < places; k++) {
                if (sorts[k] != NOTHING) {
                    things++;
                }
            }
            return things;
        }

        boolean isOfLikeThings() {
            for (int k = 1; k < places; k++) {
                if (sorts[k] != sorts[0]) {
                    return false;
                }
            }
            return true;
        }

        /** Of like things, so that only values change PLACES. */
        void sort(People people) {
            for (int k = 1; k < places; k++) {
                int value = values[k];
                int at = k;
                while (at > 0 && comesBefore(value, values[at - 1], people)) {
                    values[at] = values[at - 1];
                    at--;
                }
                values[at] = value;
            }
        }

        private boolean comesBefore(int value, int other, People people) {
            if (sorts[0] != A_PERSON || !people.has(value) || !people.has(other)) {
                return value < other;
            }
            int load = people.load(value, 0);
            int otherLoad = people.load(other, 0);
            return load > otherLoad || (load == otherLoad && value < other);
        }
    }
}
