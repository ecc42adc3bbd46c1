/**
 * Ladders in an orchard: trees with fruit up high, ladders of kinds that lean at them, day by day.
 * The document ../shared/DOC.md says what every call promises.
 *
 * Every row is made in a constructor and used again, so that no call makes an object.
 */
public final class OrchardLadders {
    public static final int BAD = -1, NOT = -2, FULL = -3, NONE = -4, NULL = -11, CAST = -12, INDEX = -13, SIZE = -14;

    private static final int MOST_TREES = 6, MOST_LADDERS = 4, MOST_LETTERS = 90, MOST_UNDONE = 8;
    private static final int MOST_HIGH = 20, MOST_FRUIT = 99, MOST_RIPE = 99, MOST_LONG = 9, MOST_PRICE = 9;
    private static final int MOST_BASKET = 30, MOST_WASPS = 9, LAST_DAY = 9999, MOST_DAYS = 40, FORESIGHT = 60;
    private static final int PLAIN = 0, DEWY = 1, TIED = 2, WIDOWED = 3, LENT = 4;
    private static final int MOST_PLANNED = 14, MOST_ROUND = 4, MOST_TOLD = 8, MOST_GOAL = 999, MOST_LUCK = 150;
    private static final int SETS = 16, NOBODY = 32;
    private static final int SHEETS = 4, LANES = 4, ROW = 24, NOTHING = -1, FINE = 0;
    private static final int FAULTS = -20, END = -1, LOWEST_31_BITS = 0x7fffffff;

    private final Orchard orchard = new Orchard();
    private final History history = new History();
    private final Orchard keptOrchard = new Orchard();
    private final History keptHistory = new History();
    private boolean kept;
    private final Tape tape = new Tape();
    private final Orchard draft = new Orchard();
    private final Moment later = new Moment();
    private final Choice choice = new Choice();
    private final Sheet[] sheets = new Sheet[SHEETS];

    public OrchardLadders() {
        for (int s = 0; s < SHEETS; s++) {
            sheets[s] = new Sheet();
        }
    }

    // ---- 1 trees, ladders

    public int tree(int high, int fruit, int ripe) {
        if (!within(high, 1, MOST_HIGH) || !within(fruit, 0, MOST_FRUIT) || !within(ripe, 0, MOST_RIPE)) {
            return BAD;
        }
        int number = orchard.plant(high, fruit, ripe);
        history.forgetUnlessFull(number);
        return number;
    }

    public int ladder(int kind, int length, int price) {
        if (!within(kind, PLAIN, LENT) || !within(length, 1, MOST_LONG) || !within(price, 0, MOST_PRICE)) {
            return BAD;
        }
        int number = orchard.bring(kind, length, price);
        history.forgetUnlessFull(number);
        return number;
    }

    public int of(int tree, int what) {
        if (!orchard.hasTree(tree)) {
            return BAD;
        }
        switch (what) {
            case 0:
                return orchard.high[tree];
            case 1:
                return orchard.now.fruit[tree];
            case 2:
                return orchard.ripe[tree];
            case 3:
                return orchard.now.leaningAt(tree);
            case 4:
                return orchard.reaching(tree, orchard.now.day, orchard.now.leaningAt(tree));
            default:
                return BAD;
        }
    }

    public int at(int ladder, int what) {
        if (!orchard.hasLadder(ladder)) {
            return BAD;
        }
        switch (what) {
            case 0:
                return orchard.kind[ladder];
            case 1:
                return orchard.length[ladder];
            case 2:
                return orchard.price[ladder];
            case 3:
                return orchard.now.leans[ladder];
            case 4:
                return orchard.reach(ladder, orchard.now.day);
            case 5:
                return orchard.treesInReach(ladder, orchard.now.day);
            default:
                return BAD;
        }
    }

    public int rule(int what, int v) {
        if (what == 0 && within(v, 1, MOST_BASKET)) {
            int was = orchard.basket;
            orchard.basket = v;
            return was;
        }
        if (what == 1 && within(v, 0, MOST_WASPS)) {
            int was = orchard.wasps;
            orchard.wasps = v;
            return was;
        }
        return BAD;
    }

    public int type(int letter) {
        return within(letter, 32, 126) ? tape.append((char) letter) : BAD;
    }

    public int orchard() {
        int read = tape.read(draft);
        tape.length = 0;
        if (read < 0) {
            return read;
        }
        orchard.takeOver(draft);
        history.known = 0;
        return read;
    }

    public int count(int what) {
        switch (what) {
            case 0:
                return orchard.trees;
            case 1:
                return orchard.ladders;
            case 2:
                return orchard.now.day;
            case 3:
                return orchard.now.got;
            case 4:
                return orchard.now.paid;
            case 5:
                return orchard.now.lost;
            case 6:
                return orchard.fruitOfAll(orchard.now);
            case 7:
                return orchard.basket;
            case 8:
                return orchard.wasps;
            case 9:
                return history.known;
            default:
                return BAD;
        }
    }

    // ---- what is done

    public int days(int n) {
        if (!within(n, 1, MOST_DAYS)) {
            return BAD;
        }
        if (orchard.now.day + n > LAST_DAY) {
            return FULL;
        }
        int gotBefore = orchard.now.got;
        for (int d = 0; d < n; d++) {
            history.remember(orchard.now);
            orchard.pass(orchard.now);
        }
        return orchard.now.got - gotBefore;
    }

    public int lean(int ladder, int tree) {
        if (!orchard.hasLadder(ladder) || tree != NONE && !orchard.hasTree(tree)) {
            return BAD;
        }
        int was = orchard.now.leans[ladder];
        if (was == tree) {
            return NOT;
        }
        history.remember(orchard.now);
        orchard.now.leans[ladder] = tree;
        return was;
    }

    public int shake(int tree) {
        if (!orchard.hasTree(tree)) {
            return BAD;
        }
        if (orchard.now.fruit[tree] == 0) {
            return NOT;
        }
        history.remember(orchard.now);
        return orchard.now.shakeOff(tree);
    }

    public int drift(int n) {
        if (!within(n, 1, MOST_DAYS)) {
            return BAD;
        }
        if (orchard.now.day + n > LAST_DAY) {
            return FULL;
        }
        int lostBefore = orchard.now.lost;
        for (int d = 0; d < n; d++) {
            history.remember(orchard.now);
            orchard.gust();
            orchard.pass(orchard.now);
        }
        return orchard.now.lost - lostBefore;
    }

    public int undo() {
        return history.putBack(orchard.now);
    }

    public int seed(int v) {
        if (v < 0) {
            return BAD;
        }
        int was = orchard.now.draw;
        orchard.now.draw = v;
        return was;
    }

    // ---- 2 foretold

    public int ahead(int n, int what) {
        if (!within(n, 0, FORESIGHT) || !within(what, 0, 2)) {
            return BAD;
        }
        later.become(orchard.now);
        for (int d = 0; d < n; d++) {
            orchard.pass(later);
        }
        if (what == 0) {
            return later.got;
        }
        return what == 1 ? later.paid : later.lost;
    }

    public int fruit(int tree, int n) {
        if (!orchard.hasTree(tree) || !within(n, 0, FORESIGHT)) {
            return BAD;
        }
        int set = orchard.now.leaningAt(tree);
        int left = orchard.now.fruit[tree];
        for (int d = 0; d < n; d++) {
            left = orchard.leftBehind(tree, orchard.now.day + d, set, left);
        }
        return left;
    }

    public int reached(int tree, int n) {
        if (!orchard.hasTree(tree) || !within(n, 0, FORESIGHT)) {
            return BAD;
        }
        return orchard.reaching(tree, orchard.now.day + n, SETS - 1);
    }

    public int gathered() {
        later.become(orchard.now);
        for (int n = 0; n <= FORESIGHT; n++) {
            if (orchard.fruitOfAll(later) == 0) {
                return n;
            }
            orchard.pass(later);
        }
        return NONE;
    }

    public int plan(int n, int ladder) {
        if (!within(n, 1, MOST_PLANNED) || ladder != NONE && !orchard.hasLadder(ladder)) {
            return BAD;
        }
        if (orchard.trees == 0 || orchard.ladders == 0) {
            return NONE;
        }
        for (int t = 0; t < orchard.trees; t++) {
            for (int set = 0; set < 1 << orchard.ladders; set++) {
                choice.worth[t * SETS + set] = orchard.gotAt(t, set, n, orchard.basket);
            }
        }
        choice.seek(orchard.trees, orchard.ladders);
        return ladder == NONE ? choice.most : choice.trees[ladder];
    }

    public int round(int ladder, int n, int k) {
        if (!orchard.hasLadder(ladder) || !within(n, 1, MOST_ROUND) || k < -1) {
            return BAD;
        }
        if (orchard.trees == 0 || k >= n) {
            return NONE;
        }
        for (int t = 0; t < orchard.trees; t++) {
            int others = orchard.now.leaningAt(t) & ~(1 << ladder);
            for (int visits = 0; visits < 1 << n; visits++) {
                choice.worth[t * SETS + visits] = orchard.gotWithGuest(t, others, 1 << ladder, visits, n, orchard.basket);
            }
        }
        choice.seek(orchard.trees, n);
        return k == -1 ? choice.most : choice.trees[k];
    }

    public int longer(int ladder, int tree) {
        if (!orchard.hasLadder(ladder) || !orchard.hasTree(tree)) {
            return BAD;
        }
        int kind = orchard.kind[ladder];
        int length = orchard.length[ladder];
        for (int more = 0; length + more <= MOST_LONG; more++) {
            if (reachOfKind(kind, length + more, orchard.now.day) >= orchard.high[tree]) {
                return more;
            }
        }
        return NONE;
    }

    public int larger(int n, int g) {
        if (!within(n, 1, FORESIGHT) || !within(g, 1, MOST_GOAL)) {
            return BAD;
        }
        for (int basket = 1; basket <= MOST_BASKET; basket++) {
            int got = 0;
            for (int t = 0; t < orchard.trees; t++) {
                got += orchard.gotAt(t, orchard.now.leaningAt(t), n, basket);
            }
            if (got >= g) {
                return basket;
            }
        }
        return NONE;
    }

    public int luck(int g, int c, int what) {
        if (!within(g, 0, MOST_LUCK) || !within(c, 0, 10) || !within(what, 0, 1)) {
            return BAD;
        }
        int leaning = orchard.leaningAnywhere();
        int above = 0;
        int below = 0;
        for (int present = 0; present < SETS; present++) {
            if ((present & ~leaning) == 0) {
                int ways = waysToBe(present, leaning, c);
                below += ways;
                above += orchard.gotToday(present) >= g ? ways : 0;
            }
        }
        int common = commonDivisor(above, below);
        return (what == 0 ? above : below) / common;
    }

    public int image() {
        keptOrchard.become(orchard);
        keptHistory.become(history);
        kept = true;
        return 1;
    }

    public int restore() {
        if (!kept) {
            return NONE;
        }
        orchard.become(keptOrchard);
        history.become(keptHistory);
        return 1;
    }

    // ---- 3 sheets

    public int left(int tree, int sheet, int lane, int i, int n) {
        if (!orchard.hasTree(tree) || !isSheet(sheet) || !isLane(lane) || !within(n, 1, MOST_TOLD)) {
            return BAD;
        }
        int found = sheets[sheet].find(lane, i, n);
        if (found != FINE) {
            return found;
        }
        int set = leavesSo(tree, 0, sheets[sheet], i, n) ? NOBODY : 0;
        for (int l = 0; l < orchard.ladders; l++) {
            if (leavesSo(tree, 1 << l, sheets[sheet], i, n)) {
                set |= 1 << l;
            }
        }
        return set;
    }

    public int film(int tree, int n, int sheet, int lane, int i) {
        if (!orchard.hasTree(tree) || !within(n, 1, ROW) || !isSheet(sheet) || !isLane(lane)) {
            return BAD;
        }
        int found = sheets[sheet].find(lane, i, n);
        if (found != FINE) {
            return found;
        }
        int set = orchard.now.leaningAt(tree);
        int left = orchard.now.fruit[tree];
        for (int d = 0; d < n; d++) {
            left = orchard.leftBehind(tree, orchard.now.day + d, set, left);
            sheets[sheet].put(i + d, left);
        }
        return n;
    }

    public int sheet(int sheet, int lane, int n) {
        if (!isSheet(sheet) || !isLane(lane) || n > ROW) {
            return BAD;
        }
        if (n < 0) {
            return SIZE;
        }
        sheets[sheet].begin(lane, n);
        return n;
    }

    public int drop(int sheet) {
        if (!isSheet(sheet)) {
            return BAD;
        }
        if (sheets[sheet].lane == NOTHING) {
            return NULL;
        }
        sheets[sheet].lane = NOTHING;
        return sheets[sheet].length;
    }

    public int item(int sheet, int lane, int i, long v) {
        if (!isSheet(sheet) || !isLane(lane)) {
            return BAD;
        }
        int found = sheets[sheet].find(lane, i, 1);
        if (found != FINE) {
            return found;
        }
        sheets[sheet].put(i, v);
        return 1;
    }

    public int copy(int from, int i, int to, int j, int n) {
        if (!isSheet(from) || !isSheet(to)) {
            return BAD;
        }
        Sheet source = sheets[from];
        Sheet target = sheets[to];
        if (source.lane == NOTHING || target.lane == NOTHING) {
            return NULL;
        }
        if (source.lane != target.lane) {
            return CAST;
        }
        if (!source.holds(i, n) || !target.holds(j, n)) {
            return INDEX;
        }
        System.arraycopy(source.items, i, target.items, j, n);
        return n;
    }

    // ---- small helpers

    private static boolean within(int v, int least, int most) {
        return v >= least && v <= most;
    }

    private static boolean isSheet(int sheet) {
        return within(sheet, 0, SHEETS - 1);
    }

    private static boolean isLane(int lane) {
        return within(lane, 0, LANES - 1);
    }

    private static int reachOfKind(int kind, int length, int day) {
        switch (kind) {
            case DEWY:
                return reachOfDewy(length, day);
            case TIED:
                return reachOfTied(length);
            case WIDOWED:
                return length >= 4 ? Math.min(reachOfDewy(length, day), 3) : reachOfDewy(length, day);
            case LENT:
                return day % 7 == 0 ? 0 : reachOfTied(length);
            default:
                return length;
        }
    }

    private static int reachOfDewy(int length, int day) {
        return day % 3 == 0 && length > 2 ? 2 : length;
    }

    private static int reachOfTied(int length) {
        return 2 * length;
    }

    /** Of ten to the power of how many lean, in how many cases just those of present are there. */
    private static int waysToBe(int present, int leaning, int c) {
        int ways = 1;
        for (int l = 0; l < MOST_LADDERS; l++) {
            if ((leaning >> l & 1) != 0) {
                ways *= (present >> l & 1) != 0 ? 10 - c : c;
            }
        }
        return ways;
    }

    /** At least 1, so that it may always divide. */
    private static int commonDivisor(int a, int b) {
        int larger = a;
        int smaller = b;
        for (int step = 0; step < 100 && smaller != 0; step++) {
            int rest = larger % smaller;
            larger = smaller;
            smaller = rest;
        }
        return Math.max(larger, 1);
    }

    private boolean leavesSo(int tree, int set, Sheet told, int i, int n) {
        int left = orchard.now.fruit[tree];
        for (int d = 0; d < n; d++) {
            left = orchard.leftBehind(tree, orchard.now.day + d, set, left);
            if (told.items[i + d] != left) {
                return false;
            }
        }
        return true;
    }

    /** All that a day, a lean or a gust changes, and so all that undoing puts back. */
    private static final class Moment {
        final int[] fruit = new int[MOST_TREES];
        final int[] leans = new int[MOST_LADDERS];
        int got;
        int paid;
        int lost;
        int day;
        int draw = 1;

        Moment() {
            leanNowhere();
        }

        void leanNowhere() {
            for (int l = 0; l < MOST_LADDERS; l++) {
                leans[l] = NONE;
            }
        }

        void become(Moment other) {
            System.arraycopy(other.fruit, 0, fruit, 0, MOST_TREES);
            System.arraycopy(other.leans, 0, leans, 0, MOST_LADDERS);
            got = other.got;
            paid = other.paid;
            lost = other.lost;
            day = other.day;
            draw = other.draw;
        }

        int leaningAt(int tree) {
            int set = 0;
            for (int l = 0; l < MOST_LADDERS; l++) {
                if (leans[l] == tree) {
                    set |= 1 << l;
                }
            }
            return set;
        }

        int shakeOff(int tree) {
            int half = fruit[tree] / 2;
            fruit[tree] -= half;
            lost += half;
            return half;
        }
    }

    /** The trees, the ladders and the rules, with the moment that they are in. */
    private static final class Orchard {
        int trees;
        int ladders;
        int basket = 5;
        int wasps = 1;
        final int[] high = new int[MOST_TREES];
        final int[] ripe = new int[MOST_TREES];
        final int[] kind = new int[MOST_LADDERS];
        final int[] length = new int[MOST_LADDERS];
        final int[] price = new int[MOST_LADDERS];
        final Moment now = new Moment();

        void become(Orchard other) {
            basket = other.basket;
            wasps = other.wasps;
            becomeTreesAndLadders(other);
            now.become(other.now);
        }

        /** What a text tells comes in place of all; the rules and the draw are no part of a text. */
        void takeOver(Orchard told) {
            int draw = now.draw;
            becomeTreesAndLadders(told);
            now.become(told.now);
            now.draw = draw;
        }

        void becomeTreesAndLadders(Orchard other) {
            trees = other.trees;
            ladders = other.ladders;
            System.arraycopy(other.high, 0, high, 0, MOST_TREES);
            System.arraycopy(other.ripe, 0, ripe, 0, MOST_TREES);
            System.arraycopy(other.kind, 0, kind, 0, MOST_LADDERS);
            System.arraycopy(other.length, 0, length, 0, MOST_LADDERS);
            System.arraycopy(other.price, 0, price, 0, MOST_LADDERS);
        }

        /** Ladders that are not there lean nowhere, too: no set may show them. */
        void clear() {
            trees = 0;
            ladders = 0;
            now.leanNowhere();
        }

        /** The number of the new tree; FULL, if there is no room. */
        int plant(int itsHeight, int itsFruit, int itsDay) {
            if (trees >= MOST_TREES) {
                return FULL;
            }
            high[trees] = itsHeight;
            ripe[trees] = itsDay;
            now.fruit[trees] = itsFruit;
            trees++;
            return trees - 1;
        }

        /** The number of the new ladder; FULL, if there is no room. */
        int bring(int itsKind, int itsLength, int itsPrice) {
            if (ladders >= MOST_LADDERS) {
                return FULL;
            }
            kind[ladders] = itsKind;
            length[ladders] = itsLength;
            price[ladders] = itsPrice;
            now.leans[ladders] = NONE;
            ladders++;
            return ladders - 1;
        }

        boolean hasTree(int tree) {
            return tree >= 0 && tree < trees;
        }

        boolean hasLadder(int ladder) {
            return ladder >= 0 && ladder < ladders;
        }

        int fruitOfAll(Moment when) {
            int sum = 0;
            for (int t = 0; t < trees; t++) {
                sum += when.fruit[t];
            }
            return sum;
        }

        int leaningAnywhere() {
            int set = 0;
            for (int l = 0; l < ladders; l++) {
                if (now.leans[l] != NONE) {
                    set |= 1 << l;
                }
            }
            return set;
        }

        int reach(int ladder, int day) {
            return reachOfKind(kind[ladder], length[ladder], day);
        }

        /** Those of a set of ladders that reach a tree. */
        int reaching(int tree, int day, int set) {
            int those = 0;
            for (int l = 0; l < ladders; l++) {
                if ((set >> l & 1) != 0 && reachOfKind(kind[l], length[l], day) >= high[tree]) {
                    those |= 1 << l;
                }
            }
            return those;
        }

        int treesInReach(int ladder, int day) {
            int far = reach(ladder, day);
            int set = 0;
            for (int t = 0; t < trees; t++) {
                if (far >= high[t]) {
                    set |= 1 << t;
                }
            }
            return set;
        }

        /**
         * What a set of ladders takes from a tree on a day. Each takes a basket at most of what those ahead of it left,
         * so together they take that many baskets at most, in whatever order.
         */
        int taken(int tree, int day, int set, int fruit, int size) {
            if (day < ripe[tree]) {
                return 0;
            }
            return Math.min(fruit, size * Integer.bitCount(reaching(tree, day, set)));
        }

        int stung(int tree, int day, int fruit) {
            return day < ripe[tree] ? 0 : Math.min(fruit, wasps);
        }

        /** What a tree has left behind a day on which a set of ladders leant there. */
        int leftBehind(int tree, int day, int set, int fruit) {
            int rest = fruit - taken(tree, day, set, fruit, basket);
            return rest - stung(tree, day, rest);
        }

        /** A day goes by. No tree's fruit bears on another tree, so they may come one by one. */
        void pass(Moment when) {
            for (int l = 0; l < ladders; l++) {
                if (when.leans[l] != NONE) {
                    when.paid += price[l];
                }
            }
            for (int t = 0; t < trees; t++) {
                int taken = taken(t, when.day, when.leaningAt(t), when.fruit[t], basket);
                int stung = stung(t, when.day, when.fruit[t] - taken);
                when.got += taken;
                when.lost += stung;
                when.fruit[t] -= taken + stung;
            }
            when.day++;
        }

        /** The draw goes on; perhaps it shakes a tree. */
        void gust() {
            now.draw = (now.draw * 1103515245 + 12345) & LOWEST_31_BITS;
            int drawn = now.draw / 65536;
            if (drawn % 4 == 0 && trees > 0) {
                now.shakeOff(drawn % trees);
            }
        }

        /** What is got at a tree in n days by a set of ladders that stays there. */
        int gotAt(int tree, int set, int n, int size) {
            return gotWithGuest(tree, set, 0, 0, n, size);
        }

        /** What is got at a tree in n days by a set of ladders that stays there, and by a guest on the days of visits. */
        int gotWithGuest(int tree, int set, int guest, int visits, int n, int size) {
            int fruit = now.fruit[tree];
            int got = 0;
            for (int d = 0; d < n && fruit > 0; d++) {
                int there = (visits >> d & 1) != 0 ? set | guest : set;
                int taken = taken(tree, now.day + d, there, fruit, size);
                got += taken;
                fruit -= taken;
                fruit -= stung(tree, now.day + d, fruit);
            }
            return got;
        }

        /** What is got on this day, if only these ladders are there. */
        int gotToday(int present) {
            int got = 0;
            for (int t = 0; t < trees; t++) {
                got += taken(t, now.day, now.leaningAt(t) & present, now.fruit[t], basket);
            }
            return got;
        }
    }

    /** The moments that may be put back, the oldest first. */
    private static final class History {
        final Moment[] past = new Moment[MOST_UNDONE];
        int known;

        History() {
            for (int m = 0; m < MOST_UNDONE; m++) {
                past[m] = new Moment();
            }
        }

        void become(History other) {
            known = other.known;
            for (int m = 0; m < known; m++) {
                past[m].become(other.past[m]);
            }
        }

        /** Behind a new tree or ladder nothing may be undone. */
        void forgetUnlessFull(int number) {
            if (number != FULL) {
                known = 0;
            }
        }

        void remember(Moment moment) {
            if (known >= MOST_UNDONE) {
                forgetOldest();
            }
            past[known].become(moment);
            known++;
        }

        /** The oldest moment's object goes to the end, to be used again. */
        void forgetOldest() {
            Moment oldest = past[0];
            for (int m = 1; m < MOST_UNDONE; m++) {
                past[m - 1] = past[m];
            }
            past[MOST_UNDONE - 1] = oldest;
            known = MOST_UNDONE - 1;
        }

        /** How many are still known; NONE, if there was none. */
        int putBack(Moment into) {
            if (known <= 0) {
                return NONE;
            }
            known--;
            into.become(past[known]);
            return known;
        }
    }

    /** Of all ways to have a tree in each of up to four places (ladders, or days), the first that is worth most. */
    private static final class Choice {
        /** Tree t with a set of places is worth what stands at t * SETS + set. */
        final int[] worth = new int[MOST_TREES * SETS];
        final int[] trees = new int[MOST_LADDERS];
        final int[] places = new int[MOST_TREES];
        int most;

        /** A way is a number whose digits, to the base of how many trees there are, are the trees: rising, it is in order. */
        void seek(int howManyTrees, int howManyPlaces) {
            if (howManyTrees < 1 || howManyTrees > MOST_TREES || howManyPlaces < 1 || howManyPlaces > MOST_LADDERS) {
                return;
            }
            int ways = 1;
            for (int p = 0; p < howManyPlaces; p++) {
                ways *= howManyTrees;
            }
            most = -1;
            int first = 0;
            for (int way = 0; way < ways; way++) {
                int sum = worthOf(way, howManyTrees, howManyPlaces);
                if (sum > most) {
                    most = sum;
                    first = way;
                }
            }
            spread(first, howManyTrees, howManyPlaces);
        }

        int worthOf(int way, int howManyTrees, int howManyPlaces) {
            for (int t = 0; t < howManyTrees; t++) {
                places[t] = 0;
            }
            int rest = way;
            for (int p = howManyPlaces - 1; p >= 0; p--) {
                places[rest % howManyTrees] |= 1 << p;
                rest /= howManyTrees;
            }
            int sum = 0;
            for (int t = 0; t < howManyTrees; t++) {
                sum += worth[t * SETS + places[t]];
            }
            return sum;
        }

        void spread(int way, int howManyTrees, int howManyPlaces) {
            int rest = way;
            for (int p = howManyPlaces - 1; p >= 0; p--) {
                trees[p] = rest % howManyTrees;
                rest /= howManyTrees;
            }
        }
    }

    /** A row of numbers; the lane tells how many of their lowest bits stay. */
    private static final class Sheet {
        final long[] items = new long[ROW];
        int lane = NOTHING;
        int length;

        void begin(int itsLane, int itsLength) {
            lane = itsLane;
            length = itsLength;
            for (int i = 0; i < ROW; i++) {
                items[i] = 0;
            }
        }

        boolean holds(int i, int n) {
            return i >= 0 && n >= 0 && i <= length - n;
        }

        /** What the machine would find, if n items from i on were taken as a row of a lane. */
        int find(int asLane, int i, int n) {
            if (lane == NOTHING) {
                return NULL;
            }
            if (lane != asLane) {
                return CAST;
            }
            return holds(i, n) ? FINE : INDEX;
        }

        /** Only behind a look whether it holds i. */
        void put(int i, long v) {
            switch (lane) {
                case 0:
                    items[i] = (byte) v;
                    break;
                case 1:
                    items[i] = (short) v;
                    break;
                case 2:
                    items[i] = (int) v;
                    break;
                default:
                    items[i] = v;
            }
        }
    }

    /** The letters typed, and how they are read as an orchard. */
    private static final class Tape {
        final char[] letters = new char[MOST_LETTERS];
        int length;
        int place;
        int fault;

        /** How many letters there are then; FULL, if there is no room. */
        int append(char letter) {
            if (length >= MOST_LETTERS) {
                return FULL;
            }
            letters[length] = letter;
            length++;
            return length;
        }

        /** How many trees came into the draft; or the fault, and the draft is worth nothing. */
        int read(Orchard draft) {
            place = 0;
            fault = 0;
            draft.clear();
            readTrees(draft);
            if (fault == 0 && passes(';')) {
                readLadders(draft);
            }
            if (fault == 0 && next() != END) {
                fail(place);
            }
            return fault == 0 ? draft.trees : fault;
        }

        void readTrees(Orchard draft) {
            boolean more = true;
            for (int t = 0; t < MOST_TREES && more; t++) {
                int high = number(1, MOST_HIGH);
                demand(':');
                int fruit = number(0, MOST_FRUIT);
                demand('@');
                int ripe = number(0, MOST_RIPE);
                if (fault == 0) {
                    draft.plant(high, fruit, ripe);
                }
                more = fault == 0 && t + 1 < MOST_TREES && passes(',');
            }
        }

        void readLadders(Orchard draft) {
            boolean more = true;
            for (int l = 0; l < MOST_LADDERS && more; l++) {
                int kind = kindLetter();
                int itsLength = digit(1, MOST_LONG);
                int price = digit(0, MOST_PRICE);
                boolean leans = fault == 0 && passes('=');
                int tree = leans ? digit(0, draft.trees - 1) : NONE;
                if (fault == 0) {
                    draft.bring(kind, itsLength, price);
                    draft.now.leans[l] = tree;
                }
                more = fault == 0 && l + 1 < MOST_LADDERS && passes(',');
            }
        }

        /** Goes on to the next letter that is no blank: that letter, or END. */
        int next() {
            while (place < length && letters[place] == ' ') {
                place++;
            }
            return place < length ? letters[place] : END;
        }

        /** Only the first fault counts: behind one, nothing is read any more. */
        void fail(int where) {
            if (fault == 0) {
                fault = FAULTS - where;
            }
        }

        boolean passes(char letter) {
            if (next() != letter) {
                return false;
            }
            place++;
            return true;
        }

        void demand(char letter) {
            if (fault == 0 && !passes(letter)) {
                fail(place);
            }
        }

        /** A number of one or two digits; 0 with a fault. */
        int number(int least, int most) {
            if (fault != 0) {
                return 0;
            }
            if (!isDigit(next())) {
                fail(place);
                return 0;
            }
            int first = place;
            int v = letters[place] - '0';
            place++;
            if (place < length && isDigit(letters[place])) {
                v = v * 10 + letters[place] - '0';
                place++;
            }
            if (!within(v, least, most)) {
                fail(first);
            }
            return v;
        }

        /** A single digit; 0 with a fault. */
        int digit(int least, int most) {
            if (fault != 0) {
                return 0;
            }
            int letter = next();
            if (!isDigit(letter) || !within(letter - '0', least, most)) {
                fail(place);
                return 0;
            }
            place++;
            return letter - '0';
        }

        int kindLetter() {
            switch (next()) {
                case 'p':
                    place++;
                    return PLAIN;
                case 'd':
                    place++;
                    return DEWY;
                case 't':
                    place++;
                    return TIED;
                case 'w':
                    place++;
                    return WIDOWED;
                case 'l':
                    place++;
                    return LENT;
                default:
                    fail(place);
                    return PLAIN;
            }
        }

        static boolean isDigit(int letter) {
            return within(letter, '0', '9');
        }
    }
}
