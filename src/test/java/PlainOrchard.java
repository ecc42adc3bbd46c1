import java.util.ArrayDeque;
import java.util.ArrayList;
import java.util.Arrays;
import java.util.Deque;
import java.util.List;

/** The document done the long way, day by day and ladder by ladder, with none of the class's short cuts. */
final class PlainOrchard {
    private static final class Tree {
        int high, fruit, ripe;
    }

    private static final class Ladder {
        int kind, length, price, at = -4;
    }

    private static final class Fault extends Exception {
        private static final long serialVersionUID = 1L;
        final int place;

        Fault(int place) {
            this.place = place;
        }
    }

    /** All but sheets and tape. */
    private static final class World {
        List<Tree> trees = new ArrayList<>();
        List<Ladder> ladders = new ArrayList<>();
        int basket = 5, wasps = 1, got, paid, lost, day;
        long draw = 1;
        Deque<World> past = new ArrayDeque<>();

        World twin(boolean withPast) {
            World w = new World();
            for (Tree t : trees) {
                Tree u = new Tree();
                u.high = t.high;
                u.fruit = t.fruit;
                u.ripe = t.ripe;
                w.trees.add(u);
            }
            for (Ladder l : ladders) {
                Ladder m = new Ladder();
                m.kind = l.kind;
                m.length = l.length;
                m.price = l.price;
                m.at = l.at;
                w.ladders.add(m);
            }
            w.basket = basket;
            w.wasps = wasps;
            w.got = got;
            w.paid = paid;
            w.lost = lost;
            w.day = day;
            w.draw = draw;
            if (withPast) {
                for (World p : past) {
                    w.past.addLast(p.twin(false));
                }
            }
            return w;
        }

        void keep() {
            past.addLast(twin(false));
            if (past.size() > 8) {
                past.removeFirst();
            }
        }

        void pass(int awaySet) {
            for (int i = 0; i < ladders.size(); i++) {
                Ladder l = ladders.get(i);
                if (l.at != -4) {
                    paid += l.price;
                    Tree t = trees.get(l.at);
                    if (day >= t.ripe && reach(l.kind, l.length, day) >= t.high && (awaySet & 1 << i) == 0) {
                        int takes = t.fruit < basket ? t.fruit : basket;
                        t.fruit -= takes;
                        got += takes;
                    }
                }
            }
            for (Tree t : trees) {
                for (int w = 0; w < wasps && day >= t.ripe && t.fruit > 0; w++) {
                    t.fruit--;
                    lost++;
                }
            }
            day++;
        }

        int shakeOff(Tree t) {
            int half = t.fruit / 2;
            t.fruit -= half;
            lost += half;
            return half;
        }

        World on(int n) {
            World w = twin(false);
            for (int d = 0; d < n; d++) {
                w.pass(0);
            }
            return w;
        }

        boolean anyFruit() {
            for (Tree t : trees) {
                if (t.fruit > 0) {
                    return true;
                }
            }
            return false;
        }
    }

    private World w = new World();
    private World kept = null;
    private final StringBuilder tape = new StringBuilder();
    private final Object[] sheets = new Object[4];

    static int reach(int kind, int length, int day) {
        if (kind == 0) {
            return length;
        }
        if (kind == 1) {
            int far = reach(0, length, day);
            return day % 3 == 0 && far > 2 ? 2 : far;
        }
        if (kind == 2) {
            return 2 * reach(0, length, day);
        }
        if (kind == 3) {
            int far = reach(1, length, day);
            return length >= 4 && far > 3 ? 3 : far;
        }
        return day % 7 == 0 ? 0 : reach(2, length, day);
    }

    private boolean noTree(int tree) {
        return tree < 0 || tree >= w.trees.size();
    }

    private boolean noLadder(int ladder) {
        return ladder < 0 || ladder >= w.ladders.size();
    }

    int tree(int high, int fruit, int ripe) {
        if (high < 1 || high > 20 || fruit < 0 || fruit > 99 || ripe < 0 || ripe > 99) {
            return -1;
        }
        if (w.trees.size() == 6) {
            return -3;
        }
        Tree t = new Tree();
        t.high = high;
        t.fruit = fruit;
        t.ripe = ripe;
        w.trees.add(t);
        w.past.clear();
        return w.trees.size() - 1;
    }

    int ladder(int kind, int length, int price) {
        if (kind < 0 || kind > 4 || length < 1 || length > 9 || price < 0 || price > 9) {
            return -1;
        }
        if (w.ladders.size() == 4) {
            return -3;
        }
        Ladder l = new Ladder();
        l.kind = kind;
        l.length = length;
        l.price = price;
        w.ladders.add(l);
        w.past.clear();
        return w.ladders.size() - 1;
    }

    int of(int tree, int what) {
        if (noTree(tree) || what < 0 || what > 4) {
            return -1;
        }
        Tree t = w.trees.get(tree);
        if (what < 3) {
            return what == 0 ? t.high : what == 1 ? t.fruit : t.ripe;
        }
        int set = 0;
        for (int i = 0; i < w.ladders.size(); i++) {
            Ladder l = w.ladders.get(i);
            if (l.at == tree && (what == 3 || reach(l.kind, l.length, w.day) >= t.high)) {
                set += 1 << i;
            }
        }
        return set;
    }

    int at(int ladder, int what) {
        if (noLadder(ladder) || what < 0 || what > 5) {
            return -1;
        }
        Ladder l = w.ladders.get(ladder);
        int far = reach(l.kind, l.length, w.day);
        int set = 0;
        for (int i = 0; i < w.trees.size(); i++) {
            set += far >= w.trees.get(i).high ? 1 << i : 0;
        }
        return new int[] {l.kind, l.length, l.price, l.at, far, set}[what];
    }

    int rule(int what, int v) {
        if (what < 0 || what > 1 || what == 0 && (v < 1 || v > 30) || what == 1 && (v < 0 || v > 9)) {
            return -1;
        }
        int was = what == 0 ? w.basket : w.wasps;
        if (what == 0) {
            w.basket = v;
        } else {
            w.wasps = v;
        }
        return was;
    }

    int type(int letter) {
        if (letter < 32 || letter > 126) {
            return -1;
        }
        if (tape.length() == 90) {
            return -3;
        }
        tape.append((char) letter);
        return tape.length();
    }

    int orchard() {
        String text = tape.toString();
        tape.setLength(0);
        World told = new World();
        try {
            parse(text, told);
        } catch (Fault f) {
            return -20 - f.place;
        }
        told.basket = w.basket;
        told.wasps = w.wasps;
        told.draw = w.draw;
        w = told;
        return w.trees.size();
    }

    /** Cuts the text in letters that are no blanks, each with its place, and goes over them. */
    private static void parse(String text, World into) throws Fault {
        List<Integer> places = new ArrayList<>();
        for (int i = 0; i < text.length(); i++) {
            if (text.charAt(i) != ' ') {
                places.add(i);
            }
        }
        int[] k = {0};
        while (true) {
            Tree t = new Tree();
            t.high = number(text, places, k, 1, 20);
            one(text, places, k, ":");
            t.fruit = number(text, places, k, 0, 99);
            one(text, places, k, "@");
            t.ripe = number(text, places, k, 0, 99);
            into.trees.add(t);
            if (k[0] == places.size()) {
                return;
            }
            if (one(text, places, k, into.trees.size() < 6 ? ",;" : ";") == 1 || into.trees.size() == 6) {
                break;
            }
        }
        while (true) {
            Ladder l = new Ladder();
            l.kind = one(text, places, k, "pdtwl");
            l.length = one(text, places, k, "123456789") + 1;
            l.price = one(text, places, k, "0123456789");
            into.ladders.add(l);
            if (k[0] == places.size()) {
                return;
            }
            String comma = into.ladders.size() < 4 ? "," : "";
            if (one(text, places, k, "=" + comma) == 0) {
                l.at = one(text, places, k, "012345".substring(0, into.trees.size()));
                if (k[0] == places.size()) {
                    return;
                }
                one(text, places, k, comma);
            }
        }
    }

    private static int one(String text, List<Integer> places, int[] k, String allowed) throws Fault {
        int place = k[0] < places.size() ? places.get(k[0]) : text.length();
        int which = k[0] < places.size() ? allowed.indexOf(text.charAt(place)) : -1;
        if (which < 0) {
            throw new Fault(place);
        }
        k[0]++;
        return which;
    }

    private static int number(String text, List<Integer> places, int[] k, int least, int most) throws Fault {
        int v = one(text, places, k, "0123456789");
        int first = places.get(k[0] - 1);
        boolean second = first + 1 < text.length() && "0123456789".indexOf(text.charAt(first + 1)) >= 0;
        if (second) {
            v = 10 * v + one(text, places, k, "0123456789");
        }
        if (v < least || v > most) {
            throw new Fault(first);
        }
        return v;
    }

    int count(int what) {
        int all = 0;
        for (Tree t : w.trees) {
            all += t.fruit;
        }
        int[] counts = {w.trees.size(), w.ladders.size(), w.day, w.got, w.paid, w.lost, all, w.basket, w.wasps, w.past.size()};
        return what < 0 || what > 9 ? -1 : counts[what];
    }

    int days(int n) {
        if (n < 1 || n > 40) {
            return -1;
        }
        if (w.day + n > 9999) {
            return -3;
        }
        int before = w.got;
        for (int d = 0; d < n; d++) {
            w.keep();
            w.pass(0);
        }
        return w.got - before;
    }

    int lean(int ladder, int tree) {
        if (noLadder(ladder) || noTree(tree) && tree != -4) {
            return -1;
        }
        int was = w.ladders.get(ladder).at;
        if (was == tree) {
            return -2;
        }
        w.keep();
        w.ladders.get(ladder).at = tree;
        return was;
    }

    int shake(int tree) {
        if (noTree(tree)) {
            return -1;
        }
        if (w.trees.get(tree).fruit == 0) {
            return -2;
        }
        w.keep();
        return w.shakeOff(w.trees.get(tree));
    }

    int drift(int n) {
        if (n < 1 || n > 40) {
            return -1;
        }
        if (w.day + n > 9999) {
            return -3;
        }
        int before = w.lost;
        for (int d = 0; d < n; d++) {
            w.keep();
            w.draw = (w.draw * 1103515245L + 12345L) % (1L << 31);
            long by = w.draw / 65536;
            if (by % 4 == 0 && !w.trees.isEmpty()) {
                w.shakeOff(w.trees.get((int) (by % w.trees.size())));
            }
            w.pass(0);
        }
        return w.lost - before;
    }

    int undo() {
        if (w.past.isEmpty()) {
            return -4;
        }
        World was = w.past.removeLast();
        was.basket = w.basket;
        was.wasps = w.wasps;
        was.past = w.past;
        w = was;
        return w.past.size();
    }

    int seed(int v) {
        if (v < 0) {
            return -1;
        }
        int was = (int) w.draw;
        w.draw = v;
        return was;
    }

    int ahead(int n, int what) {
        if (n < 0 || n > 60 || what < 0 || what > 2) {
            return -1;
        }
        World on = w.on(n);
        return what == 0 ? on.got : what == 1 ? on.paid : on.lost;
    }

    int fruit(int tree, int n) {
        return noTree(tree) || n < 0 || n > 60 ? -1 : w.on(n).trees.get(tree).fruit;
    }

    int reached(int tree, int n) {
        if (noTree(tree) || n < 0 || n > 60) {
            return -1;
        }
        int set = 0;
        for (int i = 0; i < w.ladders.size(); i++) {
            Ladder l = w.ladders.get(i);
            set += reach(l.kind, l.length, w.day + n) >= w.trees.get(tree).high ? 1 << i : 0;
        }
        return set;
    }

    int gathered() {
        for (int n = 0; n <= 60; n++) {
            if (!w.on(n).anyFruit()) {
                return n;
            }
        }
        return -4;
    }

    int plan(int n, int ladder) {
        if (n < 1 || n > 14 || noLadder(ladder) && ladder != -4) {
            return -1;
        }
        if (w.trees.isEmpty() || w.ladders.isEmpty()) {
            return -4;
        }
        int[] best = new int[w.ladders.size()];
        int[] most = {-1};
        planFrom(0, n, new int[w.ladders.size()], best, most);
        return ladder == -4 ? most[0] : best[ladder];
    }

    private void planFrom(int l, int n, int[] trial, int[] best, int[] most) {
        if (l == trial.length) {
            World on = w.twin(false);
            for (int i = 0; i < trial.length; i++) {
                on.ladders.get(i).at = trial[i];
            }
            int got = on.on(n).got - w.got;
            if (got > most[0]) {
                most[0] = got;
                System.arraycopy(trial, 0, best, 0, trial.length);
            }
            return;
        }
        for (int t = 0; t < w.trees.size(); t++) {
            trial[l] = t;
            planFrom(l + 1, n, trial, best, most);
        }
    }

    int round(int ladder, int n, int k) {
        if (noLadder(ladder) || n < 1 || n > 4 || k < -1) {
            return -1;
        }
        if (w.trees.isEmpty() || k >= n) {
            return -4;
        }
        int[] best = new int[n];
        int[] most = {-1};
        roundFrom(0, ladder, w, new int[n], best, most);
        return k == -1 ? most[0] : best[k];
    }

    private void roundFrom(int d, int ladder, World on, int[] trial, int[] best, int[] most) {
        if (d == trial.length) {
            if (on.got - w.got > most[0]) {
                most[0] = on.got - w.got;
                System.arraycopy(trial, 0, best, 0, trial.length);
            }
            return;
        }
        for (int t = 0; t < w.trees.size(); t++) {
            trial[d] = t;
            World next = on.twin(false);
            next.ladders.get(ladder).at = t;
            next.pass(0);
            roundFrom(d + 1, ladder, next, trial, best, most);
        }
    }

    int longer(int ladder, int tree) {
        if (noLadder(ladder) || noTree(tree)) {
            return -1;
        }
        Ladder l = w.ladders.get(ladder);
        for (int length = l.length; length <= 9; length++) {
            if (reach(l.kind, length, w.day) >= w.trees.get(tree).high) {
                return length - l.length;
            }
        }
        return -4;
    }

    int larger(int n, int g) {
        if (n < 1 || n > 60 || g < 1 || g > 999) {
            return -1;
        }
        for (int basket = 1; basket <= 30; basket++) {
            World on = w.twin(false);
            on.basket = basket;
            if (on.on(n).got - w.got >= g) {
                return basket;
            }
        }
        return -4;
    }

    int luck(int g, int c, int what) {
        if (g < 0 || g > 150 || c < 0 || c > 10 || what < 0 || what > 1) {
            return -1;
        }
        int above = 0;
        int below = 1;
        for (int i = 0; i < w.ladders.size(); i++) {
            below *= 10;
        }
        // those that lean nowhere are drawn, too: they change nothing
        for (int draw = 0; draw < below; draw++) {
            int away = 0;
            for (int i = 0, rest = draw; i < w.ladders.size(); i++, rest /= 10) {
                away |= rest % 10 < c ? 1 << i : 0;
            }
            World on = w.twin(false);
            on.pass(away);
            above += on.got - w.got >= g ? 1 : 0;
        }
        for (int d = below; d > 1; d--) {
            if (above % d == 0 && below % d == 0) {
                above /= d;
                below /= d;
            }
        }
        return what == 0 ? above : below;
    }

    int image() {
        kept = w.twin(true);
        return 1;
    }

    int restore() {
        if (kept == null) {
            return -4;
        }
        w = kept.twin(true);
        return 1;
    }

    private static int laneOf(Object row) {
        return row instanceof byte[] ? 0 : row instanceof short[] ? 1 : row instanceof int[] ? 2 : 3;
    }

    private static int lengthOf(Object row) {
        return java.lang.reflect.Array.getLength(row);
    }

    private static void put(Object row, int i, long v) {
        if (row instanceof byte[]) {
            ((byte[]) row)[i] = (byte) v;
        } else if (row instanceof short[]) {
            ((short[]) row)[i] = (short) v;
        } else if (row instanceof int[]) {
            ((int[]) row)[i] = (int) v;
        } else {
            ((long[]) row)[i] = v;
        }
    }

    private static boolean noSheet(int sheet) {
        return sheet < 0 || sheet > 3;
    }

    private int find(int sheet, int lane, int i, int n) {
        Object row = sheets[sheet];
        if (row == null) {
            return -11;
        }
        if (laneOf(row) != lane) {
            return -12;
        }
        return i < 0 || (long) i + n > lengthOf(row) ? -13 : 0;
    }

    int left(int tree, int sheet, int lane, int i, int n) {
        if (noTree(tree) || noSheet(sheet) || lane < 0 || lane > 3 || n < 1 || n > 8) {
            return -1;
        }
        int found = find(sheet, lane, i, n);
        if (found != 0) {
            return found;
        }
        int set = 0;
        for (int who = -1; who < w.ladders.size(); who++) {
            World on = w.twin(false);
            for (int l = 0; l < on.ladders.size(); l++) {
                if (l == who) {
                    on.ladders.get(l).at = tree;
                } else if (on.ladders.get(l).at == tree) {
                    on.ladders.get(l).at = -4;
                }
            }
            boolean so = true;
            for (int d = 0; d < n; d++) {
                on.pass(0);
                so &= java.lang.reflect.Array.getLong(sheets[sheet], i + d) == on.trees.get(tree).fruit;
            }
            set += !so ? 0 : who < 0 ? 32 : 1 << who;
        }
        return set;
    }

    int film(int tree, int n, int sheet, int lane, int i) {
        if (noTree(tree) || n < 1 || n > 24 || noSheet(sheet) || lane < 0 || lane > 3) {
            return -1;
        }
        int found = find(sheet, lane, i, n);
        if (found != 0) {
            return found;
        }
        for (int d = 1; d <= n; d++) {
            put(sheets[sheet], i + d - 1, w.on(d).trees.get(tree).fruit);
        }
        return n;
    }

    int sheet(int sheet, int lane, int n) {
        if (noSheet(sheet) || lane < 0 || lane > 3 || n > 24) {
            return -1;
        }
        if (n < 0) {
            return -14;
        }
        sheets[sheet] = lane == 0 ? new byte[n] : lane == 1 ? new short[n] : lane == 2 ? new int[n] : new long[n];
        return n;
    }

    int drop(int sheet) {
        if (noSheet(sheet)) {
            return -1;
        }
        if (sheets[sheet] == null) {
            return -11;
        }
        int had = lengthOf(sheets[sheet]);
        sheets[sheet] = null;
        return had;
    }

    int item(int sheet, int lane, int i, long v) {
        if (noSheet(sheet) || lane < 0 || lane > 3) {
            return -1;
        }
        int found = find(sheet, lane, i, 1);
        if (found != 0) {
            return found;
        }
        put(sheets[sheet], i, v);
        return 1;
    }

    int copy(int from, int i, int to, int j, int n) {
        if (noSheet(from) || noSheet(to)) {
            return -1;
        }
        Object a = sheets[from];
        Object b = sheets[to];
        if (a == null || b == null) {
            return -11;
        }
        if (laneOf(a) != laneOf(b)) {
            return -12;
        }
        if (n < 0 || i < 0 || j < 0 || (long) i + n > lengthOf(a) || (long) j + n > lengthOf(b)) {
            return -13;
        }
        Object ahead = laneOf(a) == 0 ? ((byte[]) a).clone() : laneOf(a) == 1 ? ((short[]) a).clone()
            : laneOf(a) == 2 ? ((int[]) a).clone() : ((long[]) a).clone();
        for (int d = 0; d < n; d++) {
            put(b, j + d, java.lang.reflect.Array.getLong(ahead, i + d));
        }
        return n;
    }

    @Override
    public String toString() {
        return Arrays.toString(new int[] {count(0), count(1), count(2), count(3), count(4), count(5), count(6)});
    }
}
