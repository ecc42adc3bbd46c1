import java.util.ArrayList;
import java.util.List;
import java.util.Random;

/** Random runs of calls, each answered by the class and by the plain model; the seed is fixed. */
public final class ModelTest {
    private static final int RUNS = 400, CALLS = 512;
    private static final String CALM = ":@,;=pdtwl 0123456789";

    private final Random random;
    private OrchardLadders x;
    private PlainOrchard y;
    private final List<String> told = new ArrayList<>();
    private boolean apart;

    private ModelTest(long seed) {
        random = new Random(seed);
    }

    public static void main(String[] args) {
        for (int run = 0; run < RUNS; run++) {
            Check.holds("run " + run + " is as the model's", new ModelTest(run).runs());
        }
        Check.end();
    }

    private boolean runs() {
        x = new OrchardLadders();
        y = new PlainOrchard();
        apart = false;
        for (int c = 0; c < CALLS && !apart; c++) {
            if (random.nextInt(40) == 0 || c == 0 && random.nextInt(4) != 0) {
                text();
            } else {
                call();
            }
        }
        return !apart;
    }

    private void same(String call, int got, int due) {
        told.add(call + " = " + due);
        if (got != due && !apart) {
            apart = true;
            for (String row : told) {
                System.out.println("    " + row);
            }
            System.out.println(call + " answered " + got + ", due is " + due);
        }
    }

    private int upTo(int least, int most) {
        return least + random.nextInt(most - least + 1);
    }

    /** Mostly within, at times just outside or far off. */
    private int near(int least, int most) {
        int way = random.nextInt(60);
        if (way == 0) {
            return least - 1;
        }
        if (way == 1) {
            return most + 1;
        }
        if (way == 2) {
            return random.nextInt();
        }
        if (way == 3) {
            return random.nextBoolean() ? Integer.MIN_VALUE : Integer.MAX_VALUE;
        }
        return upTo(least, most);
    }

    private int someTree() {
        return near(0, Math.max(0, y.count(0) - 1));
    }

    private int someLadder() {
        return near(0, Math.max(0, y.count(1) - 1));
    }

    private void text() {
        StringBuilder text = new StringBuilder();
        int trees = upTo(1, random.nextInt(20) == 0 ? 7 : 6);
        for (int t = 0; t < trees; t++) {
            text.append(t == 0 ? "" : ",").append(upTo(1, 12)).append(":").append(upTo(0, 99)).append("@").append(upTo(0, 9));
        }
        int ladders = upTo(0, random.nextInt(20) == 0 ? 5 : 4);
        for (int l = 0; l < ladders; l++) {
            text.append(l == 0 ? ";" : ",").append("pdtwl".charAt(random.nextInt(5))).append(upTo(1, 9)).append(upTo(0, 9));
            if (random.nextInt(3) != 0) {
                text.append("=").append(upTo(0, trees - 1));
            }
        }
        if (random.nextInt(3) == 0) {
            for (int change = upTo(1, 2); change > 0; change--) {
                int place = random.nextInt(text.length());
                char letter = CALM.charAt(random.nextInt(CALM.length()));
                if (random.nextBoolean()) {
                    text.setCharAt(place, letter);
                } else {
                    text.insert(place, random.nextBoolean() ? ' ' : letter);
                }
            }
        }
        if (random.nextInt(12) == 0) {
            text.setLength(random.nextInt(text.length() + 1));
        }
        for (int i = 0; i < text.length(); i++) {
            same("type " + text.charAt(i), x.type(text.charAt(i)), y.type(text.charAt(i)));
        }
        same("orchard()", x.orchard(), y.orchard());
    }

    private void call() {
        int a = random.nextInt(100);
        if (a < 30) {
            look();
        } else if (a < 55) {
            act();
        } else if (a < 80) {
            foretell();
        } else {
            sheets();
        }
    }

    private void look() {
        int t = someTree(), l = someLadder(), of = near(0, 4), at = near(0, 5), what = near(0, 9);
        same("of(" + t + ", " + of + ")", x.of(t, of), y.of(t, of));
        same("at(" + l + ", " + at + ")", x.at(l, at), y.at(l, at));
        same("count(" + what + ")", x.count(what), y.count(what));
    }

    private void act() {
        int t = random.nextInt(4) == 0 ? -4 : someTree(), l = someLadder();
        int n = random.nextInt(12) == 0 ? near(1, 40) : upTo(1, 3);
        switch (random.nextInt(14)) {
            case 0: {
                int h = near(1, 20), f = near(0, 99), r = near(0, random.nextBoolean() ? 9 : 99);
                same("tree(" + h + ", " + f + ", " + r + ")", x.tree(h, f, r), y.tree(h, f, r));
                break;
            }
            case 1: {
                int k = near(0, 4), len = near(1, 9), p = near(0, 9);
                same("ladder(" + k + ", " + len + ", " + p + ")", x.ladder(k, len, p), y.ladder(k, len, p));
                break;
            }
            case 2: {
                int what = near(0, 1), v = what == 0 ? near(1, 30) : near(0, 9);
                same("rule(" + what + ", " + v + ")", x.rule(what, v), y.rule(what, v));
                break;
            }
            case 3:
            case 4:
                same("days(" + n + ")", x.days(n), y.days(n));
                break;
            case 5:
            case 6:
            case 7:
                same("lean(" + l + ", " + t + ")", x.lean(l, t), y.lean(l, t));
                break;
            case 8:
                same("shake(" + t + ")", x.shake(t), y.shake(t));
                break;
            case 9:
                same("drift(" + n + ")", x.drift(n), y.drift(n));
                break;
            case 10:
                same("undo()", x.undo(), y.undo());
                break;
            case 11: {
                int v = random.nextInt();
                same("seed(" + v + ")", x.seed(v), y.seed(v));
                break;
            }
            case 12:
                same("image()", x.image(), y.image());
                break;
            default:
                same("restore()", x.restore(), y.restore());
        }
    }

    private void foretell() {
        int t = someTree(), l = someLadder(), n = near(0, 60);
        switch (random.nextInt(9)) {
            case 0: {
                int what = near(0, 2);
                same("ahead(" + n + ", " + what + ")", x.ahead(n, what), y.ahead(n, what));
                break;
            }
            case 1:
                same("fruit(" + t + ", " + n + ")", x.fruit(t, n), y.fruit(t, n));
                break;
            case 2:
                same("reached(" + t + ", " + n + ")", x.reached(t, n), y.reached(t, n));
                break;
            case 3:
                same("gathered()", x.gathered(), y.gathered());
                break;
            case 4: {
                int m = near(1, 14), which = random.nextInt(3) == 0 ? -4 : l;
                same("plan(" + m + ", " + which + ")", x.plan(m, which), y.plan(m, which));
                break;
            }
            case 5: {
                int m = near(1, 4), k = near(-1, 4);
                same("round(" + l + ", " + m + ", " + k + ")", x.round(l, m, k), y.round(l, m, k));
                break;
            }
            case 6:
                same("longer(" + l + ", " + t + ")", x.longer(l, t), y.longer(l, t));
                break;
            case 7: {
                int g = near(1, random.nextInt(3) == 0 ? 999 : 120);
                same("larger(" + n + ", " + g + ")", x.larger(n, g), y.larger(n, g));
                break;
            }
            default: {
                int g = near(0, random.nextInt(3) == 0 ? 150 : 25), c = near(0, 10), what = near(0, 1);
                same("luck(" + g + ", " + c + ", " + what + ")", x.luck(g, c, what), y.luck(g, c, what));
            }
        }
    }

    private void sheets() {
        int s = near(0, 3), lane = random.nextInt(10) == 0 ? near(0, 3) : s % 2, i = near(0, random.nextInt(4) == 0 ? 24 : 6);
        int t = someTree(), n = near(1, 8);
        switch (random.nextInt(8)) {
            case 0:
            case 1: {
                int size = random.nextBoolean() ? near(0, 24) : 16;
                same("sheet(" + s + ", " + lane + ", " + size + ")", x.sheet(s, lane, size), y.sheet(s, lane, size));
                break;
            }
            case 2:
                if (random.nextInt(3) == 0) {
                    same("drop(" + s + ")", x.drop(s), y.drop(s));
                }
                break;
            case 3: {
                long v = random.nextBoolean() ? random.nextLong() : random.nextInt(99);
                same("item(" + s + ", " + lane + ", " + i + ", " + v + ")", x.item(s, lane, i, v), y.item(s, lane, i, v));
                break;
            }
            case 4: {
                int to = near(0, 3), j = near(0, 6);
                same("copy(" + s + ", " + i + ", " + to + ", " + j + ", " + n + ")", x.copy(s, i, to, j, n), y.copy(s, i, to, j, n));
                break;
            }
            default: {
                int f = random.nextInt(4) == 0 ? near(1, 24) : n;
                same("film(" + t + ", " + f + ", " + s + ", " + lane + ", " + i + ")", x.film(t, f, s, lane, i), y.film(t, f, s, lane, i));
                same("left(" + t + ", " + s + ", " + lane + ", " + i + ", " + n + ")", x.left(t, s, lane, i, n), y.left(t, s, lane, i, n));
            }
        }
    }
}
