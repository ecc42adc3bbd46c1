/**
 * All that can be seen of an object, in five parts: the orchard as it is, what may be undone, the image, the tape, the sheets.
 * To see it all uses the object up, so a probe is made of a twin, or at the end.
 */
final class Probe {
    static final String PARTS = "OUITS";
    private static final int MOST_CALLS = 512;
    private static final String SIX = "9:0@99,9:1@99,9:2@99,9:3@99,9:4@99,9:5@99";

    private final OrchardLadders x = new OrchardLadders();
    private int calls;

    Probe(String... setUp) {
        for (String call : setUp) {
            ask(call);
        }
    }

    int ask(String call) {
        calls += Rows.callsOf(call);
        return Rows.answer(x, call);
    }

    /** What is seen, part by part; the letters are typed behind the tape, so that it can be read as an orchard. */
    String[] see(String letters) {
        String[] seen = new String[PARTS.length()];
        seen[0] = orchard();
        seen[1] = undone();
        seen[2] = ask("restore()") == 1 ? orchard() + undone() : "no image";
        seen[3] = tape(letters);
        seen[4] = sheets();
        Check.holds("no more than 512 calls: " + calls, calls <= MOST_CALLS);
        return seen;
    }

    private String orchard() {
        StringBuilder seen = new StringBuilder();
        for (int what = 0; what < 9; what++) {
            seen.append(ask("count(" + what + ")")).append(' ');
        }
        int trees = ask("count(0)");
        for (int t = 0; t < trees; t++) {
            seen.append("t");
            for (int what = 0; what < 3; what++) {
                seen.append(ask("of(" + t + ", " + what + ")")).append(' ');
            }
        }
        int ladders = ask("count(1)");
        for (int l = 0; l < ladders; l++) {
            seen.append("l");
            for (int what = 0; what < 4; what++) {
                seen.append(ask("at(" + l + ", " + what + ")")).append(' ');
            }
        }
        int draw = ask("seed(0)");
        ask("seed(" + draw + ")");
        return seen.append("draw ").append(draw).append("; ").toString();
    }

    private String undone() {
        StringBuilder seen = new StringBuilder("undo ").append(ask("count(9)"));
        int trees = ask("count(0)");
        int ladders = ask("count(1)");
        for (int more = ask("undo()"); more >= 0; more = ask("undo()")) {
            seen.append(", ").append(more).append(':');
            for (int what = 2; what < 6; what++) {
                seen.append(ask("count(" + what + ")")).append(' ');
            }
            for (int t = 0; t < trees; t++) {
                seen.append(ask("of(" + t + ", 1)")).append(' ');
            }
            for (int l = 0; l < ladders; l++) {
                seen.append(ask("at(" + l + ", 3)")).append(' ');
            }
            seen.append(ask("seed(0)"));
        }
        return seen.append("; ").toString();
    }

    private String tape(String letters) {
        int typed = ask("letters " + letters);
        return typed + " letters: " + ask("orchard()") + ": " + orchard();
    }

    private String sheets() {
        ask("text " + SIX);
        StringBuilder seen = new StringBuilder();
        for (int s = 0; s < 4; s++) {
            seen.append("sheet ").append(s);
            for (int lane = 0; lane < 4; lane++) {
                if (ask("item(" + s + ", " + lane + ", -1, 0)") == -13) {
                    seen.append(" lane ").append(lane).append(' ').append(items(s, lane));
                }
            }
            seen.append(" had ").append(ask("drop(" + s + ")")).append("; ");
        }
        return seen.toString();
    }

    private String items(int s, int lane) {
        StringBuilder seen = new StringBuilder();
        for (int i = 0; ask("left(0, " + s + ", " + lane + ", " + i + ", 1)") >= 0; i++) {
            char item = '?';
            for (int t = 0; t < 6 && item == '?'; t++) {
                if (ask("left(" + t + ", " + s + ", " + lane + ", " + i + ", 1)") == 32) {
                    item = (char) ('0' + t);
                }
            }
            seen.append(item);
        }
        return seen.toString();
    }
}
