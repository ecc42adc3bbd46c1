import java.lang.reflect.InvocationTargetException;
import java.lang.reflect.Method;
import java.util.HashMap;
import java.util.Map;

/**
 * Runs of calls written as rows: "days(2) = 10" is a call and the answer that is due; "text 5:9@0 = 1" types a text and reads it
 * as an orchard; "letters 5:9@0" only types it. MIN, MAX are the ends of int, LMIN, LMAX those of long.
 */
final class Rows {
    private static final int MOST_CALLS = 512;
    private static final Map<String, Method> FACE = face();

    private Rows() {
    }

    private static Map<String, Method> face() {
        Map<String, Method> face = new HashMap<>();
        for (Method m : OrchardLadders.class.getMethods()) {
            if (m.getDeclaringClass() == OrchardLadders.class) {
                face.put(m.getName(), m);
            }
        }
        return face;
    }

    /** The rows on a new object that has read the text, if there is one. */
    static void run(String text, String... rows) {
        OrchardLadders x = text.isEmpty() ? new OrchardLadders() : Check.read(text);
        int calls = text.isEmpty() ? 0 : text.length() + 1;
        StringBuilder behind = new StringBuilder("\"" + text + "\"");
        for (String row : rows) {
            calls += callsOf(row);
            if (row.startsWith("letters ")) {
                answer(x, row);
            } else {
                int cut = row.lastIndexOf(" = ");
                String call = row.substring(0, cut);
                Check.due(behind + ": " + call, answer(x, call), Integer.parseInt(row.substring(cut + 3)));
            }
            behind.append(" ").append(row);
        }
        Check.holds("no more than 512 calls: " + behind, calls <= MOST_CALLS);
    }

    /** How many calls a row is: a text is one for each letter, and one more to read it. */
    static int callsOf(String row) {
        if (row.startsWith("letters ")) {
            return row.length() - 8;
        }
        if (row.startsWith("text ")) {
            int cut = row.lastIndexOf(" = ");
            return (cut < 0 ? row.length() : cut) - 4;
        }
        return 1;
    }

    static int answer(OrchardLadders x, String call) {
        if (call.startsWith("letters ")) {
            return letters(x, call.substring(8));
        }
        if (call.startsWith("text ")) {
            return Check.readInto(x, call.substring(5));
        }
        int open = call.indexOf('(');
        Method m = FACE.get(call.substring(0, open));
        String inside = call.substring(open + 1, call.length() - 1);
        String[] words = inside.isEmpty() ? new String[0] : inside.split(", ");
        Object[] numbers = new Object[words.length];
        for (int i = 0; i < words.length; i++) {
            long v = number(words[i]);
            if (m.getParameterTypes()[i] == long.class) {
                numbers[i] = v;
            } else {
                numbers[i] = Math.toIntExact(v);
            }
        }
        try {
            return (Integer) m.invoke(x, numbers);
        } catch (IllegalAccessException e) {
            throw new IllegalStateException(call, e);
        } catch (InvocationTargetException e) {
            throw new IllegalStateException(call + " threw " + e.getCause(), e);
        }
    }

    private static int letters(OrchardLadders x, String text) {
        int last = 0;
        for (int i = 0; i < text.length(); i++) {
            last = x.type(text.charAt(i));
        }
        return last;
    }

    private static long number(String word) {
        switch (word) {
            case "MIN":
                return Integer.MIN_VALUE;
            case "MAX":
                return Integer.MAX_VALUE;
            case "LMIN":
                return Long.MIN_VALUE;
            case "LMAX":
                return Long.MAX_VALUE;
            default:
                return Long.parseLong(word);
        }
    }
}
