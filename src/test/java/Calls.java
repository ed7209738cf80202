import java.lang.reflect.InvocationTargetException;
import java.lang.reflect.Method;
import java.lang.reflect.Modifier;
import java.util.ArrayList;
import java.util.HashMap;
import java.util.LinkedHashMap;
import java.util.List;
import java.util.Map;
import java.util.Set;

/** Calls told as text ("censor 0 7 20 99 1"), and all that an object answers to the calls that only ask. */
final class Calls {
    private static final Map<String, Method> METHODS = new HashMap<>();
    private static final Set<String> BIG = Set.of("book", "ring", "page", "ender");
    private static final Set<String> LONG = Set.of("censor", "mean");
    private static final List<String> OF_ALL = List.of("worth", "well", "read 0", "read 1", "first 0", "first 1",
        "leads 0", "leads 60", "ring -1", "bribe", "hush", "mutual", "same 0", "same 1", "ending 0", "ending 5",
        "ending 9", "join", "mean 0", "mean 1", "lots 1 -1 0", "lots 20 77 0", "lots 20 77 1");
    private static final List<String> OF_ONE = List.of("place #", "writer # 0", "writer # 1", "writer # 2",
        "writer # 3", "writer # 4", "writer # 5", "writer # 6", "ring #", "fameThen # 1", "fameThen # 60",
        "opensThen # 60", "famous # 60", "famous # 99", "moves #", "chain #", "censor # 2 3 50 0",
        "censor # 7 2 60 0", "whoEnded #", "whatIs # 0", "whatIs # 1");
    private static final List<String> OF_A_BOOK = List.of("book # 0", "book # 1", "book # 2", "ownBribe #",
        "page # 0", "page # 1", "ender # 0", "ender # 1");

    static {
        for (Method method : FinishedByAnother.class.getDeclaredMethods()) {
            if (Modifier.isPublic(method.getModifiers())) {
                METHODS.put(method.getName(), method);
            }
        }
    }

    private Calls() {
    }

    static long ask(FinishedByAnother x, String call) {
        String[] words = call.trim().split(" +");
        Object[] numbers = new Object[words.length - 1];
        for (int i = 0; i < numbers.length; i++) {
            numbers[i] = number(words[i + 1]);
        }
        try {
            return ((Number) METHODS.get(words[0]).invoke(x, numbers)).longValue();
        } catch (InvocationTargetException thrown) {
            Due.holds(call + " threw " + thrown.getCause(), false);
            return 0;
        } catch (IllegalAccessException hidden) {
            throw new IllegalStateException(hidden);
        }
    }

    private static int number(String word) {
        switch (word) {
            case "MIN": return Integer.MIN_VALUE;
            case "MAX": return Integer.MAX_VALUE;
            default: return Integer.parseInt(word);
        }
    }

    static Set<String> names() {
        return METHODS.keySet();
    }

    /** How the call tells a refusal. */
    static long asTold(String call, int refusal) {
        String name = call.trim().split(" +")[0];
        if (LONG.contains(name)) {
            return 4000000000000000000L - refusal;
        }
        return BIG.contains(name) ? 1000000000L - refusal : refusal;
    }

    /** What it answers to the calls that only ask; none of them is refused. */
    static Map<String, Long> answers(FinishedByAnother x) {
        Map<String, Long> answers = new LinkedHashMap<>();
        for (int what = 0; what <= 17; what++) {
            answers.put("count " + what, (long) x.count(what));
        }
        for (String call : calls(x.count(0), x.count(2))) {
            answers.put(call, ask(x, call));
        }
        return answers;
    }

    /** What it holds: the guild, how long the row is, how many letters there are. */
    static Map<String, Long> state(FinishedByAnother x) {
        Map<String, Long> state = new LinkedHashMap<>();
        for (int what = 0; what <= 7; what++) {
            state.put("count " + what, (long) x.count(what));
        }
        for (int w = 0; w < x.count(0); w++) {
            state.put("place " + w, (long) x.place(w));
            for (int what = 0; what <= 6; what++) {
                state.put("writer " + w + " " + what, (long) x.writer(w, what));
            }
        }
        return state;
    }

    /** The calls that only ask, as they are not refused with so many WRITERS, of whom these (bits) are WRITING. */
    static List<String> calls(int size, int writing) {
        List<String> calls = new ArrayList<>(OF_ALL);
        for (int w = 0; w < size; w++) {
            for (String call : OF_ONE) {
                calls.add(call.replace("#", "" + w));
            }
            if ((writing >> w & 1) == 0) {
                continue;
            }
            for (String call : OF_A_BOOK) {
                calls.add(call.replace("#", "" + w));
            }
            int other = (w + 1) % size;
            if (other != w && (writing >> other & 1) == 1) {
                calls.add("two " + w + " " + other);
            }
        }
        calls.add("place " + size);
        calls.add("ring " + size);
        return calls;
    }
}
