import java.lang.reflect.InvocationTargetException;
import java.lang.reflect.Method;
import java.util.Random;

/**
 * Every call with numbers at and beyond all bounds: the refusal that is due, in the order that its
 * promise tells, counted once, with nothing else changed; and nothing thrown.
 */
public final class RefusalsTest {
    private static final int[] NUMBERS = {
        Integer.MIN_VALUE, -1000000000, -10, -9, -3, -2, -1, 0, 1, 2, 3, 4, 5, 6, 7, 8, 9, 10, 11, 15, 16, 17,
        19, 20, 21, 59, 60, 61, 95, 96, 97, 98, 99, 100, 101, 254, 255, 256, 998, 999, 1000, Integer.MAX_VALUE};
    private static final int SMALL_FROM = 5;
    private static final int SMALL_TO = 14;
    private static final String[] GUILDS = {
        "", "wa35;", "wa35;s0;", "wp35;wg01;", "wa35;wd91;wt22;s1;", "wf17;wa35;wd91;wt22;wg44;wp55;x05;s3;",
        "wf17;wa35;wd91;wt22;wg44;wp55;wd00;x06;", "wf17;wa35;wd91;wt22;wg44;s0;s1;s2;s4;"};

    public static void main(String[] args) throws IllegalAccessException {
        Random random = new Random(11);
        for (Method call : FinishedByAnother.class.getDeclaredMethods()) {
            if (java.lang.reflect.Modifier.isPublic(call.getModifiers())) {
                for (int object = 0; object < 60 * (1 + call.getParameterCount()); object++) {
                    ask(call, random, GUILDS[object % GUILDS.length]);
                }
            }
        }
        Due.close("RefusalsTest");
    }

    private static void ask(Method call, Random random, String guild) throws IllegalAccessException {
        FinishedByAnother x = new FinishedByAnother();
        Due.told(x, guild);
        for (int i = random.nextInt(3); i > 0; i--) {
            x.years(60);
        }
        if (random.nextInt(2) == 0) {
            fill(x, call.getName());
        }
        if (random.nextInt(2) == 0) {
            x.image();
        }
        for (int i = 0; i < 6; i++) {
            Object[] numbers = new Object[call.getParameterCount()];
            for (int n = 0; n < numbers.length; n++) {
                numbers[n] = random.nextInt(3) == 0 ? NUMBERS[random.nextInt(NUMBERS.length)]
                    : NUMBERS[SMALL_FROM + random.nextInt(SMALL_TO - SMALL_FROM)];
            }
            askOnce(x, call, numbers);
        }
    }

    /** Brings one bound near: the year, the row, or the letters, as the call needs it. */
    private static void fill(FinishedByAnother x, String name) {
        if (name.equals("years")) {
            while (x.count(1) < 940) {
                x.years(1 + Math.min(59, 950 - x.count(1)));
            }
        } else if (name.equals("letter")) {
            for (int i = 0; i < 95; i++) {
                x.letter(i);
            }
        } else {
            for (int i = 0; i < 15; i++) {
                x.row(i);
            }
        }
    }

    private static void askOnce(FinishedByAnother x, Method call, Object[] numbers) throws IllegalAccessException {
        String told = call.getName() + java.util.Arrays.toString(numbers) + " with " + x.count(0);
        int refusal = refusal(x, call.getName(), numbers);
        int[] refusals = refusals(x);
        int[] state = state(x);
        long answer = 0;
        try {
            answer = ((Number) call.invoke(x, numbers)).longValue();
        } catch (InvocationTargetException thrown) {
            Due.holds(told + " threw " + thrown.getCause(), false);
        }
        if (refusal != 0) {
            Due.is(told, answer, asTold(call, refusal));
            Due.holds(told + " changed something", java.util.Arrays.equals(state(x), state));
        }
        for (int i = 0; i < 6; i++) {
            Due.is(told + ": count(" + (11 + i) + ")", x.count(11 + i), refusals[i] + (refusal == -1 - i ? 1 : 0));
        }
    }

    private static long asTold(Method call, int refusal) {
        if (call.getReturnType() == long.class) {
            return 4000000000000000000L - refusal;
        }
        return java.util.List.of("book", "ring", "page", "ender").contains(call.getName())
            ? 1000000000L - refusal : refusal;
    }

    private static int[] refusals(FinishedByAnother x) {
        int[] refusals = new int[6];
        for (int i = 0; i < 6; i++) {
            refusals[i] = x.count(11 + i);
        }
        return refusals;
    }

    private static int[] state(FinishedByAnother x) {
        int[] state = new int[8];
        for (int what = 0; what < 8; what++) {
            state[what] = x.count(what);
        }
        return state;
    }

    private static int refusal(FinishedByAnother x, String name, Object[] numbers) {
        int[] n = new int[5];
        for (int i = 0; i < numbers.length; i++) {
            n[i] = (Integer) numbers[i];
        }
        switch (name) {
            case "letter": return range(n[0], 0, x.count(7) >= 96 ? -1 : 255);
            case "writer": return first(who(x, n[0]), what(n[1], 6));
            case "place": return n[0] < 0 ? -4 : 0;
            case "book": return first(who(x, n[0]), what(n[1], 2), writes(x, n[0]));
            case "changes": return first(who(x, n[0]), who(x, n[1]), n[0] == n[1] ? -1 : 0);
            case "hushes":
            case "moves":
            case "chain":
            case "whoEnded": return who(x, n[0]);
            case "styles": return first(who(x, n[0]), range(n[1], 0, 9));
            case "famed":
            case "famous": return first(who(x, n[0]), range(n[1], 0, 99));
            case "turn": return first(who(x, n[0]), what(n[1], 5), range(n[2], 0, 9));
            case "years": return range(n[0], 1, Math.min(60, 999 - x.count(1)));
            case "fameThen":
            case "opensThen": return first(who(x, n[0]), range(n[1], 0, 60));
            case "read":
            case "first":
            case "same":
            case "mean": return what(n[0], 1);
            case "leads": return range(n[0], 0, 60);
            case "ring": return n[0] < -1 ? -4 : 0;
            case "ownBribe": return first(who(x, n[0]), writes(x, n[0]));
            case "page":
            case "ender": return first(who(x, n[0]), what(n[1], 1), writes(x, n[0]));
            case "ending": return range(n[0], 0, 9);
            case "two": return first(who(x, n[0]), who(x, n[1]), n[0] == n[1] ? -1 : 0, writes(x, n[0]), writes(x, n[1]));
            case "censor": return first(who(x, n[0]), n[1] < 0 || n[2] < 2 || n[3] < 0 ? -4 : 0,
                n[1] > 7 || n[2] > 20 || n[3] > 99 ? -6 : 0, what(n[4], 1));
            case "whatIs": return first(who(x, n[0]), what(n[1], 1));
            case "row": return range(n[0], 0, x.count(6) >= 16 ? -1 : 99);
            case "lots": return first(range(n[0], 1, 20), what(n[2], 1));
            case "on": return imageThere(x) ? 0 : -3;
            default: return 0;
        }
    }

    /** Asked of on() itself: that is the only call to tell it, and a second on() is as the first. */
    private static boolean imageThere(FinishedByAnother x) {
        return x.on() != -3;
    }

    private static int who(FinishedByAnother x, int w) {
        return w < 0 || w >= x.count(0) ? -1 : 0;
    }

    private static int writes(FinishedByAnother x, int w) {
        return w >= 0 && w < 31 && (x.count(2) >> w & 1) == 1 ? 0 : -3;
    }

    private static int what(int what, int most) {
        return what < 0 || what > most ? -2 : 0;
    }

    private static int range(int n, int least, int most) {
        return n < least ? -4 : n > most ? -6 : 0;
    }

    private static int first(int... refusals) {
        for (int refusal : refusals) {
            if (refusal != 0) {
                return refusal;
            }
        }
        return 0;
    }
}
