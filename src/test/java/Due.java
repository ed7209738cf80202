import java.util.Map;

/** What the tests share: telling letters, and counting answers that are not as due. */
final class Due {
    private static int asked = 0;
    private static int wrong = 0;

    private Due() {
    }

    static void is(String call, long got, long want) {
        asked++;
        if (got != want) {
            wrong++;
            System.out.println(call + " answered " + got + ", due is " + want);
        }
    }

    static void holds(String what, boolean so) {
        is(what, so ? 1 : 0, 1);
    }

    /** All that two objects answered, call by call. */
    static void same(String when, Map<String, Long> got, Map<String, Long> want) {
        is(when + ": calls asked", got.size(), want.size());
        for (Map.Entry<String, Long> due : want.entrySet()) {
            Long answer = got.get(due.getKey());
            holds(when + ": " + due.getKey() + " is asked", answer != null);
            if (answer != null) {
                is(when + ": " + due.getKey(), answer, due.getValue());
            }
        }
    }

    static FinishedByAnother guild(String text) {
        FinishedByAnother x = new FinishedByAnother();
        int statements = 0;
        for (char c : text.toCharArray()) {
            statements += c == ';' ? 1 : 0;
        }
        is("guild of " + text, told(x, text), statements);
        return x;
    }

    static int told(FinishedByAnother x, String text) {
        for (char c : text.toCharArray()) {
            x.letter(c);
        }
        return x.guild();
    }

    static void rowOf(FinishedByAnother x, int... numbers) {
        x.clear();
        for (int number : numbers) {
            x.row(number);
        }
    }

    static void close(String test) {
        System.out.println(test + ": " + asked + " answers, " + wrong + " not as due");
        if (wrong != 0) {
            System.exit(1);
        }
    }
}
