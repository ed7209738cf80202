import java.util.Map;
import java.util.Set;
import java.util.TreeSet;

/**
 * Each call at the least and the greatest number that it takes, and at the next one beyond each. A line
 * "call : r" is refused with r, which counts one more of r and changes nothing else; "call = n" is taken
 * and answers n; a bare "call" is taken. What else changed is asked of a twin without the call.
 */
public final class EdgesTest {
    private static final String NOBODY = """
        letter -1 : -4
        letter 256 : -6
        letter 0 = 1
        letter 255 = 1
        guild = -1000
        writer 0 0 : -1
        writer 0 7 : -1
        place -1 : -4
        place 0 = -9
        book 0 0 : -1
        book 0 3 : -1
        changes 0 1 : -1
        changes 0 0 : -1
        hushes 0 : -1
        styles 0 0 : -1
        styles 0 10 : -1
        famed 0 0 : -1
        famed 0 -1 : -1
        turn 0 0 0 : -1
        turn 0 6 10 : -1
        years 0 : -4
        years 1 = 0
        years 60 = 0
        years 61 : -6
        fameThen 0 0 : -1
        opensThen 0 0 : -1
        worth = 0
        well = 0
        read 0 = -9
        read 1 = -9
        read 2 : -2
        famous 0 0 : -1
        first 0 = -9
        first 1 = -9
        first 2 : -2
        leads 0 = -9
        leads 60 = -9
        leads 61 : -6
        ring -1 = 0
        ring 0 = -9
        ring -2 : -4
        bribe = -9
        ownBribe 0 : -1
        page 0 0 : -1
        ender 0 0 : -1
        hush = -9
        moves 0 : -1
        mutual = 0
        chain 0 : -1
        same 0 = 0
        same 1 = -9
        ending 0 = 0
        ending 9 = 0
        join = -9
        two 0 1 : -1
        censor 0 0 2 0 0 : -1
        censor 0 -1 1 -1 2 : -1
        mean 0 = 0
        mean 1 = 1
        mean 2 : -2
        whoEnded 0 : -1
        whatIs 0 0 : -1
        whatIs 0 2 : -1
        row 0 = 1
        row 99 = 1
        row -1 : -4
        row 100 : -6
        judge = -9
        clear = 0
        lots 1 0 0 = 0
        lots 20 MIN 1 = 0
        lots 0 0 0 : -4
        lots 21 0 0 : -6
        image = 0
        on : -3
        count 0 = 0
        count 7 = 0
        count 8 = -9
        """;

    private static final String ALONE = """
        writer 0 6 = -9
        writer 1 6 : -1
        place 0 = 0
        place 1 = -9
        book 0 0 = 5
        book 0 1 = -9
        book 0 2 = 0
        changes 0 0 : -1
        changes 0 1 : -1
        years 60 = 50
        famous 0 50 = 0
        famous 0 51 = -9
        first 0 = -9
        leads 60 = 0
        well = 0
        read 0 = -9
        read 1 = -9
        ring -1 = 0
        ring 0 = 0
        ring 1 = -9
        bribe = -9
        ownBribe 0 = -9
        page 0 0 = 0
        page 0 1 = 0
        ender 0 0 = -9
        ender 0 1 = 0
        hush = -9
        moves 0 = 0
        mutual = 0
        chain 0 = 0
        same 0 = 0
        ending 5 = 0
        join = -9
        two 0 0 : -1
        two 0 1 : -1
        censor 0 7 2 50 0 = 1
        censor 0 7 2 50 1 = 1
        censor 0 7 2 51 0 = 0
        censor 0 7 2 51 1 = 1
        mean 0 = 50
        mean 1 = 1
        whoEnded 0 = 0
        whatIs 0 0 = 0
        whatIs 0 1 = 0
        lots 20 9 0 = 1000
        lots 20 9 1 = 0
        on : -3
        """;

    /**
     * The ring is 0 3 2 1 4, 3 is silent. In year 7 book 0 opens with 2 and ends with 0 by 2, book 2 with 4
     * and 5 by 1, book 1 with 0 and 6 by 4, book 4 with 5 and 0 by 0: they are worth 5, 7, 1, -1.
     */
    private static final String USUAL_GUILD = "wg05;wt13;wd27;wp40;wf38;x13;s3;y04;f004;f197;f250;f350;f450;";
    private static final String USUAL = """
        letter 0 = 4
        letter 255 = 4
        letter -1 : -4
        letter MIN : -4
        letter 256 : -6
        letter MAX : -6
        guild = -1003
        writer 0 0 = 2
        writer 4 0 = 4
        writer 0 6 = 2
        writer 3 4 = 0
        writer 3 6 = 2
        writer 4 6 = 0
        writer 5 0 : -1
        writer -1 0 : -1
        writer MIN 0 : -1
        writer MAX 0 : -1
        writer 5 7 : -1
        writer 0 7 : -2
        writer 0 -1 : -2
        writer 0 MIN : -2
        writer 0 MAX : -2
        place 0 = 0
        place 4 = 4
        place 5 = -9
        place MAX = -9
        place -1 : -4
        place MIN : -4
        book 0 0 = 2
        book 0 1 = 0
        book 0 2 = 5
        book 4 0 = 5
        book 4 2 = -1
        book 5 0 : -1
        book -1 0 : -1
        book MAX 0 : -1
        book MIN 0 : -1
        book 5 3 : -1
        book 0 3 : -2
        book 0 -1 : -2
        book 0 MAX : -2
        book 3 3 : -2
        book 3 -1 : -2
        book 3 0 : -3
        book 3 2 : -3
        changes 0 4 = 4
        changes 4 0 = 0
        changes 3 0 = 0
        changes 0 0 : -1
        changes 5 0 : -1
        changes 0 5 : -1
        changes -1 0 : -1
        changes 0 -1 : -1
        changes MIN MAX : -1
        changes 5 5 : -1
        hushes 0 = 0
        hushes 4 = 0
        hushes 3 = 1
        hushes 5 : -1
        hushes -1 : -1
        hushes MAX : -1
        hushes MIN : -1
        styles 0 0 = 5
        styles 4 9 = 8
        styles 3 5 = 0
        styles 5 0 : -1
        styles -1 0 : -1
        styles 5 10 : -1
        styles -1 -1 : -1
        styles 0 -1 : -4
        styles 0 MIN : -4
        styles 0 10 : -6
        styles 0 MAX : -6
        famed 0 0 = 4
        famed 1 99 = 97
        famed 3 99 = 50
        famed 5 0 : -1
        famed -1 100 : -1
        famed 5 -1 : -1
        famed 0 -1 : -4
        famed 0 MIN : -4
        famed 0 100 : -6
        famed 0 MAX : -6
        turn 0 0 0 = 20
        turn 4 5 9 = 43
        turn 3 5 0 = 14
        turn 5 0 0 : -1
        turn -1 0 0 : -1
        turn 5 6 -1 : -1
        turn 0 6 0 : -2
        turn 0 -1 0 : -2
        turn 0 6 -1 : -2
        turn 0 -1 10 : -2
        turn 0 MAX 0 : -2
        turn 0 MIN 0 : -2
        turn 0 0 -1 : -4
        turn 0 5 MIN : -4
        turn 0 0 10 : -6
        turn 0 5 MAX : -6
        years 1
        years 60
        years 0 : -4
        years -1 : -4
        years MIN : -4
        years 61 : -6
        years MAX : -6
        fameThen 0 0 = 4
        fameThen 3 60 = 50
        fameThen 4 60
        fameThen 5 0 : -1
        fameThen -1 61 : -1
        fameThen 5 -1 : -1
        fameThen 0 -1 : -4
        fameThen 0 MIN : -4
        fameThen 0 61 : -6
        fameThen 0 MAX : -6
        opensThen 0 0 = 2
        opensThen 0 7 = 9
        opensThen 0 8 = 0
        opensThen 0 60 = 2
        opensThen 3 60 = 7
        opensThen 5 0 : -1
        opensThen -1 -1 : -1
        opensThen 5 61 : -1
        opensThen 0 -1 : -4
        opensThen 0 MIN : -4
        opensThen 0 61 : -6
        opensThen 0 MAX : -6
        worth = 12
        well = 5
        read 0 = 2
        read 1 = 4
        read 2 : -2
        read -1 : -2
        read MAX : -2
        read MIN : -2
        famous 0 0 = 0
        famous 0 4 = 0
        famous 1 97 = 0
        famous 3 51 = -9
        famous 0 99
        famous 5 0 : -1
        famous -1 100 : -1
        famous 5 -1 : -1
        famous 0 -1 : -4
        famous 0 MIN : -4
        famous 0 100 : -6
        famous 0 MAX : -6
        first 0
        first 1
        first 2 : -2
        first -1 : -2
        first MAX : -2
        first MIN : -2
        leads 0 = 1
        leads 60
        leads -1 : -4
        leads MIN : -4
        leads 61 : -6
        leads MAX : -6
        ring -1
        ring 0 = 0
        ring 4
        ring 5 = -9
        ring MAX = -9
        ring -2 : -4
        ring MIN : -4
        bribe
        ownBribe 0
        ownBribe 4
        ownBribe 5 : -1
        ownBribe -1 : -1
        ownBribe MAX : -1
        ownBribe MIN : -1
        ownBribe 3 : -3
        page 0 0
        page 0 1
        page 5 0 : -1
        page -1 2 : -1
        page 5 -1 : -1
        page 0 2 : -2
        page 0 -1 : -2
        page 3 2 : -2
        page 3 -1 : -2
        page 3 0 : -3
        page 3 1 : -3
        ender 0 0
        ender 0 1
        ender 5 0 : -1
        ender -1 2 : -1
        ender 5 -1 : -1
        ender 0 2 : -2
        ender 0 -1 : -2
        ender 3 2 : -2
        ender 3 -1 : -2
        ender 3 0 : -3
        ender 3 1 : -3
        hush
        moves 0 = 0
        moves 4 = 4
        moves 3 = 1
        moves 5 : -1
        moves -1 : -1
        moves MAX : -1
        moves MIN : -1
        mutual = 0
        chain 0 = 4
        chain 4 = 4
        chain 3 = 0
        chain 5 : -1
        chain -1 : -1
        chain MAX : -1
        chain MIN : -1
        same 0 = 0
        same 1 = -9
        same 2 : -2
        same -1 : -2
        same MAX : -2
        same MIN : -2
        ending 0 = 2
        ending 6 = 1
        ending 9 = 0
        ending -1 : -4
        ending MIN : -4
        ending 10 : -6
        ending MAX : -6
        join = 4
        two 0 1
        two 4 0
        two 0 0 : -1
        two 3 3 : -1
        two 5 0 : -1
        two 0 5 : -1
        two -1 0 : -1
        two 0 -1 : -1
        two 3 5 : -1
        two 5 3 : -1
        two MIN MAX : -1
        two 0 3 : -3
        two 3 0 : -3
        censor 0 0 2 0 0 = 1
        censor 0 0 2 0 1 = 1
        censor 0 0 2 4 0 = 1
        censor 0 0 2 5 0 = 0
        censor 0 0 2 99 1 = 1
        censor 0 7 20 99 0
        censor 0 7 20 99 1
        censor 4 7 2 0 0 = 1
        censor 3 7 20 50 0 = 1
        censor 3 7 20 51 0 = 0
        censor 5 0 2 0 0 : -1
        censor -1 0 2 0 0 : -1
        censor 5 -1 2 0 0 : -1
        censor 5 8 2 0 0 : -1
        censor 5 0 2 0 2 : -1
        censor 0 -1 2 0 0 : -4
        censor 0 MIN 2 0 0 : -4
        censor 0 0 1 0 0 : -4
        censor 0 0 0 0 0 : -4
        censor 0 0 MIN 0 0 : -4
        censor 0 0 2 -1 0 : -4
        censor 0 0 2 MIN 0 : -4
        censor 0 -1 21 100 2 : -4
        censor 0 8 1 100 2 : -4
        censor 0 8 21 -1 2 : -4
        censor 0 8 2 0 0 : -6
        censor 0 MAX 2 0 0 : -6
        censor 0 0 21 0 0 : -6
        censor 0 0 MAX 0 0 : -6
        censor 0 0 2 100 0 : -6
        censor 0 0 2 MAX 0 : -6
        censor 0 8 2 0 2 : -6
        censor 0 0 21 0 2 : -6
        censor 0 0 2 100 -1 : -6
        censor 0 0 2 0 2 : -2
        censor 0 0 2 0 -1 : -2
        censor 0 0 2 0 MAX : -2
        censor 0 0 2 0 MIN : -2
        mean 0 = 251
        mean 1 = 5
        mean 2 : -2
        mean -1 : -2
        mean MAX : -2
        mean MIN : -2
        whoEnded 0
        whoEnded 3
        whoEnded 4
        whoEnded 5 : -1
        whoEnded -1 : -1
        whoEnded MAX : -1
        whoEnded MIN : -1
        whatIs 0 0
        whatIs 3 1
        whatIs 4 1
        whatIs 5 0 : -1
        whatIs -1 0 : -1
        whatIs 5 2 : -1
        whatIs -1 -1 : -1
        whatIs 0 2 : -2
        whatIs 0 -1 : -2
        whatIs 3 MAX : -2
        whatIs 3 MIN : -2
        row 0 = 4
        row 99 = 4
        row -1 : -4
        row MIN : -4
        row 100 : -6
        row MAX : -6
        judge = -9
        clear = 3
        lots 1 0 0
        lots 1 MIN 1
        lots 20 MAX 0
        lots 20 0 1
        lots 0 0 0 : -4
        lots -1 0 2 : -4
        lots MIN 0 -1 : -4
        lots 21 0 0 : -6
        lots MAX 0 2 : -6
        lots 21 0 -1 : -6
        lots 1 0 2 : -2
        lots 20 0 -1 : -2
        lots 1 0 MAX : -2
        lots 1 0 MIN : -2
        image = 7
        on = 3
        count -1 = -9
        count 0 = 5
        count 1 = 7
        count 2 = 23
        count 3 = 251
        count 4 = 23
        count 5 = 2
        count 6 = 3
        count 7 = 3
        count 8 = -9
        count 10 = -9
        count 11 = 0
        count 16 = 0
        count 17 = -9
        count MAX = -9
        count MIN = -9
        """;

    private static final String FULL = """
        writer 6 6 = 0
        writer 7 0 : -1
        place 6 = 6
        place 7 = -9
        book 6 0 = 5
        book 7 0 : -1
        changes 0 6 = 6
        changes 0 7 : -1
        hushes 6 = 0
        hushes 7 : -1
        styles 6 0 = 6
        styles 7 0 : -1
        famed 6 0 = 50
        famed 7 0 : -1
        turn 6 0 0 = 6
        turn 7 0 0 : -1
        years 0 : -4
        years 1 : -6
        years 60 : -6
        years 61 : -6
        years MAX : -6
        fameThen 6 60
        fameThen 7 60 : -1
        opensThen 6 0 = 5
        opensThen 6 60 = 5
        opensThen 7 0 : -1
        famous 6 99
        famous 7 99 : -1
        leads 60
        first 1
        ring 6
        ring 7 = -9
        ownBribe 6
        ownBribe 7 : -1
        page 6 0
        page 7 0 : -1
        ender 6 0
        ender 7 0 : -1
        moves 6 = 6
        moves 7 : -1
        chain 6 = 7
        chain 7 : -1
        two 6 0
        two 6 7 : -1
        censor 6 7 20 99 1
        censor 7 0 2 0 0 : -1
        whoEnded 6 = 0
        whoEnded 7 : -1
        whatIs 6 0
        whatIs 7 0 : -1
        row 0 : -6
        row 99 : -6
        row 100 : -6
        row MAX : -6
        row -1 : -4
        row MIN : -4
        clear = 16
        judge = 0
        lots 20 0 0
        image = 999
        on = 999
        count 0 = 7
        count 1 = 999
        count 2 = 127
        count 6 = 16
        """;

    private static final String LATE = """
        years 1
        years 59
        years 0 : -4
        years 60 : -6
        years 61 : -6
        fameThen 0 60
        fameThen 0 61 : -6
        """;

    private static final String MANY_LETTERS = """
        letter 0 : -6
        letter 59 : -6
        letter 255 : -6
        letter 256 : -6
        letter MAX : -6
        letter -1 : -4
        letter MIN : -4
        guild = 24
        count 7 = 96
        """;

    private static final Set<String> CHANGING = Set.of("letter", "guild", "changes", "hushes", "styles", "famed",
        "turn", "years", "row", "judge", "clear", "image", "on");
    private static final Set<String> ASKED = new TreeSet<>();

    public static void main(String[] args) {
        everyLine("nobody", NOBODY);
        everyLine("alone", ALONE);
        everyLine("usual", USUAL);
        everyLine("full", FULL);
        everyLine("late", LATE);
        everyLine("many letters", MANY_LETTERS);
        Due.holds("every call is asked, not only " + ASKED, ASKED.equals(Calls.names()));
        Due.close("EdgesTest");
    }

    private static FinishedByAnother made(String state) {
        FinishedByAnother x = new FinishedByAnother();
        switch (state) {
            case "alone":
                Due.told(x, "wa55;");
                break;
            case "usual":
                makeUsual(x);
                break;
            case "full":
                makeFull(x);
                break;
            case "late":
                pass(x, 940);
                Due.told(x, "wf17;wg39;");
                break;
            case "many letters":
                letters(x, "y01;".repeat(24));
                break;
            default:
                break;
        }
        return x;
    }

    /** With an image of nobody in year 3, with letters and a row that tells how books 0, 1, 2 end. */
    private static void makeUsual(FinishedByAnother x) {
        pass(x, 3);
        x.image();
        Due.told(x, USUAL_GUILD);
        Due.rowOf(x, 0, 6, 5);
        letters(x, "wp4");
    }

    private static void makeFull(FinishedByAnother x) {
        pass(x, 999);
        x.image();
        Due.told(x, "wg00;wt01;wd02;wp03;wf04;wa05;wa66;");
        for (int i = 0; i < 16; i++) {
            x.row(50);
        }
    }

    private static void pass(FinishedByAnother x, int years) {
        for (int left = years; left > 0; left -= 60) {
            x.years(Math.min(60, left));
        }
    }

    private static void letters(FinishedByAnother x, String text) {
        for (char c : text.toCharArray()) {
            x.letter(c);
        }
    }

    private static void everyLine(String state, String table) {
        for (String line : table.split("\n")) {
            String call = line.split("[:=]")[0].trim();
            ASKED.add(call.split(" ")[0]);
            if (line.contains(":")) {
                refused(state, call, Integer.parseInt(line.split(":")[1].trim()));
            } else {
                taken(state, call, line.contains("=") ? line.split("=")[1].trim() : "");
            }
        }
    }

    private static void refused(String state, String call, int refusal) {
        FinishedByAnother x = made(state);
        Due.is(state + ": " + call, Calls.ask(x, call), Calls.asTold(call, refusal));
        asTwin(state + ": " + call, x, made(state), refusal);
    }

    private static void taken(String state, String call, String answer) {
        FinishedByAnother x = made(state);
        long got = Calls.ask(x, call);
        if (!answer.isEmpty()) {
            Due.is(state + ": " + call, got, Long.parseLong(answer));
        }
        for (int what = 11; what <= 16; what++) {
            Due.is(state + ": " + call + " is taken: count " + what, x.count(what), 0);
        }
        if (!CHANGING.contains(call.split(" ")[0])) {
            asTwin(state + ": " + call, x, made(state), 0);
        }
    }

    /** One more of the refusal is counted; guild, row, letters and image are as without the call. */
    private static void asTwin(String when, FinishedByAnother x, FinishedByAnother twin, int refusal) {
        Map<String, Long> due = Calls.answers(twin);
        if (refusal != 0) {
            due.merge("count " + (10 - refusal), 1L, Long::sum);
        }
        Due.same(when, Calls.answers(x), due);
        for (String call : new String[] {"judge", "letter 53", "letter 59", "guild"}) {
            Due.is(when + ", then " + call, Calls.ask(x, call), Calls.ask(twin, call));
        }
        Due.same(when + ", then a guild", Calls.state(x), Calls.state(twin));
        Due.is(when + ", then on()", x.on(), twin.on());
        Due.same(when + ", then on", Calls.state(x), Calls.state(twin));
    }
}
