import java.util.ArrayList;
import java.util.List;

/**
 * What a call answers, and what it changes, is of what there is alone: not of what was asked ahead of it,
 * of a guild that was told with a fault, or of what there was until on().
 */
public final class LeftoversTest {
    private static final String[] GUILDS = {
        "", "wa55;", "wa30;wa50;", "wa00;wa00;wa50;", "wf26;wa11;wg59;wp55;", "wa03;wa03;wa53;wa03;s0;s1;", "wg05;wt00;wg05;wt00;x12;",
        "wg05;wt13;wd27;wp40;wf38;x13;s3;y07;f004;f197;", "wg00;wt01;wd02;wp03;wf04;wa05;wa66;y09;x06;s5;f198;"};
    private static final String[] CHANGES = {
        "changes # +", "hushes #", "styles # 4", "famed # 7", "turn # 5 5"};

    public static void main(String[] args) {
        for (String guild : GUILDS) {
            FinishedByAnother fresh = made(guild);
            int size = fresh.count(0);
            List<String> calls = new ArrayList<>(Calls.calls(size, fresh.count(2)));
            refusedOnes(calls, size);
            changingOnes(calls, size);
            for (String call : calls) {
                for (int way = 0; way < 5; way++) {
                    asIfFresh(guild, way, call);
                }
            }
        }
        Due.close("LeftoversTest");
    }

    private static FinishedByAnother made(String guild) {
        return guild.isEmpty() ? new FinishedByAnother() : Due.guild(guild);
    }

    private static void refusedOnes(List<String> calls, int size) {
        for (int w = size; w <= 7; w++) {
            for (String call : List.of("writer # 0", "book # 0", "hushes #", "styles # 0", "famed # 0", "turn # 0 0",
                    "fameThen # 0", "opensThen # 0", "famous # 0", "ownBribe #", "page # 0", "ender # 0", "moves #",
                    "chain #", "censor # 0 2 0 0", "whoEnded #", "whatIs # 0", "changes # 0", "changes 0 #",
                    "two # 0", "two 0 #")) {
                calls.add(call.replace("#", "" + w));
            }
            calls.add("place " + w);
            calls.add("ring " + w);
        }
    }

    private static void changingOnes(List<String> calls, int size) {
        for (int w = 0; w < size; w++) {
            for (String call : CHANGES) {
                calls.add(call.replace("#", "" + w).replace("+", "" + (w + 1) % size));
            }
        }
        calls.addAll(List.of("years 1", "years 60", "row 5", "judge", "clear", "image", "letter 119", "guild", "count 3", "count 5"));
    }

    private static void asIfFresh(String guild, int way, String call) {
        FinishedByAnother fresh = made(guild);
        FinishedByAnother x = way == 4 ? madeByCalls(fresh) : made(guild);
        tellRow(fresh);
        tellRow(x);
        switch (way) {
            case 0:
                toldWithFault(x);
                break;
            case 1:
                comeBack(x);
                break;
            case 2:
                Calls.answers(x);
                break;
            case 3:
                x.ring(-1);
                break;
            default:
                break;
        }
        String when = guild + " in way " + way + ": " + call;
        Due.is(when, Calls.ask(x, call), Calls.ask(fresh, call));
        Due.same(when + ", then", Calls.state(x), Calls.state(fresh));
    }

    /** As the book of 0 is now and a year on, or else that nobody ends it. */
    private static void tellRow(FinishedByAnother x) {
        if (x.count(0) == 0 || x.writer(0, 4) == 0 || x.writer(0, 6) < 0) {
            x.row(10);
            return;
        }
        x.row(x.book(0, 0));
        x.row(x.book(0, 1));
        x.row((x.book(0, 0) + 1) % 10);
    }

    /** As many come with letters, and are made what the others are by calls alone. */
    private static FinishedByAnother madeByCalls(FinishedByAnother other) {
        int size = other.count(0);
        FinishedByAnother x = made("wd99;".repeat(size));
        if (other.count(1) > 0) {
            x.years(other.count(1));
        }
        for (int w = 0; w < size; w++) {
            x.turn(w, other.writer(w, 0), other.writer(w, 1));
            x.styles(w, other.writer(w, 2));
            x.famed(w, other.writer(w, 3));
            if (x.place(w) != other.place(w)) {
                x.changes(x.place(w), other.place(w));
            }
            if (other.writer(w, 4) == 0) {
                x.hushes(w);
            }
        }
        return x;
    }

    /** All of it goes ahead of the last STATEMENT, which names somebody who is not there. */
    private static void toldWithFault(FinishedByAnother x) {
        String text = otherwise(x.count(0));
        Due.is("fault of " + text, Due.told(x, text + "s9;"), -2000 - text.length());
    }

    private static void comeBack(FinishedByAnother x) {
        x.image();
        Due.holds("otherwise", Due.told(x, otherwise(x.count(0))) > 0);
        x.ring(-1);
        x.two(0, 1);
        x.censor(0, 7, 2, 50, 0);
        Due.is("come back", x.on(), x.count(1));
    }

    /** Seven of them, in another ring, otherwise in all that can be told of one. */
    private static String otherwise(int size) {
        StringBuilder text = new StringBuilder("y05;");
        for (int w = size; w < 7; w++) {
            text.append("wd99;");
        }
        for (int w = 0; w < size; w++) {
            text.append("t").append(w).append("8;f").append(w).append("00;");
        }
        return text.append("x01;x26;s0;s4;y17;").toString();
    }
}
