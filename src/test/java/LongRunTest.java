import java.lang.management.ManagementFactory;

/**
 * An object is used for 512 calls: the last of them answers as the first, what is counted is counted up to
 * there, and no call takes room of its own.
 */
public final class LongRunTest {
    private static final int CALLS = 512;
    private static final String SEVEN = "wf17;wa35;wd91;wt22;wg44;wp55;wd00;x06;s3;";
    private static final int MOST_BYTES_OF_ONE = 16384;
    private static final int MOST_BYTES_OF_CALLS = 2048;

    public static void main(String[] args) {
        asking();
        refused();
        guilds();
        lettersOneByOne();
        rows();
        backAndForth();
        images();
        room();
        Due.close("LongRunTest");
    }

    /** Seven of them: their letters and guild() are calls, too. */
    private static FinishedByAnother seven() {
        return Due.guild(SEVEN);
    }

    private static void asking() {
        FinishedByAnother first = seven();
        for (String call : Calls.calls(first.count(0), first.count(2))) {
            FinishedByAnother x = seven();
            long due = Calls.ask(x, call);
            for (int i = SEVEN.length() + 3; i < CALLS; i++) {
                Calls.ask(x, call);
            }
            Due.is(call + ", the 512th call", Calls.ask(x, call), due);
        }
    }

    private static void refused() {
        String[] calls = {"writer 7 0", "read 2", "on", "place -1", "letter 256", "book 7 0", "ring -2", "mean 2"};
        int[] refusals = {-1, -2, -3, -4, -6, -1, -4, -2};
        for (int i = 0; i < calls.length; i++) {
            FinishedByAnother x = new FinishedByAnother();
            String call = calls[i];
            int refusal = refusals[i];
            for (int n = 1; n < CALLS; n++) {
                Due.is(call, Calls.ask(x, call), Calls.asTold(call, refusal));
            }
            Due.is(call + ", counted", x.count(10 - refusal), CALLS - 1);
        }
    }

    /** 102 times four letters and guild(). */
    private static void guilds() {
        FinishedByAnother x = new FinishedByAnother();
        for (int i = 1; i <= 102; i++) {
            Due.is("guild " + i, Due.told(x, "y03;"), 1);
        }
        Due.is("year", x.count(1), 306);
        Due.is("letters", x.count(7), 0);
    }

    /** 96 come, all others are refused, and at last they are a GUILD. */
    private static void lettersOneByOne() {
        FinishedByAnother x = new FinishedByAnother();
        for (int i = 0; i < CALLS - 2; i++) {
            Due.is("letter " + i, x.letter("y02;".charAt(i % 4)), i < 96 ? i + 1 : -6);
        }
        Due.is("guild of 96", x.guild(), 24);
        Due.is("year of 96", x.count(1), 48);
    }

    private static void rows() {
        FinishedByAnother x = seven();
        int calls = SEVEN.length() + 1;
        for (; calls + 20 < CALLS; calls += 20) {
            for (int i = 1; i <= 16; i++) {
                Due.is("row " + i, x.row(calls % 90 + i % 10), i);
            }
            Due.is("row full", x.row(0), -6);
            Due.is("count(6)", x.count(6), 16);
            if (calls % 40 == 0) {
                Due.is("clear", x.clear(), 16);
            } else {
                Due.holds("judge", x.judge() >= 0);
            }
            Due.is("none then", x.clear(), 0);
        }
    }

    private static void backAndForth() {
        FinishedByAnother x = seven();
        int fame = 50;
        int calls = SEVEN.length() + 1;
        for (int i = 0; calls + 4 < CALLS - 3; i++, calls += 4) {
            Due.is("hushes " + i, x.hushes(0), i % 2);
            Due.is("changes " + i, x.changes(1, 2), i % 2 == 0 ? 2 : 1);
            Due.is("famed " + i, x.famed(4, i % 100), fame);
            Due.is("styles " + i, x.styles(5, i % 10), i == 0 ? 5 : (i + 9) % 10);
            fame = i % 100;
        }
        Due.is("style at last", x.writer(5, 2), (calls - SEVEN.length() - 5) / 4 % 10);
        Due.is("fame at last", x.writer(4, 3), fame);
    }

    /** Each image is of the year that it is taken in, and on() from it is as often as it is asked. */
    private static void images() {
        FinishedByAnother x = seven();
        int year = 0;
        for (int calls = SEVEN.length() + 1; calls + 5 <= CALLS; calls += 5) {
            int fame = x.years(1);
            year++;
            Due.is("image in " + year, x.image(), year);
            x.years(60);
            Due.is("on to " + year, x.on(), year);
            Due.is("fame of " + year, x.count(3), fame);
        }
    }

    private static long bytes() {
        com.sun.management.ThreadMXBean threads = (com.sun.management.ThreadMXBean) ManagementFactory.getThreadMXBean();
        return threads.getThreadAllocatedBytes(Thread.currentThread().getId());
    }

    /** The first round has the machine load what it needs; the second one is measured. */
    private static void room() {
        long ofOne = 0;
        long ofCalls = 0;
        for (int round = 0; round < 2; round++) {
            long before = bytes();
            FinishedByAnother x = new FinishedByAnother();
            ofOne = bytes() - before;
            for (int i = 0; i < SEVEN.length(); i++) {
                x.letter(SEVEN.charAt(i));
            }
            before = bytes();
            x.guild();
            for (int i = 0; i < 15; i++) {
                allCalls(x, i % 7);
            }
            ofCalls = bytes() - before;
        }
        Due.holds("bytes of an object: " + ofOne, ofOne <= MOST_BYTES_OF_ONE);
        Due.holds("bytes of all calls: " + ofCalls, ofCalls <= MOST_BYTES_OF_CALLS);
    }

    private static long allCalls(FinishedByAnother x, int w) {
        int other = (w + 1) % 7;
        long sum = x.letter('y') + x.guild() + x.writer(w, 6) + x.place(w) + x.book(w, 2) + x.changes(w, other)
            + x.styles(w, 3) + x.famed(w, 40) + x.turn(w, w % 6, 5) + x.years(2) + x.fameThen(w, 60) + x.opensThen(w, 9);
        sum += x.worth() + x.well() + x.read(0) + x.famous(w, 99) + x.first(0) + x.leads(60) + x.ring(-1) + x.bribe()
            + x.ownBribe(w) + x.page(w, 0) + x.ender(w, 0) + x.hush() + x.moves(w) + x.mutual() + x.chain(w);
        sum += x.same(0) + x.ending(0) + x.join() + x.two(w, other) + x.censor(w, 7, 20, 60, 0) + x.mean(0) + x.row(5)
            + x.whoEnded(w) + x.whatIs(w, 0) + x.whatIs(w, 1) + x.judge() + x.clear() + x.lots(20, 7, 0) + x.image()
            + x.on() + x.hushes(other) + x.count(5);
        return sum;
    }
}
