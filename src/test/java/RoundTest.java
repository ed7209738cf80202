/** Numbers that go round: what one OPENS with, what a book ENDS with, how far an end is, a DRAW's int. */
public final class RoundTest {
    private static final String[] ENDS = {
        "01234567890123456789", "98765432109876543210", "00000000000000000000", "55555555555555555555"};
    private static final int[] WORTHS = {9, 7, 5, 3, 1, -1, 1, 3, 5, 7};

    public static void main(String[] args) {
        opens();
        opensBehindTheLastYear();
        ends();
        worths();
        draws();
        asYearsOfTheSameLastDigit();
        Due.close("RoundTest");
    }

    private static void opens() {
        FinishedByAnother x = Due.guild("wg00;wg00;");
        for (int year = 0; year <= 12; year++) {
            for (int style = 0; style <= 9; style++) {
                x.styles(0, style);
                int last = ("" + (style + year)).charAt(("" + (style + year)).length() - 1) - '0';
                Due.is("style " + style + " in year " + year, x.book(0, 0), last);
                Due.is("style " + style + " now", x.opensThen(0, 0), last);
            }
            x.years(1);
        }
    }

    private static void opensBehindTheLastYear() {
        FinishedByAnother x = new FinishedByAnother();
        for (int i = 0; i < 16; i++) {
            x.years(60);
        }
        Due.told(x, "wg03;wg00;y39;");
        Due.is("3 in year 999", x.book(0, 0), 2);
        Due.is("0 in year 999", x.book(1, 0), 9);
        String digits = "2345678901";
        for (int n = 0; n <= 60; n++) {
            Due.is("3 in year " + (999 + n), x.opensThen(0, n), digits.charAt(n % 10) - '0');
        }
    }

    /** By all kinds with all figures, of all first pages. */
    private static void ends() {
        for (int opens = 0; opens <= 9; opens++) {
            FinishedByAnother x = Due.guild("wa0" + opens + ";wa00;");
            for (int figure = 0; figure <= 9; figure++) {
                for (int kind = 0; kind <= 3; kind++) {
                    endIs(x, kind, figure, opens, ENDS[kind].charAt(opens + figure) - '0');
                }
                endIs(x, 4, figure, opens, opens <= 4 ? ENDS[1].charAt(opens + figure) - '0' : opens);
                endIs(x, 5, figure, opens, "0909090909".charAt(opens) - '0');
            }
        }
    }

    private static void endIs(FinishedByAnother x, int kind, int figure, int opens, int end) {
        x.turn(1, kind, figure);
        String what = "kind " + kind + ", figure " + figure + ", first page " + opens;
        Due.is("end of " + what, x.book(0, 1), end);
        Due.is("worth of " + what, x.book(0, 2), WORTHS[(end - opens + 10) % 10]);
    }

    private static void worths() {
        for (int opens = 0; opens <= 9; opens++) {
            FinishedByAnother x = Due.guild("wa0" + opens + ";wa00;wa00;s2;");
            for (int figure = 0; figure <= 9; figure++) {
                x.turn(1, 0, figure);
                x.turn(2, 0, figure);
                String what = opens + " ended with " + (opens + figure) % 10;
                Due.is(what, x.book(0, 1), (opens + figure) % 10);
                Due.is(what + ": worth", x.book(0, 2), WORTHS[figure]);
                Due.is(what + ": best by him", x.ender(0, 1), WORTHS[figure]);
                Due.is(what + ": page", x.page(0, 1), WORTHS[figure]);
            }
        }
    }

    /**
     * Ten years bring as much whichever page they begin with, but where FAME is held: grudges, who lose 2
     * a year, go up and down at 99 and at 0, so that a first page drawn otherwise is seen.
     */
    private static void draws() {
        String text = "wg00;wg00;wg00;wg00;wt00;s4;y13;f099;f199;f200;f399;f400;";
        long[] seeds = {0, 1, -1, 2, 255, 256, -256, 1013904223, 123456789, -123456789, Integer.MAX_VALUE, Integer.MIN_VALUE};
        for (long z : seeds) {
            FinishedByAnother x = Due.guild(text);
            long seed = z;
            int fame = 0;
            int atNothing = 0;
            for (int n = 1; n <= 20; n++) {
                FinishedByAnother y = Due.guild(text);
                for (int w = 0; w < 5; w++) {
                    seed = goneRound(seed * 1664525L + 1013904223L);
                    long withoutSign = seed < 0 ? seed + 2147483648L : seed;
                    y.styles(w, (int) (withoutSign / 256 % 10));
                }
                fame += y.years(10);
                for (int w = 0; w < 5; w++) {
                    atNothing += y.writer(w, 3) == 0 ? 1 : 0;
                }
                Due.is("lots(" + n + ", " + z + ", 0)", x.lots(n, (int) z, 0), fame);
                Due.is("lots(" + n + ", " + z + ", 1)", x.lots(n, (int) z, 1), atNothing);
            }
        }
    }

    /** As an int is: from its greatest to its least. */
    private static long goneRound(long number) {
        long round = 4294967296L;
        long low = ((number % round) + round) % round;
        return low >= round / 2 ? low - round : low;
    }

    /** In thought YEAR may pass 999; with the same FAME only its last digit is seen. */
    private static void asYearsOfTheSameLastDigit() {
        String guild = "wg05;wt13;wd27;wp40;wf38;x13;s3;f004;f197;";
        FinishedByAnother x = new FinishedByAnother();
        for (int i = 0; i < 16; i++) {
            x.years(60);
        }
        x.years(39);
        FinishedByAnother early = new FinishedByAnother();
        early.years(9);
        Due.told(x, guild);
        Due.told(early, guild);
        java.util.Map<String, Long> due = Calls.answers(early);
        due.put("count 1", 999L);
        Due.same("in year 999 as in year 9", Calls.answers(x), due);
        for (FinishedByAnother one : new FinishedByAnother[] {x, early}) {
            Due.rowOf(one, 4, 0, 5, 9, 6, 0, 7, 9, 8, 0, 9, 9, 0, 0);
            Due.is("who ended, from year " + one.count(1) + " on", one.whoEnded(0), 4);
            Due.rowOf(one, one.fameThen(4, 0), one.fameThen(4, 1), one.fameThen(4, 2), one.fameThen(4, 3));
            Due.is("what one is, from year " + one.count(1) + " on", one.whatIs(4, 0) & 4, 4);
        }
    }
}
