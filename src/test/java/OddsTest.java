/** Promises 34 and 35: fractions. */
public final class OddsTest {
    private static final long REFUSED = 4000000000000000000L;

    public static void main(String[] args) {
        censor();
        yearsGoByUnderCensors();
        censorRefused();
        mean();
        Due.close("OddsTest");
    }

    private static void oddsAre(FinishedByAnother x, int n, int t, int v, long above, long below) {
        String call = "censor(0, " + n + ", " + t + ", " + v + ", ";
        Due.is(call + "0)", x.censor(0, n, t, v, 0), above);
        Due.is(call + "1)", x.censor(0, n, t, v, 1), below);
    }

    private static void censor() {
        // 9 more in each year that is not censored
        FinishedByAnother x = Due.guild("wa00;wa00;");
        oddsAre(x, 0, 2, 50, 1, 1);
        oddsAre(x, 0, 2, 51, 0, 1);
        oddsAre(x, 1, 2, 59, 1, 2);
        oddsAre(x, 1, 2, 60, 0, 1);
        oddsAre(x, 1, 20, 59, 19, 20);
        oddsAre(x, 2, 3, 59, 8, 9);
        oddsAre(x, 2, 3, 68, 4, 9);
        oddsAre(x, 7, 20, 50, 1, 1);
        // 99 with 6 or 7 of the 7 free: 8 of 128
        oddsAre(x, 7, 2, 99, 1, 16);
        oddsAre(x, 7, 20, 51, 1279999999L, 1280000000L);
    }

    private static void yearsGoByUnderCensors() {
        // year 1 brings 7 - 2, year 2 brings 5 - 2: 58, 53 (the first censored), 55, 50
        FinishedByAnother x = Due.guild("wg00;wg00;");
        oddsAre(x, 2, 2, 53, 3, 4);
        oddsAre(x, 2, 2, 54, 1, 2);
        oddsAre(x, 2, 2, 55, 1, 2);
        oddsAre(x, 2, 2, 56, 1, 4);
        oddsAre(x, 2, 3, 54, 2, 3);
        oddsAre(x, 2, 2, 59, 0, 1);
        Due.is("nothing changed", x.count(1), 0);
    }

    private static void censorRefused() {
        FinishedByAnother x = Due.guild("wa00;");
        Due.is("no such writer", x.censor(1, -1, 1, -1, 2), REFUSED + 1);
        Due.is("n below", x.censor(0, -1, 21, 100, 2), REFUSED + 4);
        Due.is("t below", x.censor(0, 8, 1, 100, 2), REFUSED + 4);
        Due.is("v below", x.censor(0, 8, 21, -1, 2), REFUSED + 4);
        Due.is("n above", x.censor(0, 8, 2, 0, 2), REFUSED + 6);
        Due.is("t above", x.censor(0, 0, 21, 0, 2), REFUSED + 6);
        Due.is("v above", x.censor(0, 0, 2, 100, 2), REFUSED + 6);
        Due.is("part", x.censor(0, 0, 2, 0, 2), REFUSED + 2);
        Due.is("part below", x.censor(0, 0, 2, 0, -1), REFUSED + 2);
        Due.is("MAX", x.censor(0, Integer.MAX_VALUE, Integer.MAX_VALUE, 0, 0), REFUSED + 6);
        Due.is("MIN", x.censor(0, 0, Integer.MIN_VALUE, 0, 0), REFUSED + 4);
        Due.is("counted -1", x.count(11), 1);
        Due.is("counted -2", x.count(12), 2);
        Due.is("counted -4", x.count(14), 4);
        Due.is("counted -6", x.count(16), 4);
    }

    private static void mean() {
        FinishedByAnother x = new FinishedByAnother();
        Due.is("mean(0) of nobody", x.mean(0), 0);
        Due.is("mean(1) of nobody", x.mean(1), 1);
        Due.told(x, "wa00;wa00;wa00;wa00;f050;f162;f201;f301;s1;");
        Due.is("mean(0)", x.mean(0), 57);
        Due.is("mean(1)", x.mean(1), 2);
        for (int w = 0; w < 4; w++) {
            x.famed(w, 0);
        }
        Due.is("mean(0) of 0", x.mean(0), 0);
        Due.is("mean(1) of 0", x.mean(1), 1);
        FinishedByAnother seven = Due.guild("wa00;wa00;wa00;wa00;wa00;wa00;wa00;");
        Due.is("mean(0) of seven", seven.mean(0), 50);
        Due.is("mean(1) of seven", seven.mean(1), 1);
        seven.famed(6, 99);
        Due.is("mean(0) of 399 by 7", seven.mean(0), 57);
        seven.famed(6, 98);
        Due.is("mean(0) of 398 by 7", seven.mean(0), 398);
        Due.is("mean(1) of 398 by 7", seven.mean(1), 7);
        Due.is("mean(2)", x.mean(2), REFUSED + 2);
        Due.is("mean(-1)", x.mean(-1), REFUSED + 2);
    }
}
