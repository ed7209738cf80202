/** Promises 15 to 17 and 28 to 32: books as they are read now. */
public final class BooksTest {
    public static void main(String[] args) {
        worth();
        well();
        read();
        mutual();
        chain();
        same();
        ending();
        join();
        seven();
        Due.close("BooksTest");
    }

    private static void worth() {
        // all open with 0: ended with 8, 0, 3
        FinishedByAnother x = Due.guild("wa30;wp10;wg00;");
        Due.is("worth()", x.worth(), 17);
        x.hushes(2);
        // 0 by 1: 8; 1 by 0: 3
        Due.is("without 2", x.worth(), 8);
        x.hushes(1);
        Due.is("one alone", x.worth(), 0);
        Due.is("nobody", new FinishedByAnother().worth(), 0);
        Due.is("below 0", Due.guild("wa50;wa50;").worth(), -2);
    }

    private static void well() {
        FinishedByAnother x = Due.guild("wa30;wp10;wg00;");
        Due.is("well()", x.well(), 3);
        Due.is("count(5)", x.count(5), 2);
        // figure 2 is worth 5, figure 3 is worth 3
        Due.is("5 is well", Due.guild("wa20;wa30;").well(), 2);
        x.hushes(0);
        Due.is("without 0", x.well(), 6);
        Due.is("nobody", new FinishedByAnother().well(), 0);
    }

    private static void read() {
        FinishedByAnother x = Due.guild("wa30;wp10;wg00;");
        Due.is("read(0)", x.read(0), 1);
        Due.is("read(1)", x.read(1), 2);
        Due.is("read(2)", x.read(2), -2);
        Due.is("read(-1)", x.read(-1), -2);
        FinishedByAnother zero = Due.guild("wa10;wa00;wa50;x01;");
        // the ring 1 0 2: 0 by 2 is worth -1, 1 by 0 is worth 7, 2 by 1 is worth 9
        Due.is("0 is worst", zero.read(1), 0);
        Due.is("0 is farthest", zero.join(), 0);
        zero.changes(0, 1);
        Due.is("0 is best", zero.read(0), 0);
        FinishedByAnother alike = Due.guild("wa00;wa00;wa00;wa00;s0;");
        Due.is("of several the least: best", alike.read(0), 1);
        Due.is("of several the least: worst", alike.read(1), 1);
        FinishedByAnother below = Due.guild("wa00;wa50;wa50;s0;");
        Due.is("best below 0", below.read(0), 1);
        FinishedByAnother alone = Due.guild("wa00;wa00;s0;");
        Due.is("alone best", alone.read(0), -9);
        Due.is("alone worst", alone.read(1), -9);
        Due.is("nobody best", new FinishedByAnother().read(0), -9);
    }

    private static void mutual() {
        FinishedByAnother x = Due.guild("wa00;wa00;wa00;wa00;");
        Due.is("four", x.mutual(), 0);
        x.hushes(1);
        x.hushes(2);
        Due.is("two", x.mutual(), 1);
        x.hushes(0);
        Due.is("one", x.mutual(), 0);
        Due.is("nobody", new FinishedByAnother().mutual(), 0);
        FinishedByAnother three = Due.guild("wa00;wa00;wa00;");
        Due.is("three", three.mutual(), 0);
    }

    private static void chain() {
        FinishedByAnother x = Due.guild("wa00;wa00;wa00;wa00;wa00;wa00;wa00;");
        Due.is("all seven", x.chain(3), 7);
        x.hushes(3);
        Due.is("he is silent", x.chain(3), 0);
        Due.is("the others", x.chain(6), 6);
        for (int w = 0; w < 6; w++) {
            if (w != 3) {
                x.hushes(w);
            }
        }
        Due.is("one alone", x.chain(6), 0);
        Due.is("he is silent, another writes", x.chain(0), 0);
        Due.is("chain(7)", x.chain(7), -1);
        Due.is("chain(-1)", x.chain(-1), -1);
    }

    private static void same() {
        FinishedByAnother x = Due.guild("wa05;wa03;wa05;wa03;wa05;y07;");
        Due.is("same(0)", x.same(0), 4);
        Due.is("same(1)", x.same(1), 2);
        x.hushes(0);
        Due.is("without 0", x.same(0), 2);
        Due.is("the first without 0", x.same(1), 13);
        x.hushes(3);
        Due.is("the first without 0 and 3", x.same(1), 24);
        x.hushes(4);
        Due.is("none", x.same(0), 0);
        Due.is("no first", x.same(1), -9);
        Due.is("next to one another", Due.guild("wa01;wa02;wa02;").same(1), 12);
        Due.is("same(2)", x.same(2), -2);
        Due.is("same(-1)", x.same(-1), -2);
    }

    private static void ending() {
        FinishedByAnother x = Due.guild("wg00;wt00;wg05;wt07;");
        Due.is("ending(0)", x.ending(0), 2);
        Due.is("ending(5)", x.ending(5), 2);
        Due.is("ending(9)", x.ending(9), 0);
        x.hushes(0);
        Due.is("without 0", x.ending(0), 1);
        Due.is("without 0: 5", x.ending(5), 2);
        Due.is("ending(-1)", x.ending(-1), -4);
        Due.is("ending(10)", x.ending(10), -6);
        Due.is("nobody", new FinishedByAnother().ending(0), 0);
    }

    private static void join() {
        // 0 ends with 8 (2 away, round from 9 to 0), 1 with 0, 2 with 3 (3 away)
        FinishedByAnother x = Due.guild("wa30;wp10;wg00;");
        Due.is("round from 9 to 0", x.join(), 2);
        Due.is("of several the least", Due.guild("wa00;wa00;wa20;wa80;").join(), 1);
        x.hushes(0);
        x.hushes(1);
        Due.is("alone", x.join(), -9);
        Due.is("nobody", new FinishedByAnother().join(), -9);
    }

    private static void seven() {
        FinishedByAnother x = Due.guild("wa00;wa00;wa00;wa00;wa00;wa00;wa00;");
        Due.is("worth of seven", x.worth(), 63);
        Due.is("well, all seven", x.well(), 127);
        Due.is("how many are well", x.count(5), 7);
        Due.is("twos that open alike", x.same(0), 21);
        Due.is("the first two of seven", x.same(1), 1);
        Due.is("all end with 0", x.ending(0), 7);
        // the book of 6 is ended by the first in the ring
        x.turn(0, 0, 5);
        Due.is("the last one's is worst", x.read(1), 6);
        Due.is("the last one's is farthest", x.join(), 6);
        Due.is("without the last one's", x.well(), 63);
        Due.is("all worth then", x.worth(), 53);
        for (int w = 1; w < 7; w++) {
            x.turn(w, 0, 5);
        }
        x.turn(0, 0, 0);
        Due.is("the last one's is best", x.read(0), 6);
        Due.is("the last one's alone", x.well(), 64);
        for (int w = 0; w < 7; w++) {
            x.styles(w, w < 5 ? w : 9);
        }
        Due.is("the last two open alike", x.same(1), 56);
        Due.is("only they", x.same(0), 1);
        for (int w = 0; w < 5; w++) {
            x.hushes(w);
        }
        Due.is("they end each other", x.mutual(), 1);
        Due.is("chain of the last two", x.chain(6), 2);
    }
}
