/** Promises 21 to 27 and 33: what would be best. */
public final class BestTest {
    /** The ring is 0 2 1 3: grudges 0, 2 open with 5, timid ones 1, 3 with 0. */
    private static final String RIVALS = "wg05;wt00;wg05;wt00;x12;";

    public static void main(String[] args) {
        ring();
        ringAgain();
        ringOfSeveral();
        ringWithSilentOnes();
        bribe();
        ownBribe();
        page();
        ender();
        hush();
        moves();
        two();
        pricesOfBribes();
        seven();
        afterChanges();
        nothingChanged();
        Due.close("BestTest");
    }

    private static void ringIs(FinishedByAnother x, int worth, int... ring) {
        Due.is("ring(-1)", x.ring(-1), worth);
        for (int i = 0; i < ring.length; i++) {
            Due.is("ring(" + i + ")", x.ring(i), ring[i]);
        }
        Due.is("ring behind the last", x.ring(ring.length), -9);
    }

    private static void ring() {
        FinishedByAnother x = Due.guild(RIVALS);
        Due.is("worth now", x.worth(), 16);
        ringIs(x, 36, 0, 1, 2, 3);
        Due.is("ring(MAX)", x.ring(Integer.MAX_VALUE), -9);
        Due.is("ring(-2)", x.ring(-2), 1000000004);
        Due.is("ring(MIN)", x.ring(Integer.MIN_VALUE), 1000000004);
        String five = "wt05;wd20;wg03;wp51;wf38;x13;";
        ringIs(Due.guild(five), worthOf(five, best(five, 5)), best(five, 5));
        ringIs(new FinishedByAnother(), 0);
        ringIs(Due.guild("wa50;"), 0, 0);
        ringIs(Due.guild("wa50;wa50;x01;"), -2, 1, 0);
    }

    /** The best of all rings with the first one staying, each brought about and asked. */
    private static int[] best(String text, int size) {
        int[] best = null;
        int head = Due.guild(text).place(0);
        for (int number = 0; number < Math.pow(size, size); number++) {
            int[] ring = new int[size];
            int bits = 0;
            int rest = number;
            for (int i = size - 1; i >= 0; i--) {
                ring[i] = rest % size;
                rest /= size;
                bits |= 1 << ring[i];
            }
            boolean all = bits == (1 << size) - 1 && ring[0] == head;
            if (all && (best == null || worthOf(text, ring) > worthOf(text, best))) {
                best = ring;
            }
        }
        return best;
    }

    private static int worthOf(String text, int[] ring) {
        FinishedByAnother x = Due.guild(text);
        for (int i = 0; i < ring.length; i++) {
            if (x.place(i) != ring[i]) {
                x.changes(x.place(i), ring[i]);
            }
        }
        return x.worth();
    }

    /** What was found earlier, and better, is not looked at. */
    private static void ringAgain() {
        FinishedByAnother x = Due.guild("wa00;wa00;wa00;");
        ringIs(x, 27, 0, 1, 2);
        for (int w = 0; w < 3; w++) {
            x.turn(w, 0, 5);
        }
        x.changes(0, 2);
        ringIs(x, -3, 2, 0, 1);
        FinishedByAnother none = new FinishedByAnother();
        none.image();
        Due.told(none, "wa00;wa00;wa00;");
        ringIs(none, 27, 0, 1, 2);
        none.on();
        ringIs(none, 0);
    }

    private static void ringOfSeveral() {
        // an end is worth as much behind whomever: all rings are alike
        ringIs(Due.guild("wa00;wa50;wa00;wa50;wa10;"), 23, 0, 1, 2, 3, 4);
        ringIs(Due.guild("wa00;wa50;wa00;wa50;wa10;x03;x14;"), 23, 3, 0, 1, 2, 4);
    }

    private static void ringWithSilentOnes() {
        ringIs(Due.guild(RIVALS + "s3;"), 17, 0, 1, 2, 3);
        ringIs(Due.guild(RIVALS + "s0;"), 17, 0, 1, 2, 3);
        ringIs(Due.guild(RIVALS + "s0;s1;s2;"), 0, 0, 1, 2, 3);
        ringIs(Due.guild(RIVALS + "s0;s1;s2;s3;x03;"), 0, 3, 0, 1, 2);
        String text = "wg05;wa00;wg05;wt00;wt00;s1;x24;";
        ringIs(Due.guild(text), 36, best(text, 5));
        String headSilent = "wg05;wa00;wg05;wt00;wt00;s1;x01;x24;";
        ringIs(Due.guild(headSilent), 36, best(headSilent, 5));
    }

    private static void bribe() {
        FinishedByAnother x = Due.guild(RIVALS);
        Due.is("of several the first", x.bribe(), 3);
        x.changes(1, 2);
        Due.is("no more than now", x.bribe(), -9);
        Due.is("one alone", Due.guild("wa50;").bribe(), -9);
        Due.is("nobody", new FinishedByAnother().bribe(), -9);
        // 6 now, 26 by 1 and 2, as much by 2 and 3
        Due.is("next to one another", Due.guild("wg00;wg05;wg00;wt05;").bribe(), 12);
        // 0 is silent; 1 2 3 are worth 9 - 1 + 3, but 1 3 2 9 each: the change of 0 and 2 does it first
        FinishedByAnother silent = Due.guild("wa00;wg05;wa00;wt07;s0;");
        Due.is("worth with a silent one", silent.worth(), 11);
        Due.is("bribe with a silent one", silent.bribe(), 2);
    }

    private static void ownBribe() {
        FinishedByAnother x = Due.guild(RIVALS);
        Due.is("of several the least", x.ownBribe(0), 1);
        Due.is("he has it best", x.ownBribe(2), -9);
        Due.is("ownBribe(3)", x.ownBribe(3), -9);
        Due.is("ownBribe(1)", x.ownBribe(1), 0);
        Due.is("ownBribe(4)", x.ownBribe(4), -1);
        Due.is("ownBribe(-1)", x.ownBribe(-1), -1);
        x.hushes(0);
        Due.is("he is silent", x.ownBribe(0), -3);
        Due.is("alone", Due.guild("wa00;").ownBribe(0), -9);
        // 0 1 2 with 1 silent: 0 is ended by 2 whichever two change places
        Due.is("only one other writes", Due.guild("wa00;wa00;wa50;s1;").ownBribe(0), -9);
        // the ring 0 3 2 1: -1 by 3; in the places of 1 and 2 it is 3 by 1, in that of 3 it is 5 by 2
        FinishedByAnother back = Due.guild("wa00;wa30;wa20;wa50;x13;");
        Due.is("tried one by one, each from now", back.ownBribe(0), 3);
        // now -1 by 1; with 1 in his place he goes by 2: 3; with 2 in his place by 3: 9
        FinishedByAnother most = Due.guild("wa00;wa50;wa30;wa00;");
        Due.is("now", most.book(0, 2), -1);
        Due.is("most, not the first that is more", most.ownBribe(0), 2);
    }

    private static void page() {
        FinishedByAnother x = Due.guild(RIVALS);
        Due.is("page(0, 0)", x.page(0, 0), 0);
        Due.is("page(0, 1)", x.page(0, 1), 9);
        Due.is("page(2, 0)", x.page(2, 0), 5);
        x.years(3);
        Due.is("page(0, 0) in year 3", x.page(0, 0), 7);
        // figure 5: worth -1 with whichever style
        FinishedByAnother low = Due.guild("wa03;wa50;");
        Due.is("of several the least", low.page(0, 0), 0);
        Due.is("worth below 0", low.page(0, 1), -1);
        low.hushes(1);
        Due.is("nobody ends it", low.page(0, 0), 0);
        Due.is("nobody ends it: worth", low.page(0, 1), 0);
        Due.is("page(2, 2)", low.page(2, 2), 1000000001);
        Due.is("page(1, 2)", low.page(1, 2), 1000000002);
        Due.is("page(0, -1)", low.page(0, -1), 1000000002);
        Due.is("page(1, 0)", low.page(1, 0), 1000000003);
    }

    private static void ender() {
        FinishedByAnother x = Due.guild(RIVALS);
        Due.is("ender(0, 0)", x.ender(0, 0), 1);
        Due.is("ender(0, 1)", x.ender(0, 1), 9);
        Due.is("ender(3, 0)", x.ender(3, 0), 0);
        x.hushes(1);
        Due.is("silent ones, too", x.ender(0, 0), 1);
        Due.is("ender(1, 0)", x.ender(1, 0), 1000000003);
        Due.is("ender(1, 2)", x.ender(1, 2), 1000000002);
        Due.is("ender(4, 2)", x.ender(4, 2), 1000000001);
        FinishedByAnother alone = Due.guild("wa00;");
        Due.is("alone", alone.ender(0, 0), -9);
        Due.is("alone: worth", alone.ender(0, 1), 0);
        FinishedByAnother low = Due.guild("wa00;wa50;");
        Due.is("below 0, yet best", low.ender(0, 0), 1);
        Due.is("below 0", low.ender(0, 1), -1);
        low.hushes(1);
        Due.is("nobody ends it, yet he would", low.ender(0, 1), -1);
    }

    private static void hush() {
        FinishedByAnother x = Due.guild(RIVALS);
        // 17 without whichever
        Due.is("of several the least", x.hush(), 0);
        x.changes(1, 2);
        Due.is("no more than else", x.hush(), -9);
        Due.is("both at -1", Due.guild("wa50;wa50;").hush(), 0);
        Due.is("alone", Due.guild("wa50;").hush(), -9);
        Due.is("nobody", new FinishedByAnother().hush(), -9);
        // the ends of 2 spoil most
        Due.is("who spoils most", Due.guild("wa00;wa40;wa50;wa00;").hush(), 2);
        // silent ones are not brought to write
        Due.is("not one who is silent", Due.guild("wa00;wa10;wa00;s2;").hush(), -9);
    }

    private static void moves() {
        FinishedByAnother x = Due.guild("wa00;wa00;wa00;wa00;x03;x12;");
        int[] due = {3, 2, 1, 0};
        for (int w = 0; w < 4; w++) {
            Due.is("moves(" + w + ")", x.moves(w), due[w]);
        }
        Due.is("moves(4)", x.moves(4), -1);
        Due.is("moves(-1)", x.moves(-1), -1);
    }

    private static void two() {
        FinishedByAnother x = Due.guild(RIVALS);
        // 00: -1, -1. 01: the ring 0 1 2 3: 9, 7. 10: 2 1 0 3: 7, 9. 11: 1 2 0 3: 7, 7.
        Due.is("two(0, 1)", x.two(0, 1), 1);
        Due.is("two(1, 0)", x.two(1, 0), 1);
        Due.is("two(0, 0)", x.two(0, 0), -1);
        Due.is("two(0, 4)", x.two(0, 4), -1);
        Due.is("two(-1, 0)", x.two(-1, 0), -1);
        x.hushes(3);
        Due.is("two(0, 3)", x.two(0, 3), -3);
        Due.is("two(3, 0)", x.two(3, 0), -3);
        Due.is("two(3, 3)", x.two(3, 3), -1);
        Due.is("only two", Due.guild("wa50;wa50;").two(0, 1), 0);
        FinishedByAnother first = Due.guild("wa00;wa00;wa50;wa00;wa00;x12;");
        // the ring 0 2 1 3 4: 0 has -1, 1 has 9; 0 alone behind 1 has 9 - 2
        Due.is("the first one alone", first.two(0, 1), 10);
        Due.is("the other one alone", first.two(1, 0), 1);
        // 00: 9, 3. 01: -1, 9 - 2. 10: 3 - 2, 1. 11: 3 - 2, 9 - 2
        Due.is("both", Due.guild("wp03;wd53;wf36;wp86;").two(1, 3), 11);
        // 00: 7, 1. 01: 1, 7 - 2. 10: 5 - 2, 9. 11: 5 - 2, 7 - 2: one of them always goes on
        Due.is("no pair stays", Due.guild("wf26;wa11;wg59;wp55;").two(0, 2), -9);
    }

    /** Asked behind changes that did not go through letters: thoughts begin with what is now. */
    private static void afterChanges() {
        FinishedByAnother x = Due.guild("wa00;wa00;wa00;wa00;");
        x.turn(0, 2, 0);
        x.turn(1, 3, 0);
        x.turn(2, 2, 0);
        x.turn(3, 3, 0);
        x.styles(0, 5);
        x.styles(2, 5);
        x.changes(1, 2);
        Due.is("bribe()", x.bribe(), 3);
        x.fameThen(0, 5);
        Due.is("ownBribe(0)", x.ownBribe(0), 1);
        x.fameThen(0, 5);
        Due.is("hush()", x.hush(), 0);
        x.fameThen(0, 5);
        Due.is("page(0, 0)", x.page(0, 0), 0);
        x.fameThen(0, 5);
        Due.is("two(0, 1)", x.two(0, 1), 1);
        x.fameThen(0, 5);
        Due.is("a statement more", Due.told(x, "wa00;"), 1);
        Due.is("year", x.count(1), 0);
        Due.is("the style told", x.writer(0, 2), 5);
        Due.is("the kind told", x.writer(1, 0), 3);
    }

    /** By authors alone, all opening with 0: an end is worth 9 less twice the figure of who ends. */
    private static void pricesOfBribes() {
        // 00: -1, 1. 01: 9, -1 - 2. 10: 1 - 2, 9: the first has no more by it
        Due.is("as much is not more", Due.guild("wa00;wa00;wa50;wa40;x12;").two(0, 1), 0);
        // 00: -1, 3. 01: 9, -1 - 2. 10: 3 - 2, 9. 11: 3 - 2, -1 - 2
        Due.is("more by 4 for 2", Due.guild("wa00;wa00;wa50;wa30;x12;").two(0, 1), 10);
        // 00: 5, 9. 01: 7, 5 - 2. 10: 9 - 2, 1. 11: 9 - 2, 5 - 2
        Due.is("as much is stayed with", Due.guild("wa00;wa40;wa20;wa10;").two(1, 3), 11);
        Due.is("by the other, too", Due.guild("wa00;wa40;wa20;wa10;").two(3, 1), 11);
        // the ring 0 .. 5, 0 has 1 by 1 and 4 has -1 by 5.
        // 01 (0 4 1 2 3 5): 7, 1 - 2: as much for 4. 10 (1 2 3 4 0 5): -1 - 2, 9. 00 stays
        Due.is("in a longer ring", Due.guild("wa00;wa40;wa00;wa00;wa10;wa50;").two(0, 4), 0);
        // the ring 0 .. 5, 1 has -1 by 2 and 4 has 1 by 5.
        // 01 (0 1 4 2 3 5): 9, -1 - 2. 10 (0 2 3 4 1 5): 1 - 2, 9: as much for 1. 00 stays
        Due.is("in a longer ring, again", Due.guild("wa00;wa00;wa50;wa00;wa00;wa40;").two(1, 4), 0);
        // the ring 0 .. 5, 0 has -1 by 1 and 4 has -1 by 5.
        // 01 (0 4 1 2 3 5): 9, -1 - 2. 10 (1 2 3 4 0 5): -1 - 2, 9. 11 (4 1 2 3 0 5): -1 - 2 each
        Due.is("the first of a longer ring", Due.guild("wa00;wa50;wa00;wa00;wa00;wa50;").two(0, 4), 0);
        // the ring 0 .. 5, 1 has -1 by 2, 4 has 3 by 5. 10 (0 2 3 4 1 5): 3 - 2, 9
        // 01 (0 1 4 2 3 5): 9, -1 - 2. 11 (0 4 2 3 1 5): 3 - 2, -1 - 2
        Due.is("the first behind the other in a longer ring", Due.guild("wa00;wa00;wa50;wa00;wa00;wa30;").two(1, 4), 10);
        // the ring 0 .. 5: 1 has -1 by 2 and 2 has 9 by 3; 10 (0 2 1 3 4 5): 9 - 2, 9; 01 is as it is
        Due.is("next to one another in a longer ring", Due.guild("wa00;wa00;wa50;wa00;wa00;wa00;").two(1, 2), 10);
        Due.is("round from the last to the first", Due.guild("wa50;wa00;wa00;wa00;wa00;wa00;").two(5, 0), 10);
        Due.is("the other behind the first in a longer ring", Due.guild("wa00;wa00;wa50;wa00;wa00;wa30;").two(4, 1), 1);
    }

    private static void nothingChanged() {
        FinishedByAnother x = Due.guild(RIVALS + "y09;");
        int[] before = state(x);
        x.ring(-1);
        x.bribe();
        x.ownBribe(0);
        x.page(1, 0);
        x.ender(1, 0);
        x.hush();
        x.two(0, 1);
        x.censor(0, 7, 3, 60, 0);
        x.first(0);
        x.leads(50);
        x.famous(0, 99);
        x.lots(20, 5, 0);
        x.whatIs(0, 0);
        x.whatIs(0, 1);
        int[] after = state(x);
        for (int i = 0; i < before.length; i++) {
            Due.is("as it was, " + i, after[i], before[i]);
        }
    }

    private static int[] state(FinishedByAnother x) {
        int[] state = new int[4 * 7 + 1];
        for (int w = 0; w < 4; w++) {
            for (int what = 0; what < 7; what++) {
                state[7 * w + what] = x.writer(w, what);
            }
        }
        state[28] = x.count(1);
        return state;
    }

    /** With the greatest number of WRITERS, the last of whom is asked for and answered. */
    private static void seven() {
        // authors alone, all opening with 0: 0 ends the book of 6 at -1, 2 would at 9, the others at 7
        FinishedByAnother x = Due.guild("wa50;wa10;wa00;wa10;wa10;wa10;wa10;");
        Due.is("the ring stays", x.ring(-1), 43);
        for (int i = 0; i < 7; i++) {
            Due.is("ring(" + i + ") of seven", x.ring(i), i);
            Due.is("moves(" + i + ") of seven", x.moves(i), i);
        }
        Due.is("all rings are alike", x.bribe(), -9);
        Due.is("own bribe of 6", x.ownBribe(6), 1);
        Due.is("own bribe of 0", x.ownBribe(0), 1);
        Due.is("best ender of 6", x.ender(6, 0), 2);
        Due.is("0 spoils more than his own is worth", x.hush(), 0);
        x.turn(6, 0, 0);
        x.turn(2, 0, 1);
        Due.is("best ender of 0", x.ender(0, 0), 6);
        // 00: -1, 7. 01 (0 2 3 4 5 6 1): 7, -1 - 2. 10 (0 1 6 2 3 4 5): 7 - 2, 9. 11 (0 6 2 3 4 5 1): 7 - 2, -1 - 2
        Due.is("two(6, 1)", x.two(6, 1), 10);
        Due.is("two(1, 6)", x.two(1, 6), 1);
        // grudge 5 ends what opens with 5, timid 6 what opens with 0: 43, and 63 if these two change places
        FinishedByAnother last = Due.guild("wa00;wa00;wa00;wa03;wa05;wg00;wt00;");
        Due.is("worth of it", last.worth(), 43);
        Due.is("the last two", last.bribe(), 56);
        ringIs(last, 63, 0, 1, 2, 3, 4, 6, 5);
        Due.is("without the last one", Due.guild("wa00;wa00;wa00;wa00;wa00;wa00;wa50;").hush(), 6);
    }
}
