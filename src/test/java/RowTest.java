/** Promises 36 to 40: the row, and what is told by it. */
public final class RowTest {
    public static void main(String[] args) {
        row();
        whoEnded();
        whatIs();
        judge();
        seven();
        Due.close("RowTest");
    }

    private static void row() {
        FinishedByAnother x = new FinishedByAnother();
        Due.is("row(-1)", x.row(-1), -4);
        Due.is("row(100)", x.row(100), -6);
        for (int i = 1; i <= 16; i++) {
            Due.is("row " + i, x.row(i == 1 ? 0 : 99), i);
        }
        Due.is("row 17", x.row(5), -6);
        Due.is("row 17 below", x.row(-1), -4);
        Due.is("count(6)", x.count(6), 16);
        Due.is("clear()", x.clear(), 16);
        Due.is("clear() again", x.clear(), 0);
        Due.is("count(6) then", x.count(6), 0);
        Due.is("row anew", x.row(5), 1);
    }

    private static void whoEnded() {
        FinishedByAnother x = Due.guild("wa03;wa00;wg00;wp20;");
        Due.is("an empty row", x.whoEnded(0), 14);
        Due.is("an empty row, he aside", x.whoEnded(2), 11);
        Due.rowOf(x, 3, 3);
        Due.is("3 with 3", x.whoEnded(0), 2);
        Due.is("2 does not open with 3", x.whoEnded(2), 0);
        Due.is("the row stays", x.count(6), 2);
        Due.rowOf(x, 3, 3, 4, 4);
        Due.is("1 year on", x.whoEnded(0), 2);
        Due.rowOf(x, 3, 3, 4, 5);
        Due.is("not 1 year on", x.whoEnded(0), 0);
        Due.rowOf(x, 3, 3, 5);
        Due.is("an odd one", x.whoEnded(0), 2);
        Due.rowOf(x, 9);
        Due.is("only an odd one", x.whoEnded(0), 14);
        Due.rowOf(x, 4, 4);
        Due.is("he does not open with 4", x.whoEnded(0), 0);
        Due.rowOf(x, 3, 4);
        Due.is("the poet", x.whoEnded(0), 8);
        Due.rowOf(x, 3, 99);
        Due.is("no end", x.whoEnded(0), 0);
        x.hushes(1);
        Due.rowOf(x, 3, 3);
        Due.is("silent ones, too", x.whoEnded(0), 2);
        x.hushes(0);
        Due.is("he is silent", x.whoEnded(0), 2);
        Due.is("whoEnded(4)", x.whoEnded(4), -1);
        Due.is("whoEnded(-1)", x.whoEnded(-1), -1);
        x.years(9);
        Due.rowOf(x, 2, 2, 3, 3, 4, 4, 5, 5, 6, 6, 7, 7, 8, 8, 9, 9);
        Due.is("a full row", x.whoEnded(0), 2);
        Due.rowOf(x, 2, 2, 3, 3, 4, 4, 5, 5, 6, 6, 7, 7, 8, 8, 9, 8);
        Due.is("a full row, the last off", x.whoEnded(0), 0);
    }

    private static void whatIs() {
        FinishedByAnother x = Due.guild("wa00;wa00;");
        Due.is("an empty row: kinds", x.whatIs(0, 0), 63);
        Due.is("an empty row: figures", x.whatIs(0, 1), 1023);
        Due.rowOf(x, 50);
        Due.is("fame now: kinds", x.whatIs(0, 0), 63);
        Due.rowOf(x, 51);
        Due.is("not his fame: kinds", x.whatIs(0, 0), 0);
        Due.is("not his fame: figures", x.whatIs(0, 1), 0);
        // opens with 1: a 1, p 8, g 0, t 5, f 8, d 9: 9, 3, 7, 1, 3, 5 more
        Due.rowOf(x, 50, 59);
        Due.is("9 more: kinds", x.whatIs(0, 0), 1);
        Due.is("9 more: figures", x.whatIs(0, 1), 1);
        Due.rowOf(x, 50, 53);
        Due.is("3 more: kinds", x.whatIs(0, 0), 2 + 16);
        Due.is("3 more: figures", x.whatIs(0, 1), 8 + 128);
        Due.rowOf(x, 50, 57);
        Due.is("7 more: kinds", x.whatIs(0, 0), 4);
        Due.rowOf(x, 50, 51);
        Due.is("1 more: kinds", x.whatIs(0, 0), 8);
        Due.rowOf(x, 50, 55);
        Due.is("5 more: kinds", x.whatIs(0, 0), 32);
        Due.is("the row stays", x.count(6), 2);
        // with figure 5 the author is worth -1
        x.turn(1, 0, 5);
        Due.rowOf(x, 50, 49);
        Due.is("the figure stays for kinds", x.whatIs(0, 0), 1);
        // as a poet with figure f: 8 - f
        x.turn(1, 1, 0);
        Due.rowOf(x, 50, 59);
        Due.is("the kind stays for figures", x.whatIs(0, 1), 128);
        Due.is("his kind is as it was", x.writer(1, 0), 1);
        Due.is("his figure is as it was", x.writer(1, 1), 0);
        Due.is("whatIs(2, 2)", x.whatIs(2, 2), -1);
        Due.is("whatIs(0, 2)", x.whatIs(0, 2), -2);
        Due.is("whatIs(0, -1)", x.whatIs(0, -1), -2);
        x.hushes(1);
        x.clear();
        Due.is("nobody ends it: kinds", x.whatIs(0, 0), 0);
        Due.is("nobody ends it: figures", x.whatIs(0, 1), 0);
        FinishedByAnother ender0 = Due.guild("wg00;wa00;");
        Due.rowOf(ender0, 50, 55);
        // his own book 7 by the grudge; he ends that of 0 for nothing
        Due.is("0 ends it, not so", ender0.whatIs(1, 0), 32);
        Due.rowOf(ender0, 50, 57);
        Due.is("0 ends it, so", ender0.whatIs(1, 0), 4);
        // 0 is silent, and has an ender all the same: his fame stays as it is
        ender0.hushes(0);
        Due.rowOf(ender0, 50, 50);
        Due.is("a silent one's ender", ender0.whatIs(0, 0), 63);
        FinishedByAnother late = Due.guild("wa00;wa00;");
        Due.rowOf(late, 50, 59, 68, 77, 86, 95, 99, 99, 99, 99, 99, 99, 99, 99, 99, 99);
        Due.is("a full row", late.whatIs(0, 0), 1);
        late.clear();
        Due.rowOf(late, 50, 59, 68, 77, 86, 95, 99, 99, 99, 99, 99, 99, 99, 99, 99, 98);
        Due.is("a full row, the last off", late.whatIs(0, 0), 0);
    }

    private static void judge() {
        // the books end with 8, 0, 3
        FinishedByAnother x = Due.guild("wa30;wp10;wg00;");
        Due.is("an empty row", x.judge(), -9);
        Due.rowOf(x, 8, 0, 3);
        Due.is("all of it is so", x.judge(), -9);
        Due.is("the row has none then", x.count(6), 0);
        Due.rowOf(x, 8, 1, 4);
        Due.is("the first that is not so", x.judge(), 1);
        Due.is("the row has none then, either", x.count(6), 0);
        Due.rowOf(x, 8, 0, 3, 10);
        Due.is("no such one", x.judge(), 3);
        Due.rowOf(x, 10);
        Due.is("somebody ends it", x.judge(), 0);
        x.hushes(1);
        // 0 by 2: 0; 1 has no book; 2 by 0: 3
        Due.rowOf(x, 0, 10, 3);
        Due.is("a silent one has no book that is ended", x.judge(), -9);
        x.hushes(2);
        Due.rowOf(x, 10);
        Due.is("nobody ends it", x.judge(), -9);
        Due.rowOf(x, 9);
        Due.is("not 9", x.judge(), 0);
    }

    private static void seven() {
        FinishedByAnother x = Due.guild("wg00;wt00;wg00;wt00;wg00;wt00;wa40;");
        Due.is("an empty row, the first aside", x.whoEnded(0), 126);
        Due.is("an empty row, the last aside", x.whoEnded(6), 63);
        Due.rowOf(x, 0, 4, 1, 5);
        Due.is("the last one ended it", x.whoEnded(0), 64);
        Due.rowOf(x, 5, 0, 5, 0, 5, 4, 0);
        Due.is("all seven are so", x.judge(), -9);
        Due.rowOf(x, 5, 0, 5, 0, 5, 4, 1);
        Due.is("the last is not so", x.judge(), 6);
        Due.rowOf(x, 5, 0, 5, 0, 5, 4, 0, 10, 10);
        Due.is("no eighth", x.judge(), 7);
        for (int w = 0; w < 6; w++) {
            x.hushes(w);
        }
        Due.rowOf(x, 10, 10, 10, 10, 10, 10, 10, 10);
        Due.is("nobody ends any, and there is no eighth", x.judge(), 7);
        Due.rowOf(x, 10, 10, 10, 10, 10, 10, 10);
        Due.is("nobody ends any", x.judge(), -9);
        Due.rowOf(x, 10, 10, 10, 10, 10, 10, 4);
        Due.is("the one who is alone", x.judge(), 6);
    }
}
