/** Promises 4 to 12: what there is now, and changing it. */
public final class NowTest {
    public static void main(String[] args) {
        writer();
        enders();
        endersOfSeven();
        place();
        book();
        endsOfKinds();
        changes();
        hushes();
        stylesAndFame();
        turn();
        years();
        gains();
        heldFame();
        everyFame();
        byNumbers();
        Due.close("NowTest");
    }

    private static void writer() {
        FinishedByAnother x = Due.guild("wd47;");
        int[] due = {5, 4, 7, 50, 1, 0, -9};
        for (int what = 0; what <= 6; what++) {
            Due.is("writer(0, " + what + ")", x.writer(0, what), due[what]);
        }
        Due.is("writer(0, 7)", x.writer(0, 7), -2);
        Due.is("writer(0, -1)", x.writer(0, -1), -2);
        Due.is("writer(1, 0)", x.writer(1, 0), -1);
        Due.is("writer(-1, 9)", x.writer(-1, 9), -1);
    }

    private static void enders() {
        FinishedByAnother x = Due.guild("wa00;wa00;wa00;wa00;x13;s2;");
        // the ring is 0 3 2 1, 2 is silent
        Due.is("ender of 0", x.writer(0, 6), 3);
        Due.is("ender of 3", x.writer(3, 6), 1);
        Due.is("ender of 1", x.writer(1, 6), 0);
        Due.is("ender behind the silent one", x.writer(2, 6), 1);
        x.hushes(3);
        x.hushes(1);
        Due.is("nobody else", x.writer(0, 6), -9);
        Due.is("the only one", x.writer(2, 6), 0);
        x.hushes(0);
        Due.is("nobody writes", x.writer(2, 6), -9);
    }

    /** Whoever of seven is SILENT: the next one WRITING behind each, round from the last to the first. */
    private static void endersOfSeven() {
        String ring = "3516240";
        for (int silent = 0; silent < 128; silent++) {
            FinishedByAnother x = Due.guild("wa00;wa00;wa00;wa00;wa00;wa00;wa00;");
            for (int i = 0; i < 7; i++) {
                int there = x.place(i);
                if (there != ring.charAt(i) - '0') {
                    x.changes(there, ring.charAt(i) - '0');
                }
            }
            for (int w = 0; w < 7; w++) {
                if ((silent >> w & 1) == 1) {
                    x.hushes(w);
                }
            }
            for (int w = 0; w < 7; w++) {
                int at = ring.indexOf('0' + w);
                int ender = -9;
                for (char next : (ring.substring(at + 1) + ring.substring(0, at)).toCharArray()) {
                    if (ender == -9 && (silent >> next - '0' & 1) == 0) {
                        ender = next - '0';
                    }
                }
                Due.is("ender of " + w + " without (bits) " + silent, x.writer(w, 6), ender);
            }
            Due.is("writing without (bits) " + silent, x.count(2), 127 - silent);
        }
    }

    private static void place() {
        FinishedByAnother x = Due.guild("wa00;wa00;wa00;x02;");
        Due.is("place(0)", x.place(0), 2);
        Due.is("place(1)", x.place(1), 1);
        Due.is("place(2)", x.place(2), 0);
        Due.is("place(3)", x.place(3), -9);
        Due.is("place(MAX)", x.place(Integer.MAX_VALUE), -9);
        Due.is("place(-1)", x.place(-1), -4);
        Due.is("place(MIN)", x.place(Integer.MIN_VALUE), -4);
    }

    private static void book() {
        FinishedByAnother x = Due.guild("wa30;wp10;wg00;y01;");
        int[][] due = {{1, 7, 1}, {1, 0, 7}, {1, 4, 3}};
        for (int w = 0; w < 3; w++) {
            for (int what = 0; what < 3; what++) {
                Due.is("book(" + w + ", " + what + ")", x.book(w, what), due[w][what]);
            }
        }
        Due.is("book(3, 0)", x.book(3, 0), 1000000001);
        Due.is("book(3, 3)", x.book(3, 3), 1000000001);
        Due.is("book(0, 3)", x.book(0, 3), 1000000002);
        Due.is("book(0, -1)", x.book(0, -1), 1000000002);
        x.hushes(0);
        Due.is("book of a silent one", x.book(0, 0), 1000000003);
        Due.is("what is looked at first", x.book(0, 3), 1000000002);
        x.hushes(1);
        Due.is("alone: opens", x.book(2, 0), 1);
        Due.is("alone: ends", x.book(2, 1), -9);
        Due.is("alone: worth", x.book(2, 2), 0);
    }

    /** For each x from 0 to 9, with figure 4: how each kind ends, and what that is worth. */
    private static void endsOfKinds() {
        int[][] ends = {
            {4, 5, 6, 7, 8, 9, 0, 1, 2, 3},
            {5, 4, 3, 2, 1, 0, 9, 8, 7, 6},
            {0, 0, 0, 0, 0, 0, 0, 0, 0, 0},
            {5, 5, 5, 5, 5, 5, 5, 5, 5, 5},
            {5, 4, 3, 2, 1, 5, 6, 7, 8, 9},
            {0, 9, 0, 9, 0, 9, 0, 9, 0, 9}};
        int[][] worths = {
            {1, 1, 1, 1, 1, 1, 1, 1, 1, 1},
            {-1, 3, 7, 7, 3, -1, 3, 7, 7, 3},
            {9, 7, 5, 3, 1, -1, 1, 3, 5, 7},
            {-1, 1, 3, 5, 7, 9, 7, 5, 3, 1},
            {-1, 3, 7, 7, 3, 9, 9, 9, 9, 9},
            {9, 5, 5, 1, 1, 1, 1, 5, 5, 9}};
        FinishedByAnother x = Due.guild("wa00;wa00;");
        for (int kind = 0; kind < 6; kind++) {
            x.turn(1, kind, 4);
            for (int opens = 0; opens < 10; opens++) {
                x.styles(0, opens);
                Due.is("end of kind " + kind + " for " + opens, x.book(0, 1), ends[kind][opens]);
                Due.is("worth of kind " + kind + " for " + opens, x.book(0, 2), worths[kind][opens]);
            }
        }
    }

    private static void changes() {
        FinishedByAnother x = Due.guild("wa00;wa00;wa00;");
        Due.is("changes(0, 2)", x.changes(0, 2), 2);
        Due.is("place(0)", x.place(0), 2);
        Due.is("changes(0, 1)", x.changes(0, 1), 1);
        Due.is("place(2)", x.place(2), 1);
        Due.is("changes(1, 1)", x.changes(1, 1), -1);
        Due.is("changes(3, 0)", x.changes(3, 0), -1);
        Due.is("changes(0, 3)", x.changes(0, 3), -1);
        Due.is("changes(-1, 0)", x.changes(-1, 0), -1);
        Due.is("enders go along", x.writer(1, 6), 2);
    }

    private static void hushes() {
        FinishedByAnother x = Due.guild("wa00;wa00;");
        Due.is("hushes(1)", x.hushes(1), 0);
        Due.is("count(2)", x.count(2), 1);
        Due.is("hushes(1) again", x.hushes(1), 1);
        Due.is("count(2) again", x.count(2), 3);
        Due.is("hushes(2)", x.hushes(2), -1);
        Due.is("hushes(-1)", x.hushes(-1), -1);
    }

    private static void stylesAndFame() {
        FinishedByAnother x = Due.guild("wa07;wa00;");
        Due.is("styles(0, 9)", x.styles(0, 9), 7);
        Due.is("styles(0, 0)", x.styles(0, 0), 9);
        Due.is("styles(0, 10)", x.styles(0, 10), -6);
        Due.is("styles(0, -1)", x.styles(0, -1), -4);
        Due.is("styles(2, -1)", x.styles(2, -1), -1);
        Due.is("style stays", x.writer(0, 2), 0);
        Due.is("famed(1, 99)", x.famed(1, 99), 50);
        Due.is("famed(1, 0)", x.famed(1, 0), 99);
        Due.is("famed(1, 100)", x.famed(1, 100), -6);
        Due.is("famed(1, -1)", x.famed(1, -1), -4);
        Due.is("famed(2, 100)", x.famed(2, 100), -1);
        Due.is("fame stays", x.writer(1, 3), 0);
    }

    private static void turn() {
        FinishedByAnother x = Due.guild("wf57;");
        Due.is("turn(0, 5, 9)", x.turn(0, 5, 9), 45);
        Due.is("turn(0, 0, 0)", x.turn(0, 0, 0), 59);
        Due.is("turn(0, 1, 3)", x.turn(0, 1, 3), 0);
        Due.is("turn(1, 6, 10)", x.turn(1, 6, 10), -1);
        Due.is("turn(0, 6, -1)", x.turn(0, 6, -1), -2);
        Due.is("turn(0, -1, 10)", x.turn(0, -1, 10), -2);
        Due.is("turn(0, 0, -1)", x.turn(0, 0, -1), -4);
        Due.is("turn(0, 0, 10)", x.turn(0, 0, 10), -6);
        Due.is("kind stays", x.writer(0, 0), 1);
        Due.is("figure stays", x.writer(0, 1), 3);
        Due.is("style stays", x.writer(0, 2), 7);
    }

    private static void years() {
        FinishedByAnother x = Due.guild("wa30;wp10;wg00;");
        // opens 1: 0 +1, 1 +1 for ending; 1 +7, 2 -2 for ending; 2 +3
        Due.is("years(1)", x.years(1), 160);
        Due.is("fame of 0", x.writer(0, 3), 51);
        Due.is("fame of 1", x.writer(1, 3), 58);
        Due.is("fame of 2", x.writer(2, 3), 51);
        Due.is("year", x.count(1), 1);
        Due.is("years(0)", x.years(0), -4);
        Due.is("years(61)", x.years(61), -6);
        Due.is("years(MAX)", x.years(Integer.MAX_VALUE), -6);
        Due.is("years(MIN)", x.years(Integer.MIN_VALUE), -4);
        FinishedByAnother empty = new FinishedByAnother();
        for (int i = 0; i < 16; i++) {
            Due.is("years(60) of nobody", empty.years(60), 0);
        }
        Due.is("years(40) to 1000", empty.years(40), -6);
        Due.is("year stays", empty.count(1), 960);
        Due.is("years(39) to 999", empty.years(39), 0);
        Due.is("years(1) above", empty.years(1), -6);
        Due.is("year 999", empty.count(1), 999);
        FinishedByAnother silent = Due.guild("wa00;wa00;wg00;s2;");
        Due.is("silent ones open nothing and end nothing", silent.years(1), 168);
        Due.is("the silent one's fame", silent.writer(2, 3), 50);
        silent.hushes(1);
        Due.is("one alone has no ender", silent.years(60), 168);
        Due.is("yet the years go by", silent.count(1), 61);
    }

    private static void gains() {
        int[] more = {0, 1, -2, 0, 1, 2};
        for (int kind = 0; kind < 6; kind++) {
            FinishedByAnother x = Due.guild("wa00;wa00;");
            x.turn(1, kind, 0);
            x.years(1);
            // writer 0 is an author of figure 0: the book of 1 is always worth 9
            Due.is("gain of kind " + kind, x.writer(1, 3), 59 + more[kind]);
        }
    }

    private static void heldFame() {
        FinishedByAnother x = Due.guild("wa00;wg00;f099;f100;");
        x.years(1);
        Due.is("at most 99", x.writer(0, 3), 99);
        // 1 ends first: less than 0 is 0, and only then his own book's 9 come
        Due.is("held each time", x.writer(1, 3), 9);
        FinishedByAnother y = Due.guild("wg00;wa00;f099;f150;");
        y.years(1);
        // 0 comes to 99 by his own book, then 1's book, which he ends, costs him 2
        Due.is("held ahead of what comes then", y.writer(0, 3), 97);
        FinishedByAnother low = Due.guild("wa04;wa50;f000;");
        low.years(1);
        Due.is("at least 0", low.writer(0, 3), 0);
    }

    /** From each FAME on, by each WORTH and by each KIND's end: held at 0 and at 99 each time. */
    private static void everyFame() {
        int[] worths = {9, 7, 5, 3, 1, -1};
        int[] more = {0, 1, -2, 0, 1, 2};
        for (int fame = 0; fame <= 99; fame++) {
            FinishedByAnother x = Due.guild("wa00;wa00;");
            for (int figure = 0; figure <= 5; figure++) {
                x.turn(1, 0, figure);
                x.famed(0, fame);
                x.years(1);
                Due.is(fame + " and " + worths[figure], x.writer(0, 3), held(fame + worths[figure]));
            }
            FinishedByAnother y = Due.guild("wa00;wa00;wa00;s2;");
            for (int kind = 0; kind <= 5; kind++) {
                y.turn(1, kind, 0);
                // the ender's number is the greater: he ends first, then his own book is read
                y.turn(0, 0, 5);
                y.famed(1, fame);
                y.years(1);
                Due.is(fame + " by kind " + kind + ", and -1", y.writer(1, 3), held(held(fame + more[kind]) - 1));
                y.turn(1, 0, 5);
                y.turn(0, kind, 0);
                y.famed(0, fame);
                y.years(1);
                Due.is(fame + " and -1, by kind " + kind, y.writer(0, 3), held(held(fame - 1) + more[kind]));
            }
        }
    }

    private static int held(int fame) {
        return fame < 0 ? 0 : fame > 99 ? 99 : fame;
    }

    /** Books are read by numbers, not as they stand in THE RING. */
    private static void byNumbers() {
        // the ring is 2 1 0: book 0 by 2 ahead of book 2 by 1
        FinishedByAnother x = Due.guild("wa00;wa00;wg00;x02;f299;");
        Due.is("ender of 0", x.writer(0, 6), 2);
        x.years(1);
        Due.is("2 loses 2, then has 9", x.writer(2, 3), 99);
        // the ring is 1 2 0: book 0 by 1 ahead of book 1 by 2
        FinishedByAnother y = Due.guild("wa00;wg00;wa00;x01;x02;f199;");
        Due.is("ender of 0 then", y.writer(0, 6), 1);
        y.years(1);
        Due.is("1 loses 2, then has 9", y.writer(1, 3), 99);
        // the ring is 2 0 1: book 1 by 2 ahead of book 2 by 0; book 0 by 1
        FinishedByAnother z = Due.guild("wg00;wa00;wa00;x02;x01;f099;f100;");
        Due.is("ender of 2", z.writer(2, 6), 0);
        z.years(1);
        Due.is("0 has 9 at 99, then loses 2", z.writer(0, 3), 97);
    }
}
