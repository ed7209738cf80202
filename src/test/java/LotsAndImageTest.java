/** Promises 41 to 44: guilds by lot, the image, and counts. */
public final class LotsAndImageTest {
    public static void main(String[] args) {
        lots();
        image();
        counts();
        Due.close("LotsAndImageTest");
    }

    private static void lots() {
        FinishedByAnother x = Due.guild("wa31;wp45;wg07;wt92;wf23;wd88;");
        Due.is("lots(5, 7, 0)", x.lots(5, 7, 0), 2768);
        Due.is("lots(5, 7, 1)", x.lots(5, 7, 1), 0);
        Due.is("lots(0, 7, 2)", x.lots(0, 7, 2), -4);
        Due.is("lots(21, 7, 2)", x.lots(21, 7, 2), -6);
        Due.is("lots(20, 7, 2)", x.lots(20, 7, 2), -2);
        Due.is("lots(20, 7, -1)", x.lots(20, 7, -1), -2);
        Due.is("of nobody", new FinishedByAnother().lots(20, -1, 0), 0);
        // each guild begins anew with the fame of now
        Due.is("one alone", Due.guild("wa00;").lots(20, 3, 0), 1000);
        Due.is("at 0", Due.guild("wa00;wa00;s0;s1;f100;").lots(20, 3, 1), 20);
        Due.is("0 at 0", Due.guild("wa00;wa00;s0;s1;f000;").lots(20, 3, 1), 20);
        Due.is("not at 0", Due.guild("wa00;wa00;s0;s1;f101;").lots(20, 3, 1), 0);
    }

    private static void image() {
        FinishedByAnother x = Due.guild("wa30;wp10;wg00;x02;s1;y05;");
        Due.is("on() without", x.on(), -3);
        Due.is("image()", x.image(), 5);
        int fame = x.count(3);
        x.letter('w');
        x.row(7);
        Due.told(x, "wwd99;x01;s2;s1;t09;f099;y60;");
        x.changes(0, 1);
        Due.told(x, "wd99;x01;s2;s1;t09;f099;y60;");
        x.turn(0, 4, 4);
        x.letter('w');
        x.row(-1);
        for (int i = 0; i < 2; i++) {
            Due.is("on()", x.on(), 5);
            Due.is("writers", x.count(0), 3);
            Due.is("year", x.count(1), 5);
            Due.is("writing", x.count(2), 5);
            Due.is("fame", x.count(3), fame);
            Due.is("styles", x.count(4), 0);
            Due.is("place(0)", x.place(0), 2);
            Due.is("place(2)", x.place(2), 0);
            Due.is("kind of 0", x.writer(0, 0), 0);
            Due.is("figure of 0", x.writer(0, 1), 3);
            Due.is("ender of 0", x.writer(0, 6), 2);
            Due.is("the row is as it is", x.count(6), 1);
            Due.is("letters are as they are", x.count(7), 1);
            Due.is("refusals -3 are as they are", x.count(13), 1);
            Due.is("refusals -4 are as they are", x.count(14), 1);
            // what comes behind it leaves the image as it is
            x.years(7);
            x.hushes(0);
        }
        Due.is("another image", x.image(), 12);
        x.years(1);
        Due.is("on() from it", x.on(), 12);
        FinishedByAnother empty = new FinishedByAnother();
        Due.is("image of nobody", empty.image(), 0);
        Due.told(empty, "wa00;");
        Due.is("on to nobody", empty.on(), 0);
        Due.is("nobody again", empty.count(0), 0);
        Due.is("nobody's writer", empty.writer(0, 0), -1);
    }

    private static void counts() {
        FinishedByAnother x = Due.guild("wa31;wp15;wg07;s1;y02;");
        x.letter('x');
        x.letter('0');
        x.row(5);
        x.writer(9, 0);
        x.writer(0, 9);
        x.writer(0, 9);
        x.on();
        x.on();
        x.on();
        for (int i = 0; i < 4; i++) {
            x.place(-1);
        }
        for (int i = 0; i < 6; i++) {
            x.years(61);
        }
        Due.is("count(0)", x.count(0), 3);
        Due.is("count(1)", x.count(1), 2);
        Due.is("count(2)", x.count(2), 5);
        Due.is("count(3)", x.count(3), x.writer(0, 3) + x.writer(1, 3) + x.writer(2, 3));
        Due.is("count(4)", x.count(4), 13);
        Due.is("count(5)", x.count(5), Integer.bitCount(x.well()));
        Due.is("count(6)", x.count(6), 1);
        Due.is("count(7)", x.count(7), 2);
        Due.is("count(11)", x.count(11), 1);
        Due.is("count(12)", x.count(12), 2);
        Due.is("count(13)", x.count(13), 3);
        Due.is("count(14)", x.count(14), 4);
        Due.is("count(15)", x.count(15), 0);
        Due.is("count(16)", x.count(16), 6);
        for (int what : new int[] {-1, 8, 9, 10, 17, Integer.MIN_VALUE, Integer.MAX_VALUE}) {
            Due.is("count(" + what + ")", x.count(what), -9);
        }
        Due.is("another what is no refusal", x.count(12), 2);
    }
}
