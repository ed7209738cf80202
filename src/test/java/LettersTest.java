/** Promises 1 to 3: a new object, letters, and the guild that they tell. */
public final class LettersTest {
    public static void main(String[] args) {
        newObject();
        letters();
        guilds();
        faultsOfLetters();
        faultsOfStatements();
        earlierLetters();
        faultsChangeNothing();
        fullLetters();
        Due.close("LettersTest");
    }

    private static void newObject() {
        FinishedByAnother x = new FinishedByAnother();
        for (int what = 0; what <= 7; what++) {
            Due.is("new: count(" + what + ")", x.count(what), 0);
        }
        for (int what = 11; what <= 16; what++) {
            Due.is("new: count(" + what + ")", x.count(what), 0);
        }
        Due.is("new: place(0)", x.place(0), -9);
        Due.is("new: on()", x.on(), -3);
        Due.is("new: guild()", x.guild(), -1000);
    }

    private static void letters() {
        FinishedByAnother x = new FinishedByAnother();
        Due.is("letter(0)", x.letter(0), 1);
        Due.is("letter(255)", x.letter(255), 2);
        Due.is("letter(256)", x.letter(256), -6);
        Due.is("letter(-1)", x.letter(-1), -4);
        Due.is("count(7)", x.count(7), 2);
        for (int i = 3; i <= 96; i++) {
            Due.is("letter " + i, x.letter('w'), i);
        }
        Due.is("letter 97", x.letter('w'), -6);
        Due.is("letter 97 below", x.letter(-1), -4);
        Due.is("count(7) full", x.count(7), 96);
        Due.is("count(16)", x.count(16), 2);
        Due.is("count(14)", x.count(14), 2);
    }

    private static void guilds() {
        FinishedByAnother x = Due.guild("wa31;wp45;wg07;wt92;wf23;wd88;");
        int[] kinds = {0, 1, 2, 3, 4, 5};
        int[] figures = {3, 4, 0, 9, 2, 8};
        int[] styles = {1, 5, 7, 2, 3, 8};
        for (int w = 0; w < 6; w++) {
            Due.is("kind of " + w, x.writer(w, 0), kinds[w]);
            Due.is("figure of " + w, x.writer(w, 1), figures[w]);
            Due.is("style of " + w, x.writer(w, 2), styles[w]);
            Due.is("fame of " + w, x.writer(w, 3), 50);
            Due.is("writing " + w, x.writer(w, 4), 1);
            Due.is("place of " + w, x.writer(w, 5), w);
        }
        Due.is("letters are no more", x.count(7), 0);
        Due.is("more statements", Due.told(x, "x05;s1;t29;f307;s4;s4;wa00;"), 7);
        Due.is("place(0)", x.place(0), 5);
        Due.is("place(5)", x.place(5), 0);
        Due.is("place(6)", x.place(6), 6);
        Due.is("1 is silent", x.writer(1, 4), 0);
        Due.is("style of 2", x.writer(2, 2), 9);
        Due.is("fame of 3", x.writer(3, 3), 7);
        Due.is("4 writes again", x.writer(4, 4), 1);
        Due.is("seven of them", x.count(0), 7);
        Due.is("years come", Due.told(new FinishedByAnother(), "y60;y01;"), 2);
        // by years in letters all is as by years()
        FinishedByAnother one = Due.guild("wa30;wp10;wg00;y01;");
        Due.is("fame by letters 0", one.writer(0, 3), 51);
        Due.is("fame by letters 1", one.writer(1, 3), 58);
        Due.is("fame by letters 2", one.writer(2, 3), 51);
        Due.is("year by letters", one.count(1), 1);
    }

    private static void faultOf(String text, int fault) {
        FinishedByAnother x = new FinishedByAnother();
        Due.is("fault of " + text, Due.told(x, text), fault);
        Due.is("letters are no more behind " + text, x.count(7), 0);
        for (int what = 11; what <= 16; what++) {
            Due.is("a fault is no refusal: " + text, x.count(what), 0);
        }
    }

    private static void faultsOfLetters() {
        faultOf("", -1000);
        faultOf("q", -1000);
        faultOf(";", -1000);
        faultOf("w", -1001);
        faultOf("wb", -1001);
        faultOf("wA", -1001);
        faultOf("wa", -1002);
        faultOf("wa0", -1003);
        faultOf("wa0a", -1003);
        faultOf("wa00", -1004);
        faultOf("wa00 ", -1004);
        faultOf("wa00;;", -1005);
        faultOf("wa00;w", -1006);
        faultOf("x0;", -1002);
        faultOf("x00:", -1003);
        faultOf("x/0;", -1001);
        faultOf("x:0;", -1001);
        faultOf("s;", -1001);
        faultOf("s00;", -1002);
        faultOf("t0;", -1002);
        faultOf("t000;", -1003);
        faultOf("f00;", -1003);
        faultOf("f0000;", -1004);
        faultOf("y1;", -1002);
        faultOf("y100;", -1003);
        faultOf("wp00;wg00;wt00;wf00;wd00;wz", -1026);
        // kind 1 comes first, though a statement ahead of it is not as it must be
        faultOf("y99;s9;y", -1008);
    }

    private static void faultsOfStatements() {
        faultOf("x01;", -2000);
        faultOf("wa00;x00;", -2005);
        faultOf("wa00;x01;wa00;", -2005);
        faultOf("wa00;wa00;x02;", -2010);
        faultOf("s0;wa00;", -2000);
        faultOf("wa00;s1;", -2005);
        faultOf("t00;", -2000);
        faultOf("wa00;t10;", -2005);
        faultOf("f099;", -2000);
        faultOf("wa00;f199;", -2005);
        faultOf("y00;", -2000);
        faultOf("y61;", -2000);
        faultOf("y60;y99;", -2004);
        faultOf("wa00;wa00;wa00;wa00;wa00;wa00;wa00;wa00;", -2035);
        // 16 times 60 years are 960: 39 more are the last that go
        String sixteen = "y60;".repeat(16);
        faultOf(sixteen + "y40;", -2064);
        Due.is("to year 999", Due.told(new FinishedByAnother(), sixteen + "y39;"), 17);
        faultOf(sixteen + "y39;y01;", -2068);
    }

    /** Letters that were told earlier are not looked at. */
    private static void earlierLetters() {
        FinishedByAnother x = Due.guild("wa00;wa00;s0;");
        Due.is("nothing told", x.guild(), -1000);
        Due.is("a letter lacks", Due.told(x, "wa00"), -1004);
        Due.is("two letters lack", Due.told(x, "wa00;wa0"), -1008);
        Due.is("two statements", Due.told(x, "s0;s0;"), 2);
        Due.is("one statement", Due.told(x, "s0;"), 1);
        Due.is("one of them", x.count(2), 3);
    }

    private static void faultsChangeNothing() {
        FinishedByAnother x = Due.guild("wa00;wa00;");
        Due.is("fault at the end", Due.told(x, "wd99;x01;s0;t05;f011;y05;s7;"), -2025);
        Due.is("as many as before", x.count(0), 2);
        Due.is("year as before", x.count(1), 0);
        Due.is("ring as before", x.place(0), 0);
        Due.is("writing as before", x.count(2), 3);
        Due.is("fame as before", x.count(3), 100);
        Due.is("styles as before", x.count(4), 0);
        Due.is("the next guild goes", Due.told(x, "wd99;"), 1);
        Due.is("he is the third", x.writer(2, 0), 5);
    }

    private static void fullLetters() {
        FinishedByAnother x = new FinishedByAnother();
        Due.is("24 statements in 96 letters", Due.told(x, "y01;".repeat(24)), 24);
        Due.is("year", x.count(1), 24);
        for (int i = 0; i < 97; i++) {
            x.letter("y01;".charAt(i % 4));
        }
        Due.is("the 97th is not there", x.guild(), 24);
        Due.is("the end of 96", Due.told(x, "y01;".repeat(23) + "x01w"), -1095);
        Due.is("lacks at the end of 96", Due.told(x, "wa00;y01;y01;y01;".repeat(5) + "wa00;wa00;w"), -1096);
    }
}
