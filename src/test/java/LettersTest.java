/** Promises 1 to 3: a new object, letters, and the guild that they tell. */
public final class LettersTest {
    public static void main(String[] args) {
        newObject();
        letters();
        guilds();
        faultsOfLetters();
        faultsOfStatements();
        earlierLetters();
        faultsChangeNothing();
        fullLetters();
        everyLetterAtEveryPlace();
        everyDigit();
        everyYear();
        statementsAsCalls();
        Due.close("LettersTest");
    }

    private static void newObject() {
        FinishedByAnother x = new FinishedByAnother();
        for (int what = 0; what <= 7; what++) {
            Due.is("new: count(" + what + ")", x.count(what), 0);
        }
        for (int what = 11; what <= 16; what++) {
            Due.is("new: count(" + what + ")", x.count(what), 0);
        }
        Due.is("new: place(0)", x.place(0), -9);
        Due.is("new: on()", x.on(), -3);
        Due.is("new: guild()", x.guild(), -1000);
    }

    private static void letters() {
        FinishedByAnother x = new FinishedByAnother();
        Due.is("letter(0)", x.letter(0), 1);
        Due.is("letter(255)", x.letter(255), 2);
        Due.is("letter(256)", x.letter(256), -6);
        Due.is("letter(-1)", x.letter(-1), -4);
        Due.is("count(7)", x.count(7), 2);
        for (int i = 3; i <= 96; i++) {
            Due.is("letter " + i, x.letter('w'), i);
        }
        Due.is("letter 97", x.letter('w'), -6);
        Due.is("letter 97 below", x.letter(-1), -4);
        Due.is("count(7) full", x.count(7), 96);
        Due.is("count(16)", x.count(16), 2);
        Due.is("count(14)", x.count(14), 2);
    }

    private static void guilds() {
        FinishedByAnother x = Due.guild("wa31;wp45;wg07;wt92;wf23;wd88;");
        int[] kinds = {0, 1, 2, 3, 4, 5};
        int[] figures = {3, 4, 0, 9, 2, 8};
        int[] styles = {1, 5, 7, 2, 3, 8};
        for (int w = 0; w < 6; w++) {
            Due.is("kind of " + w, x.writer(w, 0), kinds[w]);
            Due.is("figure of " + w, x.writer(w, 1), figures[w]);
            Due.is("style of " + w, x.writer(w, 2), styles[w]);
            Due.is("fame of " + w, x.writer(w, 3), 50);
            Due.is("writing " + w, x.writer(w, 4), 1);
            Due.is("place of " + w, x.writer(w, 5), w);
        }
        Due.is("letters are no more", x.count(7), 0);
        Due.is("more statements", Due.told(x, "x05;s1;t29;f307;s4;s4;wa00;"), 7);
        Due.is("place(0)", x.place(0), 5);
        Due.is("place(5)", x.place(5), 0);
        Due.is("place(6)", x.place(6), 6);
        Due.is("1 is silent", x.writer(1, 4), 0);
        Due.is("style of 2", x.writer(2, 2), 9);
        Due.is("fame of 3", x.writer(3, 3), 7);
        Due.is("4 writes again", x.writer(4, 4), 1);
        Due.is("seven of them", x.count(0), 7);
        Due.is("years come", Due.told(new FinishedByAnother(), "y60;y01;"), 2);
        // by years in letters all is as by years()
        FinishedByAnother one = Due.guild("wa30;wp10;wg00;y01;");
        Due.is("fame by letters 0", one.writer(0, 3), 51);
        Due.is("fame by letters 1", one.writer(1, 3), 58);
        Due.is("fame by letters 2", one.writer(2, 3), 51);
        Due.is("year by letters", one.count(1), 1);
    }

    private static void faultOf(String text, int fault) {
        FinishedByAnother x = new FinishedByAnother();
        Due.is("fault of " + text, Due.told(x, text), fault);
        Due.is("letters are no more behind " + text, x.count(7), 0);
        for (int what = 11; what <= 16; what++) {
            Due.is("a fault is no refusal: " + text, x.count(what), 0);
        }
    }

    private static void faultsOfLetters() {
        faultOf("", -1000);
        faultOf("q", -1000);
        faultOf(";", -1000);
        faultOf("w", -1001);
        faultOf("wb", -1001);
        faultOf("wA", -1001);
        faultOf("wa", -1002);
        faultOf("wa0", -1003);
        faultOf("wa0a", -1003);
        faultOf("wa00", -1004);
        faultOf("wa00 ", -1004);
        faultOf("wa00;;", -1005);
        faultOf("wa00;w", -1006);
        faultOf("x0;", -1002);
        faultOf("x00:", -1003);
        faultOf("x/0;", -1001);
        faultOf("x:0;", -1001);
        faultOf("s;", -1001);
        faultOf("s00;", -1002);
        faultOf("t0;", -1002);
        faultOf("t000;", -1003);
        faultOf("f00;", -1003);
        faultOf("f0000;", -1004);
        faultOf("y1;", -1002);
        faultOf("y100;", -1003);
        faultOf("wp00;wg00;wt00;wf00;wd00;wz", -1026);
        // kind 1 comes first, though a statement ahead of it is not as it must be
        faultOf("y99;s9;y", -1008);
    }

    private static void faultsOfStatements() {
        faultOf("x01;", -2000);
        faultOf("wa00;x00;", -2005);
        faultOf("wa00;x01;wa00;", -2005);
        faultOf("wa00;wa00;x02;", -2010);
        faultOf("s0;wa00;", -2000);
        faultOf("wa00;s1;", -2005);
        faultOf("t00;", -2000);
        faultOf("wa00;t10;", -2005);
        faultOf("f099;", -2000);
        faultOf("wa00;f199;", -2005);
        faultOf("y00;", -2000);
        faultOf("y61;", -2000);
        faultOf("y60;y99;", -2004);
        faultOf("wa00;wa00;wa00;wa00;wa00;wa00;wa00;wa00;", -2035);
        // 16 times 60 years are 960: 39 more are the last that go
        String sixteen = "y60;".repeat(16);
        faultOf(sixteen + "y40;", -2064);
        Due.is("to year 999", Due.told(new FinishedByAnother(), sixteen + "y39;"), 17);
        faultOf(sixteen + "y39;y01;", -2068);
    }

    /** Letters that were told earlier are not looked at. */
    private static void earlierLetters() {
        FinishedByAnother x = Due.guild("wa00;wa00;s0;");
        Due.is("nothing told", x.guild(), -1000);
        Due.is("a letter lacks", Due.told(x, "wa00"), -1004);
        Due.is("two letters lack", Due.told(x, "wa00;wa0"), -1008);
        Due.is("two statements", Due.told(x, "s0;s0;"), 2);
        Due.is("one statement", Due.told(x, "s0;"), 1);
        Due.is("one of them", x.count(2), 3);
    }

    private static void faultsChangeNothing() {
        FinishedByAnother x = Due.guild("wa00;wa00;");
        Due.is("fault at the end", Due.told(x, "wd99;x01;s0;t05;f011;y05;s7;"), -2025);
        Due.is("as many as before", x.count(0), 2);
        Due.is("year as before", x.count(1), 0);
        Due.is("ring as before", x.place(0), 0);
        Due.is("writing as before", x.count(2), 3);
        Due.is("fame as before", x.count(3), 100);
        Due.is("styles as before", x.count(4), 0);
        Due.is("the next guild goes", Due.told(x, "wd99;"), 1);
        Due.is("he is the third", x.writer(2, 0), 5);
    }

    private static void fullLetters() {
        FinishedByAnother x = new FinishedByAnother();
        Due.is("24 statements in 96 letters", Due.told(x, "y01;".repeat(24)), 24);
        Due.is("year", x.count(1), 24);
        for (int i = 0; i < 97; i++) {
            x.letter("y01;".charAt(i % 4));
        }
        Due.is("the 97th is not there", x.guild(), 24);
        Due.is("the end of 96", Due.told(x, "y01;".repeat(23) + "x01w"), -1095);
        Due.is("lacks at the end of 96", Due.told(x, "wa00;y01;y01;y01;".repeat(5) + "wa00;wa00;w"), -1096);
    }

    /** Each of the 256 letters at each place of each STATEMENT, with nothing and with STATEMENTS ahead. */
    private static void everyLetterAtEveryPlace() {
        String digits = "0123456789";
        String[][] forms = {
            {"w", "apgtfd", digits, digits, ";"}, {"x", digits, digits, ";"}, {"s", digits, ";"},
            {"t", digits, digits, ";"}, {"f", digits, digits, digits, ";"}, {"y", digits, digits, ";"}};
        String[] told = {"wp37;", "x10;", "s1;", "t19;", "f199;", "y60;"};
        for (String ahead : new String[] {"", "wa00;wd99;", "y01;"}) {
            for (int form = 0; form < forms.length; form++) {
                for (int place = 0; place < forms[form].length; place++) {
                    String text = ahead + told[form].substring(0, place);
                    for (int c = 0; c < 256; c++) {
                        boolean first = place == 0 && "wxstfy".indexOf(c) >= 0;
                        boolean goesOn = first || place > 0 && forms[form][place].indexOf(c) >= 0;
                        letterBehind(text, c, goesOn, place + 1 == forms[form].length);
                    }
                }
            }
        }
    }

    private static void letterBehind(String text, int c, boolean goesOn, boolean last) {
        int answer = Due.told(new FinishedByAnother(), text + (char) c);
        String what = "letter " + c + " behind " + text;
        if (!goesOn) {
            Due.is(what, answer, -1000 - text.length());
        } else if (!last) {
            Due.is(what + ", then the end", answer, -1000 - text.length() - 1);
        } else {
            Due.holds(what + " is no fault of letters: " + answer, answer > 0 || answer <= -2000);
        }
    }

    /** With each number of WRITERS: which digits name one, and all numbers that a STATEMENT holds. */
    private static void everyDigit() {
        for (int size = 0; size <= 7; size++) {
            String ahead = "wa00;".repeat(size);
            statement(ahead, "wd99;", size < 7);
            for (int a = 0; a <= 9; a++) {
                statement(ahead, "s" + a + ";", a < size);
                statement(ahead, "f" + a + "00;", a < size);
                statement(ahead, "f" + a + "99;", a < size);
                for (int b = 0; b <= 9; b++) {
                    statement(ahead, "x" + a + b + ";", a < size && b < size && a != b);
                    statement(ahead, "t" + a + b + ";", a < size);
                    int years = 10 * a + b;
                    statement(ahead, "y" + a + b + ";", years >= 1 && years <= 60);
                }
            }
        }
    }

    private static void statement(String ahead, String statement, boolean goes) {
        int statements = ahead.length() / 5 + 1;
        Due.is(ahead + statement, Due.told(new FinishedByAnother(), ahead + statement), goes ? statements : -2000 - ahead.length());
        // one that names a WRITER who only comes behind it is not as it must be, either
        if (!goes && statement.charAt(0) != 'w' && statements <= 7) {
            Due.is(ahead + statement + "wa00;", Due.told(new FinishedByAnother(), ahead + statement + "wa00;"), -2000 - ahead.length());
        }
    }

    /** With so many YEARS left till 999, by years() ahead of it and by the STATEMENT ahead of it. */
    private static void everyYear() {
        for (int left = 0; left <= 62; left++) {
            for (int years = 0; years <= 99; years++) {
                FinishedByAnother x = new FinishedByAnother();
                for (int i = 0; i < 15; i++) {
                    x.years(60);
                }
                x.years(33);
                String two = "y" + years / 10 + years % 10 + ";";
                boolean goes = years >= 1 && years <= Math.min(60, left);
                int ahead = 66 - left;
                String first = ahead > 60 ? "y60;y0" + (ahead - 60) + ";" : "y" + ahead / 10 + ahead % 10 + ";";
                Due.is(left + " left: " + two, Due.told(x, first + two), goes ? first.length() / 4 + 1 : -2000 - first.length());
                Due.is(left + " left: year", x.count(1), goes ? 999 - left + years : 933);
            }
        }
    }

    /** A STATEMENT changes what the call for it does, and nothing else. */
    private static void statementsAsCalls() {
        String guild = "wg05;wt13;wd27;wp40;wf38;x13;s3;y07;";
        String[][] pairs = {
            {"x04;", "changes 0 4"}, {"x31;", "changes 3 1"}, {"s0;", "hushes 0"}, {"s3;", "hushes 3"},
            {"t29;", "styles 2 9"}, {"t40;", "styles 4 0"}, {"f107;", "famed 1 7"}, {"f070;", "famed 0 70"},
            {"f499;", "famed 4 99"}, {"f300;", "famed 3 0"}, {"y01;", "years 1"}, {"y60;", "years 60"}, {"y35;", "years 35"}};
        for (String[] pair : pairs) {
            FinishedByAnother letters = Due.guild(guild + pair[0]);
            FinishedByAnother calls = Due.guild(guild);
            Calls.ask(calls, pair[1]);
            Due.same(pair[0] + " is as " + pair[1], Calls.answers(letters), Calls.answers(calls));
        }
        FinishedByAnother twice = Due.guild(guild + "s0;s0;x04;x04;");
        Due.same("told twice", Calls.answers(twice), Calls.answers(Due.guild(guild)));
        FinishedByAnother apart = Due.guild("wg05;wt13;wd27;");
        Due.is("the other half", Due.told(apart, "wp40;wf38;x13;s3;y07;"), 5);
        Due.same("told in two guilds", Calls.answers(apart), Calls.answers(Due.guild(guild)));
        // whoever comes is the last in THE RING, has FAME 50 and is WRITING, whatever went ahead of him
        FinishedByAnother late = Due.guild("wa00;wa00;x01;s0;s1;f000;f100;y60;wd98;");
        int[] due = {5, 9, 8, 50, 1, 2, -9};
        for (int what = 0; what <= 6; what++) {
            Due.is("who comes late: " + what, late.writer(2, what), due[what]);
        }
    }
}
