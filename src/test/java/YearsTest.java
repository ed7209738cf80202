/** Promises 13, 14 and 18 to 20: years in thought. */
public final class YearsTest {
    public static void main(String[] args) {
        then();
        famous();
        first();
        leads();
        pastTheLastYear();
        seven();
        Due.close("YearsTest");
    }

    private static void then() {
        FinishedByAnother x = Due.guild("wa30;wp10;wg08;s2;y07;s2;");
        for (int w = 0; w < 3; w++) {
            Due.is("fameThen(" + w + ", 0)", x.fameThen(w, 0), x.writer(w, 3));
        }
        FinishedByAnother later = Due.guild("wa30;wp10;wg08;s2;y07;s2;y05;");
        for (int w = 0; w < 3; w++) {
            Due.is("fameThen(" + w + ", 5)", x.fameThen(w, 5), later.writer(w, 3));
            Due.is("opensThen(" + w + ", 5)", x.opensThen(w, 5), later.book(w, 0));
        }
        later.years(55);
        Due.is("fameThen(1, 60)", x.fameThen(1, 60), later.writer(1, 3));
        Due.is("year is as it was", x.count(1), 7);
        Due.is("opensThen(2, 0)", x.opensThen(2, 0), 5);
        Due.is("opensThen(2, 60)", x.opensThen(2, 60), 5);
        Due.is("opensThen(2, 9)", x.opensThen(2, 9), 4);
        x.hushes(2);
        Due.is("opensThen of a silent one", x.opensThen(2, 9), 4);
        Due.is("fameThen of a silent one", x.fameThen(2, 60), x.writer(2, 3));
        Due.is("fameThen(3, -1)", x.fameThen(3, -1), -1);
        Due.is("fameThen(0, -1)", x.fameThen(0, -1), -4);
        Due.is("fameThen(0, 61)", x.fameThen(0, 61), -6);
        Due.is("opensThen(-1, 61)", x.opensThen(-1, 61), -1);
        Due.is("opensThen(0, -1)", x.opensThen(0, -1), -4);
        Due.is("opensThen(0, 61)", x.opensThen(0, 61), -6);
    }

    private static void famous() {
        FinishedByAnother x = Due.guild("wa00;wa00;");
        // 9 more each year: 59, 68, 77, 86, 95, 99
        Due.is("famous(0, 0)", x.famous(0, 0), 0);
        Due.is("famous(0, 50)", x.famous(0, 50), 0);
        Due.is("famous(0, 51)", x.famous(0, 51), 1);
        Due.is("famous(0, 59)", x.famous(0, 59), 1);
        Due.is("famous(0, 60)", x.famous(0, 60), 2);
        Due.is("famous(1, 99)", x.famous(1, 99), 6);
        Due.is("famous(0, 100)", x.famous(0, 100), -6);
        Due.is("famous(0, -1)", x.famous(0, -1), -4);
        Due.is("famous(2, 100)", x.famous(2, 100), -1);
        x.hushes(1);
        Due.is("famous alone", x.famous(0, 51), -9);
        // an author of figure 4: a book is worth 1, so 49 years for 99
        FinishedByAnother slow = Due.guild("wa00;wa40;f039;");
        Due.is("in 60 years", slow.famous(0, 99), 60);
        slow.famed(0, 38);
        Due.is("not in 60 years", slow.famous(0, 99), -9);
    }

    private static void first() {
        FinishedByAnother x = Due.guild("wa00;wa50;wa00;s2;");
        // the book of 0 is worth -1 each year, that of 1 is worth 9
        Due.is("who", x.first(0), 0);
        Due.is("when", x.first(1), 50);
        x.famed(0, 60);
        Due.is("who in 60", x.first(0), 0);
        Due.is("when in 60", x.first(1), 60);
        x.famed(0, 61);
        Due.is("nobody", x.first(0), -9);
        Due.is("never", x.first(1), -9);
        x.famed(2, 0);
        Due.is("the silent one now", x.first(0), 2);
        Due.is("now", x.first(1), 0);
        FinishedByAnother both = Due.guild("wa50;wa50;wa50;f103;f203;");
        Due.is("of several the least", both.first(0), 1);
        Due.is("when both", both.first(1), 3);
        Due.is("first(2)", x.first(2), -2);
        Due.is("first(-1)", x.first(-1), -2);
    }

    private static void leads() {
        FinishedByAnother x = Due.guild("wa00;wa40;wa00;f049;f150;f249;s2;");
        // 0 has 1 more each year, 1 has 9 more
        Due.is("leads(0)", x.leads(0), 1);
        x.famed(0, 60);
        x.famed(1, 53);
        Due.is("leads(0) then", x.leads(0), 0);
        Due.is("not yet", x.leads(0), 0);
        Due.is("behind a year", x.leads(1), 1);
        x.famed(1, 52);
        Due.is("of several the least", x.leads(1), 0);
        x.famed(2, 98);
        Due.is("a silent one", x.leads(1), 2);
        Due.is("all at the greatest", x.leads(60), 0);
        Due.is("leads(-1)", x.leads(-1), -4);
        Due.is("leads(61)", x.leads(61), -6);
        Due.is("nobody leads", new FinishedByAnother().leads(60), -9);
    }

    private static void pastTheLastYear() {
        FinishedByAnother x = Due.guild("y60;".repeat(16) + "y39;wa00;wg03;");
        Due.is("year", x.count(1), 999);
        // opens with 9 + 60
        Due.is("opensThen(0, 60)", x.opensThen(0, 60), 9);
        // in year 1000 it opens with 0, and the grudge ends it with 0
        Due.is("fameThen(0, 1)", x.fameThen(0, 1), 59);
        Due.is("year stays", x.count(1), 999);
    }

    private static void seven() {
        FinishedByAnother x = Due.guild("wa00;wa00;wa00;wa00;wa00;wa00;wa00;f651;");
        Due.is("the last one leads", x.leads(0), 6);
        Due.is("all at the greatest: the least leads", x.leads(60), 0);
        Due.is("the last one is famous", x.famous(6, 51), 0);
        Due.is("all fame a year later", x.years(1), 6 * 59 + 60);
        x.famed(6, 0);
        Due.is("the last one is forgotten", x.first(0), 6);
        Due.is("now", x.first(1), 0);
        Due.is("a year on he is not", x.fameThen(6, 1), 9);
        x.famed(5, 0);
        Due.is("of the last two the least", x.first(0), 5);
    }
}
