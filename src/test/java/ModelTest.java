import java.util.Random;

/** All promises, by chance (the same at each run): the class against the model. */
public final class ModelTest {
    private static final int OBJECTS = 1500;
    private static final int ROUNDS = 3;

    private final Random random;
    private final FinishedByAnother x = new FinishedByAnother();
    private final Model m = new Model();
    private Model kept = null;

    private ModelTest(int seed) {
        random = new Random(seed);
    }

    public static void main(String[] args) {
        for (int seed = 0; seed < OBJECTS; seed++) {
            ModelTest test = new ModelTest(seed);
            if (seed % 4 == 3) {
                test.tellSeven();
            }
            for (int round = 0; round < ROUNDS; round++) {
                test.tellGuild();
                test.change();
                test.ask();
            }
        }
        Due.close("ModelTest");
    }

    private int below(int n) {
        return random.nextInt(n);
    }

    private void tellSeven() {
        StringBuilder text = new StringBuilder();
        for (int w = 0; w < 7; w++) {
            text.append('w').append("apgtfd".charAt(below(6))).append(below(10)).append(below(10)).append(';');
        }
        for (int w = 0; w < 7; w++) {
            text.append('x').append(w).append((w + 1 + below(6)) % 7).append(';');
        }
        for (int w = 0; w < 7; w++) {
            text.append(below(5) == 0 ? "s" + w + ";" : "");
        }
        Due.is("guild of " + text, Due.told(x, text.toString()), m.guild(text.toString()));
    }

    private void tellGuild() {
        StringBuilder text = new StringBuilder();
        int coming = m.size();
        for (int statements = 1 + below(5); statements > 0 && text.length() < 30; statements--) {
            int most = Math.max(1, coming);
            switch (coming < 2 ? 0 : below(7)) {
                case 0:
                case 1:
                    text.append('w').append("apgtfd".charAt(below(6))).append(below(10)).append(below(10));
                    coming++;
                    break;
                case 2:
                    text.append('x').append(below(most)).append(below(most));
                    break;
                case 3:
                    text.append('s').append(below(most));
                    break;
                case 4:
                    text.append('t').append(below(most)).append(below(10));
                    break;
                case 5:
                    text.append('f').append(below(most)).append(below(10)).append(below(10));
                    break;
                default:
                    text.append('y').append(below(65) / 10).append(below(10));
                    break;
            }
            text.append(';');
        }
        if (below(6) == 0) {
            text.setCharAt(below(text.length()), "wxsty;0189apgfd".charAt(below(15)));
        }
        if (below(12) == 0) {
            text.setLength(below(text.length()));
        }
        Due.is("guild of " + text, Due.told(x, text.toString()), m.guild(text.toString()));
    }

    private void change() {
        if (m.size() == 0) {
            return;
        }
        int w = below(m.size());
        Model.Writer writer = m.of(w);
        switch (below(8)) {
            case 0:
                m.become(m.hushed(w));
                Due.is("hushes", x.hushes(w), m.of(w).writing ? 1 : 0);
                break;
            case 1:
                int style = below(10);
                Due.is("styles", x.styles(w, style), writer.style);
                writer.style = style;
                break;
            case 2:
                int fame = below(100);
                Due.is("famed", x.famed(w, fame), writer.fame);
                writer.fame = fame;
                break;
            case 3:
                int kind = below(6);
                int figure = below(10);
                Due.is("turn", x.turn(w, kind, figure), 10 * "apgtfd".indexOf(writer.kind) + writer.figure);
                writer.kind = "apgtfd".charAt(kind);
                writer.figure = figure;
                break;
            case 4:
                int other = below(m.size());
                if (other != w) {
                    m.become(m.swapped(w, other));
                    Due.is("changes", x.changes(w, other), m.ring.indexOf(w));
                }
                break;
            case 5:
                int n = 1 + below(60);
                if (m.year + n <= 999) {
                    m.become(m.passed(n));
                    Due.is("years", x.years(n), m.allFame());
                }
                break;
            case 6:
                kept = m.copy();
                Due.is("image", x.image(), m.year);
                break;
            default:
                if (kept != null) {
                    m.become(kept);
                    Due.is("on", x.on(), m.year);
                }
                break;
        }
    }

    private void ask() {
        askAll();
        for (int i = 0; i < m.size(); i++) {
            Due.is("place " + i, x.place(i), m.ring.get(i));
            for (int what = 0; what <= 6; what++) {
                Due.is("writer " + i + " " + what, x.writer(i, what), m.writer(i, what));
            }
        }
        if (m.size() > 0) {
            int w = below(m.size());
            askOne(w);
            askRow(w);
            if (m.of(w).writing) {
                askBook(w);
            }
        }
    }

    private void askAll() {
        int what = below(2);
        int n = below(61);
        Due.is("worth", x.worth(), m.allWorth());
        Due.is("well", x.well(), m.well());
        Due.is("read 0", x.read(0), m.read(1));
        Due.is("read 1", x.read(1), m.read(-1));
        Due.is("first", x.first(what), m.first(what));
        Due.is("leads", x.leads(n), m.leads(n));
        int i = below(m.size() + 2) - 1;
        Due.is("ring " + i, x.ring(i), m.ringAt(i));
        Due.is("bribe", x.bribe(), m.bribe());
        Due.is("hush", x.hush(), m.hush());
        Due.is("mutual", x.mutual(), m.mutual());
        Due.is("same", x.same(what), m.same(what));
        int y = below(10);
        Due.is("ending", x.ending(y), m.ending(y));
        Due.is("join", x.join(), m.join());
        Due.is("mean", x.mean(what), m.mean(what));
        int z = random.nextInt();
        Due.is("lots", x.lots(1 + n / 4, z, what), m.lots(1 + n / 4, z, what));
        Due.is("count 5", x.count(5), Integer.bitCount(m.well()));
    }

    private void askOne(int w) {
        int n = below(61);
        int v = below(100);
        int t = 2 + below(19);
        Due.is("fameThen", x.fameThen(w, n), m.passed(n).of(w).fame);
        Due.is("opensThen", x.opensThen(w, n), m.passed(n).opens(w));
        Due.is("famous", x.famous(w, v), m.famous(w, v));
        Due.is("moves", x.moves(w), m.moves(w));
        Due.is("chain", x.chain(w), m.chain(w));
        int near = Math.max(0, Math.min(99, m.of(w).fame + below(40) - 15));
        Due.is("censor", x.censor(w, n % 8, t, near, v % 2), m.censor(w, n % 8, t, near, v % 2));
    }

    private void askBook(int w) {
        Due.is("book 0", x.book(w, 0), m.opens(w));
        Due.is("book 1", x.book(w, 1), m.isBook(w) ? m.ends(w) : -9);
        Due.is("book 2", x.book(w, 2), m.worth(w));
        Due.is("ownBribe", x.ownBribe(w), m.ownBribe(w));
        for (int what = 0; what < 2; what++) {
            Due.is("page", x.page(w, what), m.page(w, what));
            Due.is("ender", x.ender(w, what), m.bestEnder(w, what));
        }
        int other = below(m.size());
        if (other != w && m.of(other).writing) {
            Due.is("two", x.two(w, other), m.two(w, other));
        }
    }

    /** Rows that are nearly so: what goes on in truth, with a number changed now and then. */
    private void askRow(int w) {
        int length = below(17);
        Model as = m.copy();
        if (as.ender(w) != null && below(2) == 0) {
            as.of(as.ender(w)).figure = below(10);
        }
        rowOf(length, n -> as.passed(n).of(w).fame);
        Due.is("whatIs 0", x.whatIs(w, 0), m.whatIs(w, 0));
        Due.is("whatIs 1", x.whatIs(w, 1), m.whatIs(w, 1));
        int ender = below(m.size());
        rowOf(length, n -> {
            int opens = m.passed(n / 2).opens(w);
            return n % 2 == 0 ? opens : m.endBy(ender, opens);
        });
        Due.is("whoEnded", x.whoEnded(w), m.whoEnded(w));
        rowOf(below(m.size() + 2), n -> n < m.size() && m.isBook(n) ? m.ends(n) : 10);
        Due.is("judge", x.judge(), m.judge());
        Due.is("count 6", x.count(6), 0);
    }

    private void rowOf(int length, java.util.function.IntUnaryOperator numbers) {
        x.clear();
        m.row.clear();
        int off = below(3) == 0 ? below(17) : -1;
        for (int n = 0; n < length; n++) {
            int number = n == off ? below(100) : numbers.applyAsInt(n);
            Due.is("row", x.row(number), n + 1);
            m.row.add(number);
        }
    }
}
