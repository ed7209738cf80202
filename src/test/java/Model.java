import java.math.BigInteger;
import java.util.ArrayList;
import java.util.HashMap;
import java.util.List;
import java.util.Map;

/**
 * The document once more, by other means (lists, maps, text, all rings by recursion),
 * so that a slip in one of the two shows. Without the refusals: those are asked for by hand.
 */
final class Model {
    static final class Writer {
        char kind;
        int figure;
        int style;
        int fame = 50;
        boolean writing = true;

        Writer copy() {
            Writer w = new Writer();
            w.kind = kind;
            w.figure = figure;
            w.style = style;
            w.fame = fame;
            w.writing = writing;
            return w;
        }
    }

    List<Writer> writers = new ArrayList<>();
    List<Integer> ring = new ArrayList<>();
    int year = 0;
    List<Integer> row = new ArrayList<>();

    Model copy() {
        Model m = new Model();
        for (Writer w : writers) {
            m.writers.add(w.copy());
        }
        m.ring.addAll(ring);
        m.year = year;
        m.row.addAll(row);
        return m;
    }

    int size() {
        return writers.size();
    }

    Writer of(int w) {
        return writers.get(w);
    }

    static int end(char kind, int figure, int x) {
        String author = "" + (x + figure) % 10;
        int poet = 9 - Integer.parseInt(author);
        switch (kind) {
            case 'a': return Integer.parseInt(author);
            case 'p': return poet;
            case 'g': return 0;
            case 't': return 5;
            case 'f': return x <= 4 ? poet : x;
            case 'd': return List.of(1, 3, 5, 7, 9).contains(x) ? 9 : 0;
            default: throw new IllegalStateException();
        }
    }

    static int gain(char kind) {
        return Map.of('a', 0, 'p', 1, 'g', -2, 't', 0, 'f', 1, 'd', 2).get(kind);
    }

    static int worth(int x, int y) {
        int far = 0;
        while ((x + far) % 10 != y && (y + far) % 10 != x) {
            far++;
        }
        return 9 - 2 * far;
    }

    int opens(int w) {
        return (of(w).style + year) % 10;
    }

    Integer ender(int w) {
        int at = ring.indexOf(w);
        for (int i = 1; i < size(); i++) {
            int next = ring.get((at + i) % size());
            if (of(next).writing) {
                return next;
            }
        }
        return null;
    }

    boolean isBook(int w) {
        return of(w).writing && ender(w) != null;
    }

    int endBy(int e, int x) {
        return end(of(e).kind, of(e).figure, x);
    }

    Integer ends(int w) {
        return isBook(w) ? (Integer) endBy(ender(w), opens(w)) : null;
    }

    int worthBy(int w, int e) {
        return worth(opens(w), endBy(e, opens(w)));
    }

    int worth(int w) {
        return isBook(w) ? worthBy(w, ender(w)) : 0;
    }

    int allWorth() {
        int all = 0;
        for (int w = 0; w < size(); w++) {
            all += worth(w);
        }
        return all;
    }

    void fame(int w, int more) {
        of(w).fame += more;
        if (of(w).fame < 0) {
            of(w).fame = 0;
        }
        if (of(w).fame > 99) {
            of(w).fame = 99;
        }
    }

    Model passed(int n) {
        Model m = copy();
        for (int i = 0; i < n; i++) {
            m.year++;
            for (int w = 0; w < size(); w++) {
                if (m.isBook(w)) {
                    m.fame(w, m.worth(w));
                    m.fame(m.ender(w), gain(m.of(m.ender(w)).kind));
                }
            }
        }
        return m;
    }

    void become(Model m) {
        Model c = m.copy();
        writers = c.writers;
        ring = c.ring;
        year = c.year;
    }

    int allFame() {
        int all = 0;
        for (Writer w : writers) {
            all += w.fame;
        }
        return all;
    }

    Model swapped(int a, int b) {
        Model m = copy();
        m.ring.set(ring.indexOf(a), b);
        m.ring.set(ring.indexOf(b), a);
        return m;
    }

    Model hushed(int w) {
        Model m = copy();
        m.of(w).writing ^= true;
        return m;
    }

    Model behind(int w, int other) {
        Model m = copy();
        m.ring.remove((Integer) w);
        m.ring.add(m.ring.indexOf(other) + 1, w);
        return m;
    }

    int guild(String text) {
        int fault = lettersFault(text);
        if (fault >= 0) {
            return -1000 - fault;
        }
        Model m = copy();
        int place = 0;
        String[] statements = text.split(";");
        for (String s : statements) {
            if (!m.statement(s)) {
                return -2000 - place;
            }
            place += s.length() + 1;
        }
        become(m);
        return statements.length;
    }

    private static final String[] FORMS = {
        "w[apgtfd][0-9][0-9];", "x[0-9][0-9];", "s[0-9];", "t[0-9][0-9];", "f[0-9][0-9][0-9];", "y[0-9][0-9];"};

    /** The longest prefix that some telling goes on from: a partial match is asked of the matcher. */
    private static int lettersFault(String text) {
        java.util.regex.Pattern all = java.util.regex.Pattern.compile("(" + String.join("|", FORMS) + ")+");
        for (int n = 1; n <= text.length(); n++) {
            java.util.regex.Matcher m = all.matcher(text.substring(0, n));
            if (!m.matches() && !m.hitEnd()) {
                return n - 1;
            }
        }
        return all.matcher(text).matches() ? -1 : text.length();
    }

    private boolean statement(String s) {
        int one = s.charAt(1) - '0';
        int number = s.charAt(0) == 'w' ? 0 : Integer.parseInt(s.substring(1));
        switch (s.charAt(0)) {
            case 'w': {
                Writer w = new Writer();
                w.kind = s.charAt(1);
                w.figure = s.charAt(2) - '0';
                w.style = s.charAt(3) - '0';
                writers.add(w);
                ring.add(ring.size());
                return size() <= 7;
            }
            case 'x':
                if (one >= size() || number % 10 >= size() || one == number % 10) {
                    return false;
                }
                become(swapped(one, number % 10));
                return true;
            case 's':
                if (one >= size()) {
                    return false;
                }
                become(hushed(one));
                return true;
            case 't':
                if (one >= size()) {
                    return false;
                }
                of(one).style = number % 10;
                return true;
            case 'f':
                if (one >= size()) {
                    return false;
                }
                of(one).fame = number % 100;
                return true;
            default:
                if (number < 1 || number > 60 || year + number > 999) {
                    return false;
                }
                become(passed(number));
                return true;
        }
    }

    int famous(int w, int v) {
        for (int n = 0; n <= 60; n++) {
            if (passed(n).of(w).fame >= v) {
                return n;
            }
        }
        return -9;
    }

    int first(int what) {
        for (int n = 0; n <= 60; n++) {
            Model m = passed(n);
            for (int w = 0; w < size(); w++) {
                if (m.of(w).fame == 0) {
                    return what == 0 ? w : n;
                }
            }
        }
        return -9;
    }

    int leads(int n) {
        Model m = passed(n);
        int best = -9;
        for (int w = size() - 1; w >= 0; w--) {
            if (best < 0 || m.of(w).fame >= m.of(best).fame) {
                best = w;
            }
        }
        return best;
    }

    int well() {
        int bits = 0;
        for (int w = 0; w < size(); w++) {
            bits += worth(w) >= 5 ? Math.pow(2, w) : 0;
        }
        return bits;
    }

    int read(int sign) {
        int best = -9;
        for (int w = size() - 1; w >= 0; w--) {
            if (isBook(w) && (best < 0 || sign * worth(w) >= sign * worth(best))) {
                best = w;
            }
        }
        return best;
    }

    int join() {
        int best = -9;
        for (int far = 0; far <= 5; far++) {
            for (int w = size() - 1; w >= 0; w--) {
                if (isBook(w) && ((opens(w) + far) % 10 == ends(w) || (ends(w) + far) % 10 == opens(w))) {
                    best = w;
                }
            }
            if (far < 5 && best >= 0 && farther(far)) {
                best = -9;
            }
        }
        return best;
    }

    private boolean farther(int far) {
        for (int w = 0; w < size(); w++) {
            if (isBook(w) && worth(w) < 9 - 2 * far) {
                return true;
            }
        }
        return false;
    }

    private int bestRingWorth;
    private List<Integer> bestRing;

    int ringAt(int i) {
        bestRing = null;
        bestRingWorth = 0;
        if (size() > 0) {
            Model m = copy();
            m.ring = new ArrayList<>(ring.subList(0, 1));
            grow(m);
        }
        if (i == -1) {
            return bestRingWorth;
        }
        return i < size() ? bestRing.get(i) : -9;
    }

    private void grow(Model m) {
        if (m.ring.size() == size()) {
            if (bestRing == null || m.allWorth() > bestRingWorth) {
                bestRing = new ArrayList<>(m.ring);
                bestRingWorth = m.allWorth();
            }
            return;
        }
        for (int w = 0; w < size(); w++) {
            if (!m.ring.contains(w)) {
                m.ring.add(w);
                grow(m);
                m.ring.remove(m.ring.size() - 1);
            }
        }
    }

    int bribe() {
        int most = allWorth();
        int two = -9;
        for (int number = 0; number < 100; number++) {
            int a = number / 10;
            int b = number % 10;
            if (a < b && b < size() && swapped(a, b).allWorth() > most) {
                most = swapped(a, b).allWorth();
                two = number;
            }
        }
        return two;
    }

    int ownBribe(int w) {
        int most = worth(w);
        int other = -9;
        for (int o = 0; o < size(); o++) {
            if (o != w && swapped(o, w).worth(w) > most) {
                most = swapped(o, w).worth(w);
                other = o;
            }
        }
        return other;
    }

    int page(int w, int what) {
        int best = 0;
        Model m = copy();
        Map<Integer, Integer> worths = new HashMap<>();
        for (int s = 0; s < 10; s++) {
            m.of(w).style = s;
            worths.put(s, m.worth(w));
            best = worths.get(s) > worths.get(best) ? s : best;
        }
        return what == 0 ? best : worths.get(best);
    }

    int bestEnder(int w, int what) {
        int best = -9;
        for (int o = size() - 1; o >= 0; o--) {
            if (o != w && (best < 0 || worthBy(w, o) >= worthBy(w, best))) {
                best = o;
            }
        }
        return what == 0 ? best : best < 0 ? 0 : worthBy(w, best);
    }

    int hush() {
        int most = allWorth();
        int who = -9;
        for (int w = 0; w < size(); w++) {
            if (of(w).writing && hushed(w).allWorth() > most) {
                most = hushed(w).allWorth();
                who = w;
            }
        }
        return who;
    }

    int moves(int w) {
        Model m = copy();
        int moves = 0;
        while (m.ring.get(0) != w) {
            int before = m.ring.get(m.ring.indexOf(w) - 1);
            m = m.swapped(before, w);
            moves++;
        }
        return moves;
    }

    int mutual() {
        int twos = 0;
        for (int a = 0; a < size(); a++) {
            for (int b = a + 1; b < size(); b++) {
                Integer e = ender(a);
                Integer f = ender(b);
                twos += e != null && f != null && e == b && f == a ? 1 : 0;
            }
        }
        return twos;
    }

    int chain(int w) {
        if (!isBook(w)) {
            return 0;
        }
        List<Integer> met = new ArrayList<>();
        for (int at = w; !met.contains(at); at = ender(at)) {
            met.add(at);
        }
        return met.size();
    }

    int same(int what) {
        List<Integer> twos = new ArrayList<>();
        for (int a = 0; a < size(); a++) {
            for (int b = a + 1; b < size(); b++) {
                if (of(a).writing && of(b).writing && opens(a) == opens(b)) {
                    twos.add(10 * a + b);
                }
            }
        }
        return what == 0 ? twos.size() : twos.isEmpty() ? -9 : twos.get(0);
    }

    int ending(int y) {
        int many = 0;
        for (int w = 0; w < size(); w++) {
            many += isBook(w) && ends(w) == y ? 1 : 0;
        }
        return many;
    }

    private int[] gains(int a, int b, boolean first, boolean other) {
        Model m = first && other ? swapped(a, b) : first ? behind(a, b) : other ? behind(b, a) : this;
        return new int[] {m.worth(a) - (first ? 2 : 0), m.worth(b) - (other ? 2 : 0)};
    }

    int two(int a, int b) {
        boolean[] choices = {false, true};
        for (boolean first : choices) {
            for (boolean other : choices) {
                int[] here = gains(a, b, first, other);
                if (gains(a, b, !first, other)[0] <= here[0] && gains(a, b, first, !other)[1] <= here[1]) {
                    return (first ? 10 : 0) + (other ? 1 : 0);
                }
            }
        }
        return -9;
    }

    long censor(int w, int n, int t, int v, int part) {
        BigInteger below = BigInteger.valueOf(t).pow(n);
        BigInteger above = ways(w, n, t, v);
        BigInteger common = above.gcd(below);
        return (part == 0 ? above : below).divide(common).longValueExact();
    }

    private BigInteger ways(int w, int n, int t, int v) {
        if (n == 0) {
            return of(w).fame >= v ? BigInteger.ONE : BigInteger.ZERO;
        }
        Model censored = copy();
        censored.year++;
        return censored.ways(w, n - 1, t, v)
            .add(passed(1).ways(w, n - 1, t, v).multiply(BigInteger.valueOf(t - 1)));
    }

    long mean(int part) {
        if (size() == 0) {
            return part;
        }
        BigInteger above = BigInteger.valueOf(allFame());
        BigInteger below = BigInteger.valueOf(size());
        return (part == 0 ? above : below).divide(above.gcd(below)).longValueExact();
    }

    int whoEnded(int w) {
        int bits = 0;
        for (int o = 0; o < size(); o++) {
            boolean so = o != w;
            for (int i = 0; i + 1 < row.size(); i += 2) {
                int opens = (of(w).style + year + i / 2) % 10;
                so &= row.get(i) == opens && row.get(i + 1) == endBy(o, opens);
            }
            bits += so ? 1 << o : 0;
        }
        return bits;
    }

    int whatIs(int w, int what) {
        if (ender(w) == null) {
            return 0;
        }
        int bits = 0;
        for (int i = 0; i < (what == 0 ? 6 : 10); i++) {
            Model m = copy();
            if (what == 0) {
                m.of(ender(w)).kind = "apgtfd".charAt(i);
            } else {
                m.of(ender(w)).figure = i;
            }
            boolean so = true;
            for (int n = 0; n < row.size(); n++) {
                so &= m.passed(n).of(w).fame == row.get(n);
            }
            bits += so ? 1 << i : 0;
        }
        return bits;
    }

    int judge() {
        List<Integer> told = row;
        row = new ArrayList<>();
        for (int i = 0; i < told.size(); i++) {
            if (i >= size() || told.get(i) != (isBook(i) ? ends(i) : 10)) {
                return i;
            }
        }
        return -9;
    }

    int lots(int n, int z, int what) {
        BigInteger seed = BigInteger.valueOf(z);
        int fame = 0;
        int atNothing = 0;
        for (int i = 0; i < n; i++) {
            Model m = copy();
            for (Writer w : m.writers) {
                seed = BigInteger.valueOf(seed.multiply(BigInteger.valueOf(1664525))
                    .add(BigInteger.valueOf(1013904223)).intValue());
                w.style = seed.and(BigInteger.valueOf(Integer.MAX_VALUE)).divide(BigInteger.valueOf(256))
                    .mod(BigInteger.TEN).intValue();
            }
            m = m.passed(10);
            fame += m.allFame();
            for (Writer w : m.writers) {
                atNothing += w.fame == 0 ? 1 : 0;
            }
        }
        return what == 0 ? fame : atNothing;
    }

    int writer(int w, int what) {
        switch (what) {
            case 0: return "apgtfd".indexOf(of(w).kind);
            case 1: return of(w).figure;
            case 2: return of(w).style;
            case 3: return of(w).fame;
            case 4: return of(w).writing ? 1 : 0;
            case 5: return ring.indexOf(w);
            default: return ender(w) == null ? -9 : ender(w);
        }
    }
}
