/**
 * A guild of writers in a ring, each of whose books is ended by the next who writes.
 *
 * Every row is made once, in a constructor, and used again by all calls: no call makes
 * an object, so a long run of calls takes no more room than a short one.
 */
public final class FinishedByAnother {

    private static final int MOST_WRITERS = 7;
    private static final int MOST_LETTERS = 96;
    private static final int MOST_TOLD = 16;
    private static final int MOST_YEARS = 60;
    private static final int MOST_CENSORED = 7;
    private static final int MOST_ODDS = 20;
    private static final int MOST_LOTS = 20;
    private static final int LOT_YEARS = 10;
    private static final int LAST_YEAR = 999;
    private static final int MOST_FAME = 99;
    private static final int FIRST_FAME = 50;
    private static final int SIGNS = 10;
    private static final int WELL_WORTH = 5;
    private static final int PRICE_OF_BRIBE = 2;

    private static final int AUTHOR = 0;
    private static final int POET = 1;
    private static final int GRUDGE = 2;
    private static final int TIMID = 3;
    private static final int FARMER = 4;
    private static final int DUELLIST = 5;
    private static final int KINDS = 6;
    private static final String KIND_LETTERS = "apgtfd";

    private static final int NONE = -9;
    private static final int UNENDED = 10;

    private static final int NOBODY = -1;
    private static final int OTHER = -2;
    private static final int STATE = -3;
    private static final int BELOW = -4;
    private static final int ROOM = -6;
    private static final int REFUSALS = 6;
    private static final int BIG_REFUSAL = 1000000000;
    private static final long LONG_REFUSAL = 4000000000000000000L;

    private static final int FAULT_OF_LETTERS = -1000;
    private static final int FAULT_OF_STATEMENTS = -2000;

    private final Guild now = new Guild();
    private final Guild thought = new Guild();
    private final Guild kept = new Guild();
    private boolean isKept = false;
    private final Letters letters = new Letters();
    private final Row told = new Row(MOST_TOLD);
    private final Row refusals = new Row(REFUSALS + 1);
    private final Row ownGains = new Row(4);
    private final Row otherGains = new Row(4);
    private final RingSearch search = new RingSearch();

    public FinishedByAnother() {
    }

    // ---- letters and the guild that they tell

    public int letter(int c) {
        if (c < 0) {
            return refused(BELOW);
        }
        if (c > 255 || letters.text.size >= MOST_LETTERS) {
            return refused(ROOM);
        }
        letters.text.push(c);
        return letters.text.size;
    }

    public int guild() {
        int wrong = letters.wrongPlace();
        int answer = wrong >= 0 ? FAULT_OF_LETTERS - wrong : allStatementsCome();
        letters.text.makeEmpty();
        return answer;
    }

    /** They come to a thought first, so that a fault at the last of them changes nothing. */
    private int allStatementsCome() {
        thought.take(now);
        int place = 0;
        int statements = 0;
        for (; statements < MOST_LETTERS && place < letters.text.size; statements++) {
            if (!isAsItMustBe(place)) {
                return FAULT_OF_STATEMENTS - place;
            }
            statementComes(place);
            place += letters.shapeAt(place).length();
        }
        now.take(thought);
        return statements;
    }

    private boolean isAsItMustBe(int place) {
        int one = letters.digitAt(place + 1);
        int other = letters.digitAt(place + 2);
        switch (letters.text.get(place)) {
            case 'w':
                return thought.size < MOST_WRITERS;
            case 'x':
                return thought.hasTwo(one, other);
            case 'y':
                return SIGNS * one + other >= 1 && thought.hasRoomFor(SIGNS * one + other);
            default:
                return thought.has(one);
        }
    }

    private void statementComes(int place) {
        int one = letters.digitAt(place + 1);
        int other = letters.digitAt(place + 2);
        int last = letters.digitAt(place + 3);
        switch (letters.text.get(place)) {
            case 'w':
                thought.addWriter(letters.kindAt(place + 1), other, last);
                break;
            case 'x':
                thought.swapPlaces(one, other);
                break;
            case 's':
                thought.toggleWriting(one);
                break;
            case 't':
                thought.styles.set(one, other);
                break;
            case 'f':
                thought.fames.set(one, SIGNS * other + last);
                break;
            case 'y':
                thought.passYears(SIGNS * one + other);
                break;
            default:
                break;
        }
    }

    // ---- what there is now, and changing it

    public int writer(int writer, int what) {
        if (!now.has(writer)) {
            return refused(NOBODY);
        }
        switch (what) {
            case 0:
                return now.kinds.get(writer);
            case 1:
                return now.figures.get(writer);
            case 2:
                return now.styles.get(writer);
            case 3:
                return now.fames.get(writer);
            case 4:
                return now.writing.get(writer);
            case 5:
                return now.placeOf(writer);
            case 6:
                return now.enders.get(writer);
            default:
                return refused(OTHER);
        }
    }

    public int place(int i) {
        if (i < 0) {
            return refused(BELOW);
        }
        return i < now.size ? now.order.get(i) : NONE;
    }

    public int book(int writer, int what) {
        int refusal = refusalOfBook(writer, what, 2);
        if (refusal != 0) {
            return refusedAsBig(refusal);
        }
        if (what == 0) {
            return now.opensOf(writer);
        }
        return what == 1 ? now.endsOf(writer) : now.worthOf(writer);
    }

    /** Of one's book: the refusal, or 0. */
    private int refusalOfBook(int writer, int what, int mostWhat) {
        if (!now.has(writer)) {
            return NOBODY;
        }
        if (what < 0 || what > mostWhat) {
            return OTHER;
        }
        return now.isWriting(writer) ? 0 : STATE;
    }

    public int changes(int one, int other) {
        if (!now.hasTwo(one, other)) {
            return refused(NOBODY);
        }
        now.swapPlaces(one, other);
        return now.placeOf(one);
    }

    public int hushes(int writer) {
        if (!now.has(writer)) {
            return refused(NOBODY);
        }
        now.toggleWriting(writer);
        return now.writing.get(writer);
    }

    public int styles(int writer, int v) {
        int refusal = refusalOfNumber(writer, v, SIGNS - 1);
        if (refusal != 0) {
            return refused(refusal);
        }
        int was = now.styles.get(writer);
        now.styles.set(writer, v);
        return was;
    }

    public int famed(int writer, int v) {
        int refusal = refusalOfNumber(writer, v, MOST_FAME);
        if (refusal != 0) {
            return refused(refusal);
        }
        int was = now.fames.get(writer);
        now.fames.set(writer, v);
        return was;
    }

    /** Of a number from 0 told of a WRITER: the refusal, or 0. */
    private int refusalOfNumber(int writer, int v, int most) {
        if (!now.has(writer)) {
            return NOBODY;
        }
        if (v < 0) {
            return BELOW;
        }
        return v > most ? ROOM : 0;
    }

    public int turn(int writer, int kind, int figure) {
        if (!now.has(writer)) {
            return refused(NOBODY);
        }
        if (kind < 0 || kind >= KINDS) {
            return refused(OTHER);
        }
        if (figure < 0) {
            return refused(BELOW);
        }
        if (figure >= SIGNS) {
            return refused(ROOM);
        }
        int was = 10 * now.kinds.get(writer) + now.figures.get(writer);
        now.kinds.set(writer, kind);
        now.figures.set(writer, figure);
        return was;
    }

    public int years(int n) {
        if (n < 1) {
            return refused(BELOW);
        }
        if (!now.hasRoomFor(n)) {
            return refused(ROOM);
        }
        now.passYears(n);
        return now.fames.sumOf(now.size);
    }

    // ---- years in thought

    public int fameThen(int writer, int n) {
        int refusal = refusalOfNumber(writer, n, MOST_YEARS);
        if (refusal != 0) {
            return refused(refusal);
        }
        thought.take(now);
        thought.passYears(n);
        return thought.fames.get(writer);
    }

    public int opensThen(int writer, int n) {
        int refusal = refusalOfNumber(writer, n, MOST_YEARS);
        if (refusal != 0) {
            return refused(refusal);
        }
        return opensWith(now.styles.get(writer), now.year + n);
    }

    public int famous(int writer, int v) {
        int refusal = refusalOfNumber(writer, v, MOST_FAME);
        if (refusal != 0) {
            return refused(refusal);
        }
        thought.take(now);
        for (int n = 0; n <= MOST_YEARS; n++) {
            if (thought.fames.get(writer) >= v) {
                return n;
            }
            thought.passYears(1);
        }
        return NONE;
    }

    public int first(int what) {
        if (what != 0 && what != 1) {
            return refused(OTHER);
        }
        thought.take(now);
        for (int n = 0; n <= MOST_YEARS; n++) {
            int writer = thought.forgotten();
            if (writer != NONE) {
                return what == 0 ? writer : n;
            }
            thought.passYears(1);
        }
        return NONE;
    }

    public int leads(int n) {
        if (n < 0) {
            return refused(BELOW);
        }
        if (n > MOST_YEARS) {
            return refused(ROOM);
        }
        thought.take(now);
        thought.passYears(n);
        int leader = NONE;
        for (int w = 0; w < thought.size; w++) {
            if (leader == NONE || thought.fames.get(w) > thought.fames.get(leader)) {
                leader = w;
            }
        }
        return leader;
    }

    // ---- books as they are read now

    public int worth() {
        return now.allWorth();
    }

    public int well() {
        int bits = 0;
        for (int w = 0; w < now.size; w++) {
            if (now.worthOf(w) >= WELL_WORTH) {
                bits |= 1 << w;
            }
        }
        return bits;
    }

    public int read(int what) {
        if (what != 0 && what != 1) {
            return refused(OTHER);
        }
        return what == 0 ? bestRead() : worstRead();
    }

    private int bestRead() {
        int best = NONE;
        for (int w = 0; w < now.size; w++) {
            if (now.isEnded(w) && (best == NONE || now.worthOf(w) > now.worthOf(best))) {
                best = w;
            }
        }
        return best;
    }

    private int worstRead() {
        int worst = NONE;
        for (int w = 0; w < now.size; w++) {
            if (now.isEnded(w) && (worst == NONE || now.worthOf(w) < now.worthOf(worst))) {
                worst = w;
            }
        }
        return worst;
    }

    public int mutual() {
        int twos = 0;
        for (int w = 0; w < now.size; w++) {
            int ender = now.enders.get(w);
            // each two is met once from either side: only the lesser counts it
            if (ender > w && now.enders.get(ender) == w) {
                twos++;
            }
        }
        return twos;
    }

    public int chain(int writer) {
        if (!now.has(writer)) {
            return refused(NOBODY);
        }
        if (!now.isEnded(writer)) {
            return 0;
        }
        int met = 0;
        int at = writer;
        for (int steps = 0; steps < MOST_WRITERS && at >= 0 && (met >> at & 1) == 0; steps++) {
            met |= 1 << at;
            at = now.enders.get(at);
        }
        return Integer.bitCount(met);
    }

    public int same(int what) {
        if (what != 0 && what != 1) {
            return refused(OTHER);
        }
        int twos = 0;
        int firstTwo = NONE;
        for (int a = 0; a < now.size; a++) {
            for (int b = a + 1; b < now.size; b++) {
                if (now.openAlike(a, b)) {
                    twos++;
                    firstTwo = firstTwo == NONE ? 10 * a + b : firstTwo;
                }
            }
        }
        return what == 0 ? twos : firstTwo;
    }

    public int ending(int y) {
        if (y < 0) {
            return refused(BELOW);
        }
        if (y >= SIGNS) {
            return refused(ROOM);
        }
        int books = 0;
        for (int w = 0; w < now.size; w++) {
            if (now.endsOf(w) == y) {
                books++;
            }
        }
        return books;
    }

    /** A book is WORTH less the farther its end is: the farthest is the WORST. */
    public int join() {
        return worstRead();
    }

    // ---- what would be best

    public int ring(int i) {
        if (i < -1) {
            return refusedAsBig(BELOW);
        }
        search.seek(now);
        if (i == -1) {
            return search.mostWorth;
        }
        return i < now.size ? search.best.get(i) : NONE;
    }

    public int bribe() {
        thought.take(now);
        int most = now.allWorth();
        int two = NONE;
        for (int a = 0; a < now.size; a++) {
            for (int b = a + 1; b < now.size; b++) {
                thought.swapPlaces(a, b);
                int all = thought.allWorth();
                thought.swapPlaces(a, b);
                if (all > most) {
                    most = all;
                    two = 10 * a + b;
                }
            }
        }
        return two;
    }

    public int ownBribe(int writer) {
        int refusal = refusalOfBook(writer, 0, 0);
        if (refusal != 0) {
            return refused(refusal);
        }
        thought.take(now);
        int most = now.worthOf(writer);
        int other = NONE;
        for (int w = 0; w < now.size; w++) {
            if (w == writer) {
                continue;
            }
            thought.swapPlaces(writer, w);
            int own = thought.worthOf(writer);
            thought.swapPlaces(writer, w);
            if (own > most) {
                most = own;
                other = w;
            }
        }
        return other;
    }

    public int page(int writer, int what) {
        int refusal = refusalOfBook(writer, what, 1);
        if (refusal != 0) {
            return refusedAsBig(refusal);
        }
        thought.take(now);
        int best = NONE;
        int most = 0;
        for (int style = 0; style < SIGNS; style++) {
            thought.styles.set(writer, style);
            int own = thought.worthOf(writer);
            if (best == NONE || own > most) {
                most = own;
                best = style;
            }
        }
        return what == 0 ? best : most;
    }

    public int ender(int writer, int what) {
        int refusal = refusalOfBook(writer, what, 1);
        if (refusal != 0) {
            return refusedAsBig(refusal);
        }
        int best = NONE;
        int most = 0;
        for (int w = 0; w < now.size; w++) {
            if (w == writer) {
                continue;
            }
            int own = now.worthEndedBy(writer, w);
            if (best == NONE || own > most) {
                most = own;
                best = w;
            }
        }
        return what == 0 ? best : most;
    }

    public int hush() {
        thought.take(now);
        int most = now.allWorth();
        int hushed = NONE;
        for (int w = 0; w < now.size; w++) {
            if (!now.isWriting(w)) {
                continue;
            }
            thought.toggleWriting(w);
            int all = thought.allWorth();
            thought.toggleWriting(w);
            if (all > most) {
                most = all;
                hushed = w;
            }
        }
        return hushed;
    }

    /** Each change brings him one place ahead, and the first is place 0. */
    public int moves(int writer) {
        return now.has(writer) ? now.placeOf(writer) : refused(NOBODY);
    }

    /** A pair of choices is a number of two bits: 2 the first one bribes, 1 the other does. */
    public int two(int a, int b) {
        if (!now.hasTwo(a, b)) {
            return refused(NOBODY);
        }
        if (!now.isWriting(a) || !now.isWriting(b)) {
            return refused(STATE);
        }
        for (int pair = 0; pair < 4; pair++) {
            weighPair(a, b, pair);
        }
        for (int pair = 0; pair < 4; pair++) {
            if (ownGains.get(pair) >= ownGains.get(pair ^ 2)
                    && otherGains.get(pair) >= otherGains.get(pair ^ 1)) {
                return 10 * (pair >> 1) + (pair & 1);
            }
        }
        return NONE;
    }

    private void weighPair(int a, int b, int pair) {
        thought.take(now);
        if (pair == 1) {
            thought.bringBehind(b, a);
        } else if (pair == 2) {
            thought.bringBehind(a, b);
        } else if (pair == 3) {
            thought.swapPlaces(a, b);
        }
        ownGains.set(pair, thought.worthOf(a) - PRICE_OF_BRIBE * (pair >> 1));
        otherGains.set(pair, thought.worthOf(b) - PRICE_OF_BRIBE * (pair & 1));
    }

    // ---- odds and fractions

    public long censor(int writer, int n, int t, int v, int part) {
        if (!now.has(writer)) {
            return refusedAsLong(NOBODY);
        }
        if (n < 0 || v < 0 || t < 2) {
            return refusedAsLong(BELOW);
        }
        if (n > MOST_CENSORED || t > MOST_ODDS || v > MOST_FAME) {
            return refusedAsLong(ROOM);
        }
        if (part != 0 && part != 1) {
            return refusedAsLong(OTHER);
        }
        long above = 0;
        long below = 0;
        for (int censored = 0; censored < 1 << n; censored++) {
            long weight = weightOfFreeYears(n - Integer.bitCount(censored), t);
            below += weight;
            if (fameUnderCensor(writer, n, censored) >= v) {
                above += weight;
            }
        }
        return inLeastTerms(above, below, part);
    }

    /** In how many of t ways each a year that is not censored comes. */
    private static long weightOfFreeYears(int free, int t) {
        long weight = 1;
        for (int i = 0; i < free && i < MOST_CENSORED; i++) {
            weight *= t - 1;
        }
        return weight;
    }

    private int fameUnderCensor(int writer, int n, int censored) {
        thought.take(now);
        for (int i = 0; i < n && i < MOST_CENSORED; i++) {
            if ((censored >> i & 1) == 1) {
                thought.year++;
            } else {
                thought.passYears(1);
            }
        }
        return thought.fames.get(writer);
    }

    public long mean(int part) {
        if (part != 0 && part != 1) {
            return refusedAsLong(OTHER);
        }
        return inLeastTerms(now.fames.sumOf(now.size), now.size, part);
    }

    private static long inLeastTerms(long above, long below, int part) {
        long common = commonDivisor(above, below);
        if (common == 0) {
            return part;
        }
        return (part == 0 ? above : below) / common;
    }

    private static long commonDivisor(long a, long b) {
        long big = a;
        long small = b;
        // Euclid takes fewer than 100 steps on longs
        for (int i = 0; i < 100 && small != 0; i++) {
            long rest = big % small;
            big = small;
            small = rest;
        }
        return big;
    }

    // ---- the row

    public int row(int v) {
        if (v < 0) {
            return refused(BELOW);
        }
        if (v > 99 || told.size >= MOST_TOLD) {
            return refused(ROOM);
        }
        told.push(v);
        return told.size;
    }

    public int clear() {
        int had = told.size;
        told.makeEmpty();
        return had;
    }

    public int whoEnded(int writer) {
        if (!now.has(writer)) {
            return refused(NOBODY);
        }
        int bits = 0;
        for (int w = 0; w < now.size; w++) {
            if (w != writer && wouldEndAsTold(writer, w)) {
                bits |= 1 << w;
            }
        }
        return bits;
    }

    private boolean wouldEndAsTold(int writer, int ender) {
        for (int n = 0; 2 * n + 1 < told.size && n < MOST_TOLD; n++) {
            int opens = opensWith(now.styles.get(writer), now.year + n);
            int ends = now.endBy(ender, opens);
            if (told.get(2 * n) != opens || told.get(2 * n + 1) != ends) {
                return false;
            }
        }
        return true;
    }

    public int whatIs(int writer, int what) {
        if (!now.has(writer)) {
            return refused(NOBODY);
        }
        if (what != 0 && what != 1) {
            return refused(OTHER);
        }
        int ender = now.enders.get(writer);
        if (ender < 0) {
            return 0;
        }
        int bits = 0;
        int choices = what == 0 ? KINDS : SIGNS;
        for (int i = 0; i < choices; i++) {
            thought.take(now);
            if (what == 0) {
                thought.kinds.set(ender, i);
            } else {
                thought.figures.set(ender, i);
            }
            if (thoughtGoesAsTold(writer)) {
                bits |= 1 << i;
            }
        }
        return bits;
    }

    private boolean thoughtGoesAsTold(int writer) {
        for (int n = 0; n < told.size && n < MOST_TOLD; n++) {
            if (thought.fames.get(writer) != told.get(n)) {
                return false;
            }
            thought.passYears(1);
        }
        return true;
    }

    public int judge() {
        int wrong = NONE;
        for (int i = 0; i < told.size && wrong == NONE; i++) {
            if (i >= now.size || told.get(i) != endAsJudged(i)) {
                wrong = i;
            }
        }
        told.makeEmpty();
        return wrong;
    }

    /** Who is SILENT has no book that anybody ends: UNENDED, too. */
    private int endAsJudged(int writer) {
        int ends = now.endsOf(writer);
        return ends == NONE ? UNENDED : ends;
    }

    // ---- lots, the image, and counts

    public int lots(int n, int z, int what) {
        if (n < 1) {
            return refused(BELOW);
        }
        if (n > MOST_LOTS) {
            return refused(ROOM);
        }
        if (what != 0 && what != 1) {
            return refused(OTHER);
        }
        int seed = z;
        int allFame = 0;
        int atNothing = 0;
        for (int lot = 0; lot < n && lot < MOST_LOTS; lot++) {
            thought.take(now);
            for (int w = 0; w < thought.size; w++) {
                seed = seed * 1664525 + 1013904223;
                thought.styles.set(w, (seed & 0x7fffffff) / 256 % SIGNS);
            }
            thought.passYears(LOT_YEARS);
            allFame += thought.fames.sumOf(thought.size);
            atNothing += thought.howManyForgotten();
        }
        return what == 0 ? allFame : atNothing;
    }

    public int image() {
        kept.take(now);
        isKept = true;
        return now.year;
    }

    public int on() {
        if (!isKept) {
            return refused(STATE);
        }
        now.take(kept);
        return now.year;
    }

    public int count(int what) {
        switch (what) {
            case 0:
                return now.size;
            case 1:
                return now.year;
            case 2:
                return now.writingBits();
            case 3:
                return now.fames.sumOf(now.size);
            case 4:
                return now.styles.sumOf(now.size);
            case 5:
                return Integer.bitCount(well());
            case 6:
                return told.size;
            case 7:
                return letters.text.size;
            default:
                return what > 10 && what <= 10 + REFUSALS ? refusals.get(what - 10) : NONE;
        }
    }

    // ---- refusals

    private int refused(int refusal) {
        refusals.set(-refusal, refusals.get(-refusal) + 1);
        return refusal;
    }

    private int refusedAsBig(int refusal) {
        return BIG_REFUSAL - refused(refusal);
    }

    private long refusedAsLong(int refusal) {
        return LONG_REFUSAL - refused(refusal);
    }

    // ---- how books open, end and are read

    private static int opensWith(int style, int year) {
        return (style + year) % SIGNS;
    }

    private static int endOfKind(int kind, int figure, int opens) {
        int author = (opens + figure) % SIGNS;
        int poet = SIGNS - 1 - author;
        int grudge = 0;
        switch (kind) {
            case POET:
                return poet;
            case GRUDGE:
                return grudge;
            case TIMID:
                return 5;
            case FARMER:
                return opens < 5 ? poet : opens;
            case DUELLIST:
                return opens % 2 == 1 ? 9 : grudge;
            case AUTHOR:
            default:
                return author;
        }
    }

    /** How much more FAME one has by ending a book. */
    private static int gainOfKind(int kind) {
        int author = 0;
        int poet = 1;
        int grudge = author - 2;
        switch (kind) {
            case POET:
            case FARMER:
                return poet;
            case GRUDGE:
                return grudge;
            case DUELLIST:
                return grudge + 4;
            case AUTHOR:
            case TIMID:
            default:
                return author;
        }
    }

    private static int worthBetween(int opens, int ends) {
        int straight = opens > ends ? opens - ends : ends - opens;
        int round = SIGNS - straight;
        return 9 - 2 * (straight < round ? straight : round);
    }

    /** A row of numbers of a fixed length; what lies outside it is 0 and stays so. */
    private static final class Row {
        private final int[] cells;
        private int size = 0;

        private Row(int length) {
            cells = new int[Math.max(0, length)];
        }

        private int get(int i) {
            return i >= 0 && i < cells.length ? cells[i] : 0;
        }

        private void set(int i, int v) {
            if (i >= 0 && i < cells.length) {
                cells[i] = v;
            }
        }

        private void push(int v) {
            if (size < cells.length) {
                set(size, v);
                size++;
            }
        }

        private void makeEmpty() {
            size = 0;
        }

        private int sumOf(int n) {
            int sum = 0;
            for (int i = 0; i < n && i < cells.length; i++) {
                sum += cells[i];
            }
            return sum;
        }

        private void take(Row other) {
            for (int i = 0; i < cells.length && i < other.cells.length; i++) {
                cells[i] = other.cells[i];
            }
            size = other.size;
        }
    }

    /** The letters told so far, and the shapes of STATEMENTS: k a KIND's letter, 0 a digit. */
    private static final class Letters {
        private final Row text = new Row(MOST_LETTERS);

        /** The first place with which no GUILD can go on, or -1. */
        private int wrongPlace() {
            int place = 0;
            // the first round stands ahead of the test: without letters a STATEMENT lacks
            for (int i = 0; i == 0 || i < MOST_LETTERS && place < text.size; i++) {
                String shape = shapeAt(place);
                int fitting = howManyFit(place, shape);
                if (shape.isEmpty() || fitting < shape.length()) {
                    return place + fitting;
                }
                place += shape.length();
            }
            return -1;
        }

        private int howManyFit(int place, String shape) {
            int fitting = 0;
            while (fitting < shape.length() && fits(place + fitting, shape.charAt(fitting))) {
                fitting++;
            }
            return fitting;
        }

        /** How a STATEMENT that begins at the place goes; empty, if none begins so. */
        private String shapeAt(int place) {
            if (place >= text.size) {
                return "";
            }
            switch (text.get(place)) {
                case 'w':
                    return "wk00;";
                case 'x':
                    return "x00;";
                case 's':
                    return "s0;";
                case 't':
                    return "t00;";
                case 'f':
                    return "f000;";
                case 'y':
                    return "y00;";
                default:
                    return "";
            }
        }

        private boolean fits(int place, char shape) {
            if (place >= text.size) {
                return false;
            }
            if (shape == 'k') {
                return kindAt(place) >= 0;
            }
            if (shape == '0') {
                int digit = digitAt(place);
                return digit >= 0 && digit < SIGNS;
            }
            return text.get(place) == shape;
        }

        private int kindAt(int place) {
            return KIND_LETTERS.indexOf((char) text.get(place));
        }

        private int digitAt(int place) {
            return text.get(place) - '0';
        }
    }

    /** WRITERS, THE RING and YEAR: as they are now, in thought, or in THE IMAGE. */
    private static final class Guild {
        private final Row kinds = new Row(MOST_WRITERS);
        private final Row figures = new Row(MOST_WRITERS);
        private final Row styles = new Row(MOST_WRITERS);
        private final Row fames = new Row(MOST_WRITERS);
        private final Row writing = new Row(MOST_WRITERS);
        private final Row order = new Row(MOST_WRITERS);
        // told anew with each change of THE RING or of who is WRITING, as years ask for them often
        private final Row enders = new Row(MOST_WRITERS);
        private int size = 0;
        private int year = 0;

        private void take(Guild other) {
            kinds.take(other.kinds);
            figures.take(other.figures);
            styles.take(other.styles);
            fames.take(other.fames);
            writing.take(other.writing);
            order.take(other.order);
            enders.take(other.enders);
            size = other.size;
            year = other.year;
        }

        private void addWriter(int kind, int figure, int style) {
            if (size >= MOST_WRITERS) {
                return;
            }
            kinds.set(size, kind);
            figures.set(size, figure);
            styles.set(size, style);
            fames.set(size, FIRST_FAME);
            writing.set(size, 1);
            order.set(size, size);
            size++;
            tellEnders();
        }

        private boolean has(int writer) {
            return writer >= 0 && writer < size;
        }

        private boolean hasTwo(int one, int other) {
            return has(one) && has(other) && one != other;
        }

        private boolean isWriting(int writer) {
            return writing.get(writer) == 1;
        }

        private int writingBits() {
            int bits = 0;
            for (int w = 0; w < size; w++) {
                bits |= writing.get(w) << w;
            }
            return bits;
        }

        private int placeOf(int writer) {
            for (int i = 0; i < size; i++) {
                if (order.get(i) == writer) {
                    return i;
                }
            }
            return NONE;
        }

        private void swapPlaces(int one, int other) {
            int placeOfOne = placeOf(one);
            int placeOfOther = placeOf(other);
            order.set(placeOfOne, other);
            order.set(placeOfOther, one);
            tellEnders();
        }

        private void bringBehind(int writer, int other) {
            for (int i = Math.max(0, placeOf(writer)); i + 1 < size; i++) {
                order.set(i, order.get(i + 1));
            }
            int place = placeOf(other) + 1;
            for (int i = size - 1; i > place && i > 0; i--) {
                order.set(i, order.get(i - 1));
            }
            order.set(place, writer);
            tellEnders();
        }

        private void toggleWriting(int writer) {
            writing.set(writer, 1 - writing.get(writer));
            tellEnders();
        }

        /** Twice round from behind, so that the last one finds who writes at the front. */
        private void tellEnders() {
            int next = NONE;
            for (int i = 2 * size - 1; i >= 0; i--) {
                int writer = order.get(i < size ? i : i - size);
                enders.set(writer, next == writer ? NONE : next);
                if (isWriting(writer)) {
                    next = writer;
                }
            }
        }

        /** Is there a book of his, and is it ended? */
        private boolean isEnded(int writer) {
            return isWriting(writer) && enders.get(writer) >= 0;
        }

        private int opensOf(int writer) {
            return opensWith(styles.get(writer), year);
        }

        private boolean openAlike(int one, int other) {
            return isWriting(one) && isWriting(other) && opensOf(one) == opensOf(other);
        }

        private int endBy(int ender, int opens) {
            return endOfKind(kinds.get(ender), figures.get(ender), opens);
        }

        private int endsOf(int writer) {
            return isEnded(writer) ? endBy(enders.get(writer), opensOf(writer)) : NONE;
        }

        private int worthEndedBy(int writer, int ender) {
            int opens = opensWith(styles.get(writer), year);
            int ends = endOfKind(kinds.get(ender), figures.get(ender), opens);
            return worthBetween(opens, ends);
        }

        private int worthOf(int writer) {
            return isEnded(writer) ? worthEndedBy(writer, enders.get(writer)) : 0;
        }

        private int allWorth() {
            int all = 0;
            for (int w = 0; w < size; w++) {
                all += worthOf(w);
            }
            return all;
        }

        private boolean hasRoomFor(int years) {
            return years <= MOST_YEARS && year + years <= LAST_YEAR;
        }

        private void passYears(int n) {
            for (int i = 0; i < n && i < MOST_YEARS; i++) {
                year++;
                for (int w = 0; w < size; w++) {
                    bookIsRead(w);
                }
            }
        }

        private void bookIsRead(int writer) {
            int ender = enders.get(writer);
            if (isWriting(writer) && ender >= 0) {
                addFame(writer, worthEndedBy(writer, ender));
                addFame(ender, gainOfKind(kinds.get(ender)));
            }
        }

        private void addFame(int writer, int more) {
            fames.set(writer, Math.max(0, Math.min(MOST_FAME, fames.get(writer) + more)));
        }

        /** The least WRITER at FAME 0. */
        private int forgotten() {
            for (int w = 0; w < size; w++) {
                if (fames.get(w) == 0) {
                    return w;
                }
            }
            return NONE;
        }

        private int howManyForgotten() {
            int many = 0;
            for (int w = 0; w < size; w++) {
                if (fames.get(w) == 0) {
                    many++;
                }
            }
            return many;
        }
    }

    /** Tries all RINGS, the first by numbers first, so that of several the first stays. */
    private static final class RingSearch {
        private final Row worths = new Row(MOST_WRITERS * MOST_WRITERS);
        private final Row tried = new Row(MOST_WRITERS);
        private final Row best = new Row(MOST_WRITERS);
        private int size = 0;
        private int writingBits = 0;
        private boolean found = false;
        private int mostWorth = 0;

        private void seek(Guild guild) {
            size = guild.size;
            writingBits = guild.writingBits();
            found = false;
            mostWorth = 0;
            if (size == 0) {
                return;
            }
            for (int w = 0; w < size; w++) {
                for (int ender = 0; ender < size; ender++) {
                    worths.set(MOST_WRITERS * w + ender, guild.worthEndedBy(w, ender));
                }
            }
            int head = guild.order.get(0);
            tried.set(0, head);
            int writer = guild.isWriting(head) ? head : NONE;
            placeNext(1, 1 << head, writer, writer, 0);
        }

        /**
         * Of those WRITING in the places filled so far: who came first, who last, and what the
         * books of all but the last are WORTH together.
         */
        private void placeNext(int place, int placed, int early, int late, int worth) {
            if (place >= size) {
                keepIfBetter(worth + worthEnded(late, early));
                return;
            }
            for (int w = 0; w < size; w++) {
                if ((placed >> w & 1) == 1) {
                    continue;
                }
                tried.set(place, w);
                int with = placed | 1 << w;
                if ((writingBits >> w & 1) == 0) {
                    placeNext(place + 1, with, early, late, worth);
                } else if (late == NONE) {
                    placeNext(place + 1, with, w, w, worth);
                } else {
                    placeNext(place + 1, with, early, w, worth + worthEnded(late, w));
                }
            }
        }

        private int worthEnded(int writer, int ender) {
            return writer == ender ? 0 : worths.get(MOST_WRITERS * writer + ender);
        }

        private void keepIfBetter(int worth) {
            if (!found || worth > mostWorth) {
                found = true;
                mostWorth = worth;
                best.take(tried);
            }
        }
    }
}
