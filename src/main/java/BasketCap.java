import java.util.NoSuchElementException;

/** A basket of services under a cap of prices; the document tells what each call answers. */
public final class BasketCap {
    public static final int NONE = -1;

    private static final int NOT_BY_ANY = -2;

    private static final int NO_SUCH = 1;
    private static final int BAD_NUMBER = 2;
    private static final int FAULTY = 4;
    private static final int NOT_SO = 5;
    private static final int NONE_THERE = 6;

    private static final int TAPE_BYTES = 500;
    private static final int FEED_BYTES = 20;
    private static final int SERVICES = 4;
    private static final int BUYERS = 4;
    private static final int TOP = 20;
    private static final int PRICES = 21;
    private static final int IMAGES = 2;
    private static final int LAST_YEAR = 99;
    private static final int PATH_YEARS = 8;
    private static final int MOST_OFF = 80;
    private static final int WRITTEN_BYTES = 11;

    private static final int RULES = 4;
    private static final int INDEX = 0;
    private static final int X = 1;
    private static final int CARRY = 2;
    private static final int DUE = 3;

    private static final int MOST_UNITS = 99;
    private static final int MOST_QUALITY = 99;

    private final int[] tape = new int[TAPE_BYTES];
    private final Reader reader = new Reader();
    private final Year now = new Year();
    private final Book ended = new Book();
    private final Past past = new Past();
    private final Image[] images = new Image[IMAGES];
    private final Search search = new Search();
    private final Finder finder = new Finder(search);
    private final Paper paper = new Paper(search);
    private final Deal deal = new Deal();
    private final int[] written = new int[WRITTEN_BYTES];
    private Told told = new Told();
    private Told spare = new Told();
    private boolean loaded;
    private int tapeLength;
    private int writtenLength;
    private int faultNow;
    private int placeNow;
    private int troubleNow;

    public BasketCap() {
        for (int i = 0; i < IMAGES; i++) {
            images[i] = new Image();
        }
    }

    // ---- texts

    public int feed(int a, int b, int c, int d, int e) {
        if (tapeLength + FEED_BYTES > TAPE_BYTES) {
            return NONE;
        }
        putNumber(a);
        putNumber(b);
        putNumber(c);
        putNumber(d);
        putNumber(e);
        return tapeLength;
    }

    public int text(int n) {
        if (n < 0 || n > tapeLength) {
            return refuse(BAD_NUMBER);
        }
        boolean sound = reader.readText(tape, n, spare);
        tapeLength = 0;
        faultNow = reader.faultFound;
        if (!sound) {
            placeNow = reader.placeFound;
            return refuse(FAULTY);
        }
        Told old = told;
        told = spare;
        spare = old;
        beginText();
        return answer(told.services);
    }

    public int fault() {
        return faultNow;
    }

    public int where() {
        return troubleNow == FAULTY ? placeNow : NONE;
    }

    // ---- what is told

    public int about(int what) {
        if (!loaded) {
            return refuse(NO_SUCH);
        }
        switch (what) {
            case 0: return answer(told.services);
            case 1: return answer(now.number);
            case 2: return answer(now.rate());
            case 3: return answer(now.weights(told));
            case 4: return answer(told.costing(now.prices, now.prices));
            case 5: return answer(now.dues(told));
            case 6: return answer(now.allowed(told));
            case 7: return answer(now.spent(told));
            case 8: return answer(now.isKept(told) ? 1 : 0);
            case 9: return answer(past.count);
            case 10: return answer(told.off(now.prices));
            case 11: return answer(told.off(now.fresh));
            default: return refuse(NO_SUCH);
        }
    }

    public int service(int s, int what) {
        if (noService(s)) {
            return refuse(NO_SUCH);
        }
        switch (what) {
            case 0: return answer(now.prices[s]);
            case 1: return answer(now.fresh[s]);
            case 2: return answer(told.valueOf(Told.SIZE, s));
            case 3: return answer(told.valueOf(Told.SLOPE, s));
            case 4: return answer(told.valueOf(Told.COST, s));
            case 5: return answer(now.grade[s]);
            case 6: return answer(told.valueOf(Told.TARGET, s));
            case 7: return answer(now.weight(told, s));
            default: return refuse(NO_SUCH);
        }
    }

    public int rule(int what) {
        if (!loaded || what < 0 || what >= RULES) {
            return refuse(NO_SUCH);
        }
        return answer(now.rules[what]);
    }

    public int carried(int what) {
        if (!loaded || what < 0 || what > 1) {
            return refuse(NO_SUCH);
        }
        return answer(what == 0 ? now.brought : now.left(told));
    }

    public int bought(int s, int p) {
        return fromTable(told.boughtAt, s, p);
    }

    public int profit(int s, int p) {
        return fromTable(told.profitAt, s, p);
    }

    public int good(int s, int p) {
        return fromTable(told.goodAt, s, p);
    }

    // ---- prices

    public int most(int s) {
        if (noService(s)) {
            return refuse(NO_SUCH);
        }
        int limit = now.allowed(told);
        for (int p = TOP; p >= 0; p--) {
            if (now.spentWith(told, s, p) <= limit) {
                return answer(p);
            }
        }
        return answer(NOT_BY_ANY);
    }

    public int free(int s) {
        if (noService(s)) {
            return refuse(NO_SUCH);
        }
        return answer(told.freePrice(s));
    }

    public int best() {
        return worthOf(loaded ? finder.findBest(told, now) : null);
    }

    public int bestOf(int s) {
        return priceIn(noService(s) ? null : finder.findBest(told, now), s);
    }

    public int fair() {
        return worthOf(loaded ? finder.findFair(told, now) : null);
    }

    public int fairOf(int s) {
        return priceIn(noService(s) ? null : finder.findFair(told, now), s);
    }

    public int rows() {
        if (!loaded) {
            return refuse(NO_SUCH);
        }
        return answer(finder.countRows(told, now));
    }

    public int freely(int s) {
        if (noService(s)) {
            return refuse(NO_SUCH);
        }
        int limit = now.allowed(told);
        int least = told.profitAt[s * PRICES + now.fresh[s]];
        int count = 0;
        for (int p = 0; p <= TOP; p++) {
            if (told.profitAt[s * PRICES + p] >= least && now.spentWith(told, s, p) <= limit) {
                count++;
            }
        }
        return answer(count);
    }

    public int game(int what) {
        if (!loaded || what < 0 || what > 3) {
            return refuse(NO_SUCH);
        }
        if (!paper.play(told, now)) {
            return refuse(NONE_THERE);
        }
        return answer(paper.played[what]);
    }

    public int path(int n, int what) {
        if (!loaded || what < 0 || what > 3) {
            return refuse(NO_SUCH);
        }
        if (n < 1 || n > PATH_YEARS) {
            return refuse(BAD_NUMBER);
        }
        paper.walk(told, now, n);
        return answer(paper.walked[n * 4 + what]);
    }

    // ---- buyers, levels

    public int buyer(int b, int what) {
        if (noBuyer(b)) {
            return refuse(NO_SUCH);
        }
        switch (what) {
            case 0: return answer(told.burden(b, now.prices));
            case 1: return answer(told.burden(b, now.fresh));
            case 2: return answer(told.unitsTogether(b));
            default: return refuse(NO_SUCH);
        }
    }

    public int units(int b, int s) {
        if (noBuyer(b) || noService(s)) {
            return refuse(NO_SUCH);
        }
        return answer(told.wants[b * SERVICES + s]);
    }

    public int hurt() {
        if (!loaded) {
            return refuse(NO_SUCH);
        }
        int bits = 0;
        for (int b = 0; b < told.buyers; b++) {
            if (burdenMore(b) > 0) {
                bits |= 1 << b;
            }
        }
        return answer(bits);
    }

    public int hardest() {
        if (!loaded) {
            return refuse(NO_SUCH);
        }
        int found = NOT_BY_ANY;
        int greatest = 0;
        for (int b = 0; b < told.buyers; b++) {
            int more = burdenMore(b);
            if (found < 0 || more > greatest) {
                found = b;
                greatest = more;
            }
        }
        return answer(found);
    }

    public int gentle() {
        return worthOf(loaded ? finder.findGentle(told, now) : null);
    }

    public int gentleOf(int s) {
        return priceIn(noService(s) ? null : finder.findGentle(told, now), s);
    }

    public int steady(int d) {
        if (!loaded) {
            return refuse(NO_SUCH);
        }
        if (noPrice(d)) {
            return refuse(BAD_NUMBER);
        }
        Row row = finder.findSteady(told, now, d);
        return row.there ? answer(row.worth) : refuse(NONE_THERE);
    }

    public int steadyOf(int d, int s) {
        if (noService(s)) {
            return refuse(NO_SUCH);
        }
        if (noPrice(d)) {
            return refuse(BAD_NUMBER);
        }
        Row row = finder.findSteady(told, now, d);
        return row.there ? answer(row.prices[s]) : refuse(NONE_THERE);
    }

    public int level(int kind, int what) {
        if (!loaded || kind < 0 || kind > 1 || what < 0 || what > 1) {
            return refuse(NO_SUCH);
        }
        int[] basis = kind == 0 ? now.prices : now.fresh;
        return lowestTerms(told.costing(now.fresh, basis), told.costing(now.prices, basis), what);
    }

    public int trade(int what) {
        if (!loaded || what < 0 || what > 3) {
            return refuse(NO_SUCH);
        }
        if (!deal.seek(told, now)) {
            return refuse(NONE_THERE);
        }
        return answer(deal.made[what]);
    }

    public int reach(int v) {
        if (!loaded) {
            return refuse(NO_SUCH);
        }
        if (v < 0 || v > MOST_OFF) {
            return refuse(BAD_NUMBER);
        }
        for (int n = 0; n <= PATH_YEARS; n++) {
            paper.walk(told, now, n);
            if (paper.walked[n * 4 + Paper.OFF] <= v) {
                return answer(n);
            }
        }
        return answer(NOT_BY_ANY);
    }

    public int next() {
        if (!loaded) {
            return refuse(NO_SUCH);
        }
        return answer(paper.nextProfit(told, now));
    }

    public int gains(int s) {
        if (noService(s)) {
            return refuse(NO_SUCH);
        }
        int less = now.dues(told) - now.duesOf(told, s);
        return answer(now.allowedWith(told, less) - now.allowed(told));
    }

    public int share(int s, int what) {
        if (noService(s) || what < 0 || what > 1) {
            return refuse(NO_SUCH);
        }
        return lowestTerms(now.fresh[s] * now.weight(told, s), now.spent(told), what);
    }

    public int write() {
        if (!loaded) {
            return refuse(NO_SUCH);
        }
        writtenLength = 0;
        for (int s = 0; s < told.services; s++) {
            if (s > 0) {
                putWritten(',');
            }
            int p = now.fresh[s];
            if (p >= 10) {
                putWritten('0' + p / 10);
            }
            putWritten('0' + p % 10);
        }
        return answer(writtenLength);
    }

    public int octet(int k) throws NoSuchElementException {
        if (k < 0 || k >= writtenLength) {
            throw new NoSuchElementException();
        }
        return written[k];
    }

    // ---- acts

    public int price(int s, int p) {
        if (noService(s)) {
            return refuse(NO_SUCH);
        }
        if (noPrice(p)) {
            return refuse(BAD_NUMBER);
        }
        past.push(now);
        int was = now.fresh[s];
        now.fresh[s] = p;
        forgetFresh();
        return answer(was);
    }

    public int lay(boolean fair) {
        if (!loaded) {
            return refuse(NO_SUCH);
        }
        Row row = fair ? finder.findFair(told, now) : finder.findBest(told, now);
        past.push(now);
        System.arraycopy(row.prices, 0, now.fresh, 0, SERVICES);
        forgetFresh();
        return answer(now.spent(told));
    }

    public int quality(int s, int v) {
        if (noService(s)) {
            return refuse(NO_SUCH);
        }
        if (v < 0 || v > MOST_QUALITY) {
            return refuse(BAD_NUMBER);
        }
        past.push(now);
        int was = now.grade[s];
        now.grade[s] = v;
        forgetAll();
        return answer(was);
    }

    public int become(int what, int v) {
        if (!loaded || what < 0 || what >= RULES) {
            return refuse(NO_SUCH);
        }
        if (v < 0 || v > Told.mostOfRule(what)) {
            return refuse(BAD_NUMBER);
        }
        past.push(now);
        int was = now.rules[what];
        now.rules[what] = v;
        forgetAll();
        return answer(was);
    }

    public int year(boolean forced) {
        if (!loaded) {
            return refuse(NO_SUCH);
        }
        if (now.number >= LAST_YEAR || !forced && !now.isKept(told)) {
            return refuse(NOT_SO);
        }
        past.push(now);
        ended.enter(told, now);
        now.end(told);
        forgetAll();
        return answer(now.number);
    }

    public int undo() {
        if (!loaded) {
            return refuse(NO_SUCH);
        }
        if (past.count == 0) {
            return refuse(NOT_SO);
        }
        past.pop(now);
        forgetAll();
        return answer(past.count);
    }

    public boolean keep(int i) {
        if (!loaded || i < 0 || i >= IMAGES) {
            refuse(NO_SUCH);
            return false;
        }
        images[i].take(now, ended);
        answer(0);
        return true;
    }

    public boolean back(int i) {
        if (!loaded || i < 0 || i >= IMAGES || !images[i].there) {
            refuse(NO_SUCH);
            return false;
        }
        images[i].give(now, ended);
        past.clear();
        forgetAll();
        answer(0);
        return true;
    }

    // ---- the book

    public int book(int y, int what) {
        if (!loaded || y < 0 || y >= now.number || what < 0 || what > 4) {
            return refuse(NO_SUCH);
        }
        return answer(ended.look(y, what));
    }

    public int letter(int s, int i) throws NoSuchElementException {
        if (noService(s) || i < 0 || i >= Told.lengthOf(told.names[s])) {
            throw new NoSuchElementException();
        }
        return Told.letterOf(told.names[s], i);
    }

    public int bytes() {
        return tapeLength;
    }

    public int trouble() {
        return troubleNow;
    }

    // ---- helpers

    private int answer(int value) {
        troubleNow = 0;
        return value;
    }

    private int refuse(int why) {
        troubleNow = why;
        return NONE;
    }

    private boolean noService(int s) {
        return !loaded || s < 0 || s >= told.services;
    }

    private boolean noBuyer(int b) {
        return !loaded || b < 0 || b >= told.buyers;
    }

    private static boolean noPrice(int p) {
        return p < 0 || p > TOP;
    }

    private void putNumber(int number) {
        for (int shift = 24; shift >= 0 && tapeLength < TAPE_BYTES; shift -= 8) {
            tape[tapeLength] = number >>> shift & 255;
            tapeLength++;
        }
    }

    private void putWritten(int octet) {
        if (writtenLength < WRITTEN_BYTES) {
            written[writtenLength] = octet;
            writtenLength++;
        }
    }

    private void beginText() {
        loaded = true;
        told.fillTables();
        now.begin(told);
        past.clear();
        for (int i = 0; i < IMAGES; i++) {
            images[i].there = false;
        }
        forgetAll();
    }

    /** BEST and its like don't hang on NEW prices: an act on these leaves them known. */
    private void forgetFresh() {
        paper.forgetFresh();
    }

    private void forgetAll() {
        finder.forget();
        paper.forgetAll();
    }

    private int fromTable(int[] table, int s, int p) {
        if (noService(s)) {
            return refuse(NO_SUCH);
        }
        if (noPrice(p)) {
            return refuse(BAD_NUMBER);
        }
        return answer(table[s * PRICES + p]);
    }

    private int worthOf(Row row) {
        return row == null ? refuse(NO_SUCH) : answer(row.worth);
    }

    private int priceIn(Row row, int s) {
        return row == null ? refuse(NO_SUCH) : answer(row.prices[s]);
    }

    private int burdenMore(int b) {
        return told.burden(b, now.fresh) - told.burden(b, now.prices);
    }

    private int lowestTerms(int above, int below, int what) {
        if (below == 0) {
            return refuse(NOT_SO);
        }
        int divisor = commonDivisor(above, below);
        return answer((what == 0 ? above : below) / divisor);
    }

    /** Of a number and one above 0: Euclid's steps on ints are fewer than 64. */
    private static int commonDivisor(int a, int b) {
        int high = a;
        int low = b;
        for (int i = 0; i < 64 && high != 0; i++) {
            int rest = low % high;
            low = high;
            high = rest;
        }
        return Math.max(low, 1);
    }

    /** What a TEXT tells, and what follows from it alone. */
    private static final class Told {
        static final int PRICE = 0;
        static final int SIZE = 1;
        static final int SLOPE = 2;
        static final int COST = 3;
        static final int QUALITY = 4;
        static final int TARGET = 5;
        static final int VALUES = 6;
        static final int NAMES = 8;
        static final int LETTERS = 7;

        int services;
        int buyers;
        final long[] names = new long[NAMES];
        final int[] values = new int[VALUES * SERVICES];
        final int[] wants = new int[BUYERS * SERVICES];
        final int[] rules = new int[RULES];
        final int[] boughtAt = new int[SERVICES * PRICES];
        final int[] profitAt = new int[SERVICES * PRICES];
        final int[] goodAt = new int[SERVICES * PRICES];

        void clear() {
            services = 0;
            buyers = 0;
            for (int i = 0; i < VALUES * SERVICES; i++) {
                values[i] = 0;
            }
            for (int i = 0; i < RULES; i++) {
                rules[i] = i == CARRY ? 10 : 0;
            }
        }

        static int mostOfRule(int r) {
            return r == CARRY ? 100 : r == DUE ? 99 : 50;
        }

        static int mostOfValue(int v) {
            switch (v) {
                case SIZE: return 200;
                case SLOPE: return 9;
                case QUALITY:
                case TARGET: return MOST_QUALITY;
                default: return TOP;
            }
        }

        int valueOf(int v, int s) {
            return values[v * SERVICES + s];
        }

        /** A name is kept as one number, five bits a letter (1 is a), the first letter highest. */
        static int lengthOf(long name) {
            int length = 0;
            for (int i = 0; i < LETTERS; i++) {
                if (name >>> 5 * i != 0) {
                    length++;
                }
            }
            return length;
        }

        static int letterOf(long name, int i) {
            return (int) (name >>> 5 * (lengthOf(name) - 1 - i) & 31) - 1;
        }

        boolean hasName(long name) {
            for (int i = 0; i < services; i++) {
                if (names[i] == name) {
                    return true;
                }
            }
            for (int i = 0; i < buyers; i++) {
                if (names[SERVICES + i] == name) {
                    return true;
                }
            }
            return false;
        }

        void fillTables() {
            for (int s = 0; s < services; s++) {
                int above = 0;
                for (int p = TOP; p >= 0; p--) {
                    int units = Math.max(0, valueOf(SIZE, s) - valueOf(SLOPE, s) * p);
                    int gain = units * (p - valueOf(COST, s));
                    boughtAt[s * PRICES + p] = units;
                    profitAt[s * PRICES + p] = gain;
                    goodAt[s * PRICES + p] = above + gain;
                    above += units;
                }
            }
        }

        int freePrice(int s) {
            int found = 0;
            for (int p = 1; p <= TOP; p++) {
                if (profitAt[s * PRICES + p] > profitAt[s * PRICES + found]) {
                    found = p;
                }
            }
            return found;
        }

        int together(int[] table, int[] row) {
            int sum = 0;
            for (int s = 0; s < services; s++) {
                sum += table[s * PRICES + row[s]];
            }
            return sum;
        }

        /** What a row of prices makes of what is bought at another one. */
        int costing(int[] row, int[] basis) {
            int sum = 0;
            for (int s = 0; s < services; s++) {
                sum += row[s] * boughtAt[s * PRICES + basis[s]];
            }
            return sum;
        }

        int off(int[] row) {
            int sum = 0;
            for (int s = 0; s < services; s++) {
                sum += Math.abs(row[s] - valueOf(COST, s));
            }
            return sum;
        }

        int burden(int b, int[] row) {
            int sum = 0;
            for (int s = 0; s < services; s++) {
                sum += wants[b * SERVICES + s] * row[s];
            }
            return sum;
        }

        int unitsTogether(int b) {
            int sum = 0;
            for (int s = 0; s < services; s++) {
                sum += wants[b * SERVICES + s];
            }
            return sum;
        }
    }

    /** Reads a TEXT token by token; the first token at fault ends the reading. */
    private static final class Reader {
        static final int FORM = 1;
        static final int BOUNDS = 2;
        static final int AGAIN = 3;
        static final int ORDER = 4;
        static final int EMPTY = 5;

        static final int END = 0;
        static final int WORD = 1;
        static final int WHOLE = 2;
        static final int SEMICOLON = 3;
        static final int COMMA = 4;
        static final int BAD = 5;

        static final int DIGITS = 3;

        int[] source;
        int end;
        int at;
        int kind;
        int start;
        int whole;
        long word;
        int rulesSeen;
        int faultFound;
        int placeFound;
        Told into;

        boolean readText(int[] from, int length, Told target) {
            source = from;
            end = length;
            at = 0;
            rulesSeen = 0;
            faultFound = 0;
            placeFound = 0;
            into = target;
            into.clear();
            advance();
            boolean sound = readLine();
            for (int i = 0; i < TAPE_BYTES && sound && kind == SEMICOLON; i++) {
                advance();
                sound = readLine();
            }
            if (!sound) {
                return false;
            }
            if (kind != END) {
                return fail(FORM);
            }
            return into.services > 0 || fail(EMPTY);
        }

        boolean fail(int number) {
            faultFound = number;
            placeFound = start;
            return false;
        }

        void advance() {
            while (at < end && source[at] == ' ') {
                at++;
            }
            start = at;
            if (at >= end) {
                kind = END;
            } else if (isLetter(source[at])) {
                takeWord();
            } else if (isDigit(source[at])) {
                takeWhole();
            } else {
                kind = source[at] == ';' ? SEMICOLON : source[at] == ',' ? COMMA : BAD;
                at++;
            }
        }

        void takeWord() {
            word = 0;
            while (at < end && isLetter(source[at])) {
                word = word << 5 | source[at] - 'a' + 1;
                at++;
            }
            kind = at - start > Told.LETTERS ? BAD : WORD;
        }

        void takeWhole() {
            whole = 0;
            while (at < end && isDigit(source[at])) {
                whole = whole * 10 + source[at] - '0';
                at++;
            }
            kind = at - start > DIGITS ? BAD : WHOLE;
        }

        static boolean isLetter(int octet) {
            return octet >= 'a' && octet <= 'z';
        }

        static boolean isDigit(int octet) {
            return octet >= '0' && octet <= '9';
        }

        boolean isWord(String wanted) {
            long code = 0;
            for (int i = 0; i < wanted.length(); i++) {
                code = code << 5 | wanted.charAt(i) - 'a' + 1;
            }
            return kind == WORD && word == code;
        }

        static String wordOfRule(int r) {
            switch (r) {
                case INDEX: return "index";
                case X: return "x";
                case CARRY: return "carry";
                default: return "due";
            }
        }

        static String wordOfValue(int v) {
            switch (v) {
                case Told.PRICE: return "price";
                case Told.SIZE: return "size";
                case Told.SLOPE: return "slope";
                case Told.COST: return "cost";
                case Told.QUALITY: return "quality";
                default: return "target";
            }
        }

        boolean isReserved() {
            boolean found = isWord("service") || isWord("buyer");
            for (int r = 0; r < RULES; r++) {
                found = found || isWord(wordOfRule(r));
            }
            for (int v = 0; v < Told.VALUES; v++) {
                found = found || isWord(wordOfValue(v));
            }
            return found;
        }

        boolean readLine() {
            if (isWord("service")) {
                return readService();
            }
            if (isWord("buyer")) {
                return readBuyer();
            }
            for (int r = 0; r < RULES; r++) {
                if (isWord(wordOfRule(r))) {
                    return readRule(r);
                }
            }
            return fail(FORM);
        }

        boolean readService() {
            int s = into.services;
            if (s >= SERVICES || into.buyers > 0) {
                return fail(ORDER);
            }
            if (!readName(s)) {
                return false;
            }
            into.services++;
            if (!readValues(s, Told.PRICE, Told.COST)) {
                return false;
            }
            return !isWord("quality") || readValues(s, Told.QUALITY, Told.TARGET);
        }

        boolean readValues(int s, int first, int last) {
            for (int v = first; v <= last; v++) {
                if (!isWord(wordOfValue(v))) {
                    return fail(FORM);
                }
                advance();
                if (!readWhole(Told.mostOfValue(v))) {
                    return false;
                }
                into.values[v * SERVICES + s] = whole;
                advance();
            }
            return true;
        }

        boolean readBuyer() {
            int b = into.buyers;
            if (b >= BUYERS || into.services == 0) {
                return fail(ORDER);
            }
            if (!readName(SERVICES + b)) {
                return false;
            }
            into.buyers++;
            for (int s = 0; s < into.services; s++) {
                if (s > 0) {
                    if (kind != COMMA) {
                        return fail(FORM);
                    }
                    advance();
                }
                if (!readWhole(MOST_UNITS)) {
                    return false;
                }
                into.wants[b * SERVICES + s] = whole;
                advance();
            }
            return true;
        }

        boolean readRule(int r) {
            if ((rulesSeen >> r & 1) != 0) {
                return fail(AGAIN);
            }
            rulesSeen |= 1 << r;
            advance();
            if (!readWhole(Told.mostOfRule(r))) {
                return false;
            }
            into.rules[r] = whole;
            advance();
            return true;
        }

        /** The name behind the word that stands now. */
        boolean readName(int place) {
            advance();
            if (kind != WORD || isReserved()) {
                return fail(FORM);
            }
            if (into.hasName(word)) {
                return fail(AGAIN);
            }
            into.names[place] = word;
            advance();
            return true;
        }

        boolean readWhole(int most) {
            if (kind != WHOLE) {
                return fail(FORM);
            }
            return whole <= most || fail(BOUNDS);
        }
    }

    /** A YEAR as it stands: all that acts change but for THE BOOK. */
    private static final class Year {
        int number;
        int brought;
        final int[] prices = new int[SERVICES];
        final int[] fresh = new int[SERVICES];
        final int[] grade = new int[SERVICES];
        final int[] rules = new int[RULES];

        void begin(Told told) {
            number = 0;
            brought = 0;
            for (int s = 0; s < SERVICES; s++) {
                prices[s] = told.valueOf(Told.PRICE, s);
                fresh[s] = prices[s];
                grade[s] = told.valueOf(Told.QUALITY, s);
            }
            System.arraycopy(told.rules, 0, rules, 0, RULES);
        }

        void copy(Year other) {
            number = other.number;
            brought = other.brought;
            System.arraycopy(other.prices, 0, prices, 0, SERVICES);
            System.arraycopy(other.fresh, 0, fresh, 0, SERVICES);
            System.arraycopy(other.grade, 0, grade, 0, SERVICES);
            System.arraycopy(other.rules, 0, rules, 0, RULES);
        }

        int rate() {
            return 100 + rules[INDEX] - rules[X];
        }

        int weight(Told told, int s) {
            return told.boughtAt[s * PRICES + prices[s]];
        }

        int weights(Told told) {
            return told.together(told.boughtAt, prices);
        }

        int duesOf(Told told, int s) {
            return Math.max(0, told.valueOf(Told.TARGET, s) - grade[s]) * rules[DUE];
        }

        int dues(Told told) {
            int sum = 0;
            for (int s = 0; s < told.services; s++) {
                sum += duesOf(told, s);
            }
            return sum;
        }

        int allowedWith(Told told, int dues) {
            int base = told.costing(prices, prices);
            return Math.max(0, rate() * base / 100 + brought - dues);
        }

        int allowed(Told told) {
            return allowedWith(told, dues(told));
        }

        int spent(Told told) {
            return told.costing(fresh, prices);
        }

        int spentWith(Told told, int s, int p) {
            return spent(told) + (p - fresh[s]) * weight(told, s);
        }

        int left(Told told) {
            return allowed(told) - spent(told);
        }

        boolean isKept(Told told) {
            return left(told) >= 0;
        }

        void end(Told told) {
            int limit = allowed(told);
            int rest = limit - spent(told);
            brought = rest < 0 ? 2 * rest : Math.min(rest, rules[CARRY] * limit / 100);
            System.arraycopy(fresh, 0, prices, 0, SERVICES);
            number++;
        }
    }

    /** The years that have ended, four numbers each. */
    private static final class Book {
        static final int NUMBERS = 4;

        final int[] lines = new int[LAST_YEAR * NUMBERS];

        void enter(Told told, Year year) {
            if (year.number < 0 || year.number >= LAST_YEAR) {
                return;
            }
            int at = year.number * NUMBERS;
            lines[at] = year.spent(told);
            lines[at + 1] = year.allowed(told);
            lines[at + 2] = told.together(told.profitAt, year.fresh);
            lines[at + 3] = told.together(told.goodAt, year.fresh);
        }

        int look(int y, int what) {
            int at = y * NUMBERS;
            return what < NUMBERS ? lines[at + what] : lines[at] <= lines[at + 1] ? 1 : 0;
        }

        void copy(Book other, int years) {
            System.arraycopy(other.lines, 0, lines, 0, years * NUMBERS);
        }
    }

    /** The years as they stood ahead of the latest acts, in a ring. */
    private static final class Past {
        static final int ACTS = 10;

        final Year[] ring = new Year[ACTS];
        int head;
        int count;

        Past() {
            for (int i = 0; i < ACTS; i++) {
                ring[i] = new Year();
            }
        }

        void clear() {
            count = 0;
        }

        void push(Year year) {
            ring[head].copy(year);
            head = (head + 1) % ACTS;
            count = Math.min(count + 1, ACTS);
        }

        void pop(Year into) {
            head = (head + ACTS - 1) % ACTS;
            into.copy(ring[head]);
            count--;
        }
    }

    /** An IMAGE: the year and the book as they were. */
    private static final class Image {
        boolean there;
        final Year year = new Year();
        final Book book = new Book();

        void take(Year now, Book ended) {
            there = true;
            year.copy(now);
            book.copy(ended, now.number);
        }

        void give(Year now, Book ended) {
            now.copy(year);
            ended.copy(book, year.number);
        }
    }

    /** A ROW that was sought: whether it is known by now, whether there is one, what it is worth. */
    private static final class Row {
        boolean known;
        boolean there;
        int worth;
        final int[] prices = new int[SERVICES];
    }

    /**
     * Seeks the ROW of the greatest worth under lines that each allow so much of a weighed sum of prices.
     * No weight is below 0, so a price is of use only if it is worth more than every lower one:
     * these prices are the STAIRS of a service.
     */
    private static final class Search {
        static final int LINES = 1 + BUYERS;
        static final int FINENESS = 8;
        static final int ONE = 1 << FINENESS;
        static final int TOLLS = 1024;
        static final int HALVINGS = 10;

        int services;
        int lines;
        final int[] load = new int[LINES * SERVICES];
        final int[] room = new int[LINES];
        final int[] low = new int[SERVICES];
        final int[] high = new int[SERVICES];
        final int[] stairs = new int[SERVICES];
        final int[] rise = new int[SERVICES * PRICES];
        final int[] worth = new int[SERVICES * PRICES];
        final int[] under = new int[SERVICES * PRICES];
        final int[] pick = new int[SERVICES];
        final int[] found = new int[SERVICES];
        final int[] rest = new int[SERVICES + 1];
        int toll;
        int greatest;

        /** The line of the cap; no row spends more than all prices at their top do. */
        void begin(Told told, Year year) {
            services = told.services;
            lines = 1;
            int all = 0;
            for (int s = 0; s < services; s++) {
                load[s] = year.weight(told, s);
                low[s] = 0;
                high[s] = TOP;
                all += load[s] * TOP;
            }
            room[0] = Math.min(year.allowed(told), all);
        }

        void addBuyer(Told told, Year year, int b) {
            if (lines >= LINES) {
                return;
            }
            for (int s = 0; s < services; s++) {
                load[lines * SERVICES + s] = told.wants[b * SERVICES + s];
            }
            room[lines] = told.burden(b, year.prices);
            lines++;
        }

        void holdNear(int[] prices, int by) {
            for (int s = 0; s < services; s++) {
                low[s] = Math.max(0, prices[s] - by);
                high[s] = Math.min(TOP, prices[s] + by);
            }
        }

        void find(int[] table, Row row) {
            row.known = true;
            row.there = prepare(table);
            if (row.there) {
                seek(row);
            }
        }

        boolean prepare(int[] table) {
            if (!takeLowest()) {
                return false;
            }
            for (int s = 0; s < services; s++) {
                setStairs(table, s);
            }
            setToll();
            return true;
        }

        /** No row is worth more than this. */
        int bound() {
            return rest[0] + toll * room[0] >> FINENESS;
        }

        void seek(Row row) {
            startGreedily();
            descend(0, 0);
            row.worth = greatest;
            for (int s = 0; s < services; s++) {
                row.prices[s] = low[s] + rise[s * PRICES + found[s]];
            }
        }

        boolean takeLowest() {
            boolean fits = true;
            for (int c = 0; c < lines; c++) {
                for (int s = 0; s < services; s++) {
                    room[c] -= load[c * SERVICES + s] * low[s];
                }
                fits = fits && room[c] >= 0;
            }
            return fits;
        }

        void setStairs(int[] table, int s) {
            int at = s * PRICES;
            int count = 0;
            for (int p = low[s]; p <= high[s]; p++) {
                int value = table[at + p];
                if (count == 0 || value > worth[at + count - 1]) {
                    rise[at + count] = p - low[s];
                    worth[at + count] = value;
                    count++;
                }
                under[at + p - low[s]] = count - 1;
            }
            stairs[s] = count;
        }

        /** The lowest toll on the cap's room at which prices chosen one by one would keep to it. */
        void setToll() {
            if (chooseAt(0) <= room[0]) {
                return;
            }
            int dear = 0;
            int enough = TOLLS;
            for (int i = 0; i < HALVINGS; i++) {
                int middle = (dear + enough) / 2;
                if (chooseAt(middle) > room[0]) {
                    dear = middle;
                } else {
                    enough = middle;
                }
            }
            chooseAt(enough);
        }

        /**
         * Each service by itself takes the stair of the greatest worth less toll; what they spend.
         * rest[s] with the toll on what is left bounds what services s and on can add, by whatever toll.
         */
        int chooseAt(int price) {
            toll = price;
            rest[services] = 0;
            int sum = 0;
            for (int s = services - 1; s >= 0; s--) {
                int at = s * PRICES;
                int each = toll * load[s];
                int chosen = 0;
                int most = (worth[at] << FINENESS) - each * rise[at];
                for (int i = 1; i < stairs[s]; i++) {
                    int value = (worth[at + i] << FINENESS) - each * rise[at + i];
                    if (value > most) {
                        most = value;
                        chosen = i;
                    }
                }
                pick[s] = chosen;
                rest[s] = rest[s + 1] + most;
                sum += load[s] * rise[at + chosen];
            }
            return sum;
        }

        /** A good row to begin with: what descend() finds must be worth as much or more. */
        void startGreedily() {
            for (int s = 0; s < services; s++) {
                pick[s] = Math.min(pick[s], highestStair(s));
                take(s, pick[s], 1);
            }
            greatest = -1;
            for (int s = 0; s < services; s++) {
                take(s, pick[s], -1);
                pick[s] = highestStair(s);
                take(s, pick[s], 1);
                greatest += worth[s * PRICES + pick[s]];
            }
            for (int s = 0; s < services; s++) {
                take(s, pick[s], -1);
            }
        }

        void take(int s, int stair, int sign) {
            int by = sign * rise[s * PRICES + stair];
            for (int c = 0; c < lines; c++) {
                room[c] -= load[c * SERVICES + s] * by;
            }
        }

        int highestStair(int s) {
            int far = high[s] - low[s];
            for (int c = 0; c < lines; c++) {
                int each = load[c * SERVICES + s];
                if (each > 0) {
                    far = Math.min(far, room[c] / each);
                }
            }
            return under[s * PRICES + Math.max(0, far)];
        }

        /** Goes through rows from the least on, so of like ones the first stays. */
        void descend(int s, int gained) {
            int top = highestStair(s);
            if (s >= services - 1) {
                end(s, top, gained);
                return;
            }
            int at = s * PRICES;
            for (int i = 0; i <= top; i++) {
                int sum = gained + worth[at + i];
                int roomThen = room[0] - load[s] * rise[at + i];
                if ((sum - greatest << FINENESS) + rest[s + 1] + toll * roomThen >= ONE) {
                    pick[s] = i;
                    take(s, i, 1);
                    descend(s + 1, sum);
                    take(s, i, -1);
                }
            }
        }

        /** Stairs rise in worth: the last service takes the highest that fits. */
        void end(int s, int top, int gained) {
            int sum = gained + worth[s * PRICES + top];
            if (sum > greatest) {
                greatest = sum;
                pick[s] = top;
                System.arraycopy(pick, 0, found, 0, SERVICES);
            }
        }

        int count() {
            return countFrom(0, room[0]);
        }

        int countFrom(int s, int left) {
            int each = load[s];
            boolean last = s >= services - 1;
            if (each == 0) {
                return last ? PRICES : PRICES * countFrom(s + 1, left);
            }
            int far = Math.min(TOP, left / each);
            if (last) {
                return far + 1;
            }
            int sum = 0;
            for (int p = 0; p <= far; p++) {
                sum += countFrom(s + 1, left - p * each);
            }
            return sum;
        }
    }

    /** The rows of a year, each sought once while nothing changes that it hangs on. */
    private static final class Finder {
        final Search search;
        final Row best = new Row();
        final Row fair = new Row();
        final Row gentle = new Row();
        final Row steady = new Row();
        int steadyBy;
        int counted;

        Finder(Search search) {
            this.search = search;
        }

        void forget() {
            best.known = false;
            fair.known = false;
            gentle.known = false;
            steady.known = false;
            counted = NONE;
        }

        Row findBest(Told told, Year year) {
            if (!best.known) {
                search.begin(told, year);
                search.find(told.profitAt, best);
            }
            return best;
        }

        Row findFair(Told told, Year year) {
            if (!fair.known) {
                search.begin(told, year);
                search.find(told.goodAt, fair);
            }
            return fair;
        }

        Row findGentle(Told told, Year year) {
            if (!gentle.known) {
                search.begin(told, year);
                for (int b = 0; b < told.buyers; b++) {
                    search.addBuyer(told, year, b);
                }
                search.find(told.profitAt, gentle);
            }
            return gentle;
        }

        Row findSteady(Told told, Year year, int by) {
            if (!steady.known || steadyBy != by) {
                search.begin(told, year);
                search.holdNear(year.prices, by);
                search.find(told.profitAt, steady);
                steadyBy = by;
            }
            return steady;
        }

        int countRows(Told told, Year year) {
            if (counted == NONE) {
                search.begin(told, year);
                counted = search.count();
            }
            return counted;
        }
    }

    /** Years on paper: PATH, THE GAME, the year behind this one. */
    private static final class Paper {
        static final int PROFIT = 0;
        static final int GOOD = 1;
        static final int OFF = 2;
        static final int MOVED = 3;

        final Search search;
        final Row row = new Row();
        final Year ahead = new Year();
        final Year trial = new Year();
        final int[] walked = new int[(PATH_YEARS + 1) * 4];
        final int[] played = new int[4];
        int years;
        boolean gameKnown;
        boolean gameThere;
        boolean nextKnown;
        int nextFound;

        Paper(Search search) {
            this.search = search;
        }

        void forgetFresh() {
            gameKnown = false;
            nextKnown = false;
        }

        void forgetAll() {
            forgetFresh();
            years = NONE;
        }

        /** Walks PATH on, as far as n years, from where an earlier call left it. */
        void walk(Told told, Year now, int n) {
            if (years == NONE) {
                ahead.copy(now);
                walked[PROFIT] = 0;
                walked[GOOD] = 0;
                walked[OFF] = told.off(ahead.prices);
                walked[MOVED] = 0;
                years = 0;
            }
            for (int y = years; y < n && y < PATH_YEARS; y++) {
                step(told, y * 4);
                years = y + 1;
            }
        }

        void step(Told told, int at) {
            search.begin(told, ahead);
            search.find(told.profitAt, row);
            boolean moved = false;
            for (int s = 0; s < told.services; s++) {
                moved = moved || row.prices[s] != ahead.prices[s];
                ahead.fresh[s] = row.prices[s];
            }
            ahead.end(told);
            walked[at + 4 + PROFIT] = walked[at + PROFIT] + row.worth;
            walked[at + 4 + GOOD] = walked[at + GOOD] + told.together(told.goodAt, ahead.prices);
            walked[at + 4 + OFF] = told.off(ahead.prices);
            walked[at + 4 + MOVED] = walked[at + MOVED] + (moved ? 1 : 0);
        }

        int nextProfit(Told told, Year now) {
            if (!nextKnown) {
                trial.copy(now);
                trial.end(told);
                search.begin(told, trial);
                search.find(told.profitAt, row);
                nextFound = row.worth;
                nextKnown = true;
            }
            return nextFound;
        }

        boolean play(Told told, Year now) {
            if (!gameKnown) {
                gameThere = false;
                for (int s = 0; s < told.services; s++) {
                    playService(told, now, s);
                }
                gameKnown = true;
            }
            return gameThere;
        }

        void playService(Told told, Year now, int s) {
            int limit = now.allowed(told);
            int free = freeProfit(told);
            for (int p = 0; p <= TOP && now.spentWith(told, s, p) <= limit; p++) {
                trial.copy(now);
                trial.fresh[s] = p;
                int first = told.together(told.profitAt, trial.fresh);
                if (!gameThere || first + free > played[0]) {
                    trial.end(told);
                    search.begin(told, trial);
                    playNext(told, s, p, first);
                }
            }
        }

        /** The year behind the trial's: sought only if it could win. */
        void playNext(Told told, int s, int p, int first) {
            if (search.prepare(told.profitAt) && (!gameThere || first + search.bound() > played[0])) {
                search.seek(row);
                noteGame(first + row.worth, s, p, first);
            }
        }

        /** Services and prices come from the least on, so of like games the first stays. */
        void noteGame(int both, int s, int p, int first) {
            if (!gameThere || both > played[0]) {
                gameThere = true;
                played[0] = both;
                played[1] = s;
                played[2] = p;
                played[3] = first;
            }
        }

        /** No year's BEST is above this: it spares years that can't win. */
        int freeProfit(Told told) {
            int sum = 0;
            for (int s = 0; s < told.services; s++) {
                sum += told.profitAt[s * PRICES + told.freePrice(s)];
            }
            return sum;
        }
    }

    /** A TRADE: one NEW price 1 up, another as little down as the cap asks. */
    private static final class Deal {
        final int[] made = new int[4];
        boolean there;

        boolean seek(Told told, Year year) {
            there = false;
            int over = -year.left(told);
            for (int up = 0; up < told.services; up++) {
                for (int down = 0; down < told.services; down++) {
                    if (up != down && year.fresh[up] < TOP) {
                        offer(told, year, up, down, over + year.weight(told, up));
                    }
                }
            }
            return there;
        }

        void offer(Told told, Year year, int up, int down, int over) {
            int each = year.weight(told, down);
            for (int k = 0; k <= year.fresh[down]; k++) {
                if (over - k * each <= 0) {
                    int sum = profitThen(told, year, up, down, k);
                    if (!there || sum > made[0]) {
                        there = true;
                        made[0] = sum;
                        made[1] = up;
                        made[2] = down;
                        made[3] = k;
                    }
                    return;
                }
            }
        }

        int profitThen(Told told, Year year, int up, int down, int k) {
            int sum = 0;
            for (int s = 0; s < told.services; s++) {
                int p = year.fresh[s] + (s == up ? 1 : 0) - (s == down ? k : 0);
                sum += told.profitAt[s * PRICES + p];
            }
            return sum;
        }
    }
}
