import java.util.ArrayList;
import java.util.List;
import java.util.NoSuchElementException;
import java.util.Set;
import java.util.function.Predicate;
import java.util.function.ToIntFunction;

/**
 * The document once more, in the plainest way: every row of prices is gone through, nothing is kept known,
 * acts and images are whole copies. Slow; only there to be compared with.
 */
public final class Plain {
    static final Set<String> KEYWORDS = Set.of("service", "price", "size", "slope", "cost", "quality", "target",
            "buyer", "index", "x", "carry", "due");

    static final class Service {
        String name;
        int price, size, slope, cost, quality, target;

        int bought(int p) {
            return Math.max(0, size - slope * p);
        }

        int profit(int p) {
            return bought(p) * (p - cost);
        }

        int good(int p) {
            int sum = profit(p);
            for (int q = p + 1; q <= 20; q++) {
                sum += bought(q);
            }
            return sum;
        }
    }

    static final class Buyer {
        String name;
        final List<Integer> units = new ArrayList<>();

        int burden(int[] row) {
            int sum = 0;
            for (int s = 0; s < row.length; s++) {
                sum += row[s] * units.get(s);
            }
            return sum;
        }
    }

    static final class State {
        int year, carried;
        int[] prices, fresh, quality, rules;
        List<int[]> book = new ArrayList<>();

        State copy() {
            State c = new State();
            c.year = year;
            c.carried = carried;
            c.prices = prices.clone();
            c.fresh = fresh.clone();
            c.quality = quality.clone();
            c.rules = rules.clone();
            c.book = new ArrayList<>(book);
            return c;
        }
    }

    private List<Service> services = null;
    private List<Buyer> buyers = null;
    private State now = null;
    private final List<State> acts = new ArrayList<>();
    private final State[] images = new State[2];
    private final List<Integer> tape = new ArrayList<>();
    private String written = "";
    private int fault = 0, place = 0, trouble = 0;

    // ---- texts

    public int feed(int a, int b, int c, int d, int e) {
        if (tape.size() > 480) {
            return -1;
        }
        for (int word : new int[] {a, b, c, d, e}) {
            tape.add(word >>> 24);
            tape.add(word >>> 16 & 255);
            tape.add(word >>> 8 & 255);
            tape.add(word & 255);
        }
        return tape.size();
    }

    record Token(String text, int at) { }

    static final class Fault extends RuntimeException {
        private static final long serialVersionUID = 1L;
        final int number, at;

        Fault(int number, Token token) {
            this.number = number;
            this.at = token.at;
        }
    }

    /** Tokens; one that is none has the text "?", the end has "". */
    private static List<Token> tokens(String text) {
        List<Token> all = new ArrayList<>();
        int i = 0;
        while (i < text.length()) {
            int j = i;
            while (j < text.length() && text.charAt(j) >= 'a' && text.charAt(j) <= 'z') {
                j++;
            }
            if (j == i) {
                while (j < text.length() && text.charAt(j) >= '0' && text.charAt(j) <= '9') {
                    j++;
                }
                if (j - i > 3) {
                    all.add(new Token("?", i));
                    i = j;
                    continue;
                }
            }
            if (j - i > 7) {
                all.add(new Token("?", i));
            } else if (j > i) {
                all.add(new Token(text.substring(i, j), i));
            } else if (text.charAt(i) == ';' || text.charAt(i) == ',') {
                all.add(new Token(text.substring(i, i + 1), i));
                j = i + 1;
            } else if (text.charAt(i) == ' ') {
                j = i + 1;
            } else {
                all.add(new Token("?", i));
                j = i + 1;
            }
            i = j;
        }
        all.add(new Token("", text.length()));
        return all;
    }

    private static int whole(Token t, int most) {
        if (!t.text.matches("[0-9]+")) {
            throw new Fault(1, t);
        }
        int v = Integer.parseInt(t.text);
        if (v > most) {
            throw new Fault(2, t);
        }
        return v;
    }

    private static String name(Token t, List<Service> ss, List<Buyer> bs) {
        if (!t.text.matches("[a-z]+") || KEYWORDS.contains(t.text)) {
            throw new Fault(1, t);
        }
        if (ss.stream().anyMatch(s -> t.text.equals(s.name)) || bs.stream().anyMatch(b -> t.text.equals(b.name))) {
            throw new Fault(3, t);
        }
        return t.text;
    }

    private static int valued(List<Token> all, int at, String word, int most) {
        if (!all.get(at).text.equals(word)) {
            throw new Fault(1, all.get(at));
        }
        return whole(all.get(at + 1), most);
    }

    private static int service(List<Token> all, int at, List<Service> ss, List<Buyer> bs) {
        if (ss.size() == 4 || !bs.isEmpty()) {
            throw new Fault(4, all.get(at));
        }
        Service s = new Service();
        s.name = name(all.get(at + 1), ss, bs);
        s.price = valued(all, at + 2, "price", 20);
        s.size = valued(all, at + 4, "size", 200);
        s.slope = valued(all, at + 6, "slope", 9);
        s.cost = valued(all, at + 8, "cost", 20);
        ss.add(s);
        if (!all.get(at + 10).text.equals("quality")) {
            return at + 10;
        }
        s.quality = valued(all, at + 10, "quality", 99);
        s.target = valued(all, at + 12, "target", 99);
        return at + 14;
    }

    private static int buyer(List<Token> all, int at, List<Service> ss, List<Buyer> bs) {
        if (bs.size() == 4 || ss.isEmpty()) {
            throw new Fault(4, all.get(at));
        }
        Buyer b = new Buyer();
        b.name = name(all.get(at + 1), ss, bs);
        b.units.add(whole(all.get(at + 2), 99));
        int i = at + 3;
        while (b.units.size() < ss.size()) {
            if (!all.get(i).text.equals(",")) {
                throw new Fault(1, all.get(i));
            }
            b.units.add(whole(all.get(i + 1), 99));
            i += 2;
        }
        bs.add(b);
        return i;
    }

    private static State parse(String text, List<Service> ss, List<Buyer> bs) {
        List<Token> all = tokens(text);
        int[] rules = {-1, -1, -1, -1};
        int[] most = {50, 50, 100, 99};
        List<String> words = List.of("index", "x", "carry", "due");
        for (int i = 0;; i++) {
            Token t = all.get(i);
            if (t.text.equals("service")) {
                i = service(all, i, ss, bs);
            } else if (t.text.equals("buyer")) {
                i = buyer(all, i, ss, bs);
            } else if (words.contains(t.text)) {
                int r = words.indexOf(t.text);
                if (rules[r] >= 0) {
                    throw new Fault(3, t);
                }
                rules[r] = whole(all.get(i + 1), most[r]);
                i += 2;
            } else {
                throw new Fault(1, t);
            }
            Token behind = all.get(i);
            if (behind.text.isEmpty()) {
                if (ss.isEmpty()) {
                    throw new Fault(5, behind);
                }
                break;
            }
            if (!behind.text.equals(";")) {
                throw new Fault(1, behind);
            }
        }
        State s = new State();
        s.prices = ss.stream().mapToInt(v -> v.price).toArray();
        s.fresh = s.prices.clone();
        s.quality = ss.stream().mapToInt(v -> v.quality).toArray();
        s.rules = new int[] {Math.max(0, rules[0]), Math.max(0, rules[1]), rules[2] < 0 ? 10 : rules[2],
            Math.max(0, rules[3])};
        return s;
    }

    public int text(int n) {
        if (n < 0 || n > tape.size()) {
            return no(2);
        }
        StringBuilder b = new StringBuilder();
        for (int i = 0; i < n; i++) {
            b.append((char) (int) tape.get(i));
        }
        tape.clear();
        List<Service> ss = new ArrayList<>();
        List<Buyer> bs = new ArrayList<>();
        try {
            now = parse(b.toString(), ss, bs);
        } catch (Fault f) {
            fault = f.number;
            place = f.at;
            return no(4);
        }
        services = ss;
        buyers = bs;
        fault = 0;
        acts.clear();
        images[0] = null;
        images[1] = null;
        return yes(ss.size());
    }

    public int fault() {
        return fault;
    }

    public int where() {
        return trouble == 4 ? place : -1;
    }

    // ---- helpers

    private int no(int why) {
        trouble = why;
        return -1;
    }

    private int yes(int v) {
        trouble = 0;
        return v;
    }

    private boolean blank() {
        return now == null;
    }

    private boolean service(int s) {
        return !blank() && s >= 0 && s < services.size();
    }

    private boolean buyer(int b) {
        return !blank() && b >= 0 && b < buyers.size();
    }

    private static boolean in(int v, int low, int high) {
        return v >= low && v <= high;
    }

    private int weight(State st, int s) {
        return services.get(s).bought(st.prices[s]);
    }

    private int weighed(State st, int[] row) {
        int sum = 0;
        for (int s = 0; s < row.length; s++) {
            sum += row[s] * weight(st, s);
        }
        return sum;
    }

    private int dues(State st) {
        int sum = 0;
        for (int s = 0; s < st.prices.length; s++) {
            int lack = services.get(s).target - st.quality[s];
            sum += (lack > 0 ? lack : 0) * st.rules[3];
        }
        return sum;
    }

    private int allowed(State st) {
        int v = (100 + st.rules[0] - st.rules[1]) * weighed(st, st.prices) / 100 + st.carried - dues(st);
        return v < 0 ? 0 : v;
    }

    private int profits(int[] row) {
        int sum = 0;
        for (int s = 0; s < row.length; s++) {
            sum += services.get(s).profit(row[s]);
        }
        return sum;
    }

    private int goods(int[] row) {
        int sum = 0;
        for (int s = 0; s < row.length; s++) {
            sum += services.get(s).good(row[s]);
        }
        return sum;
    }

    private int off(int[] row) {
        int sum = 0;
        for (int s = 0; s < row.length; s++) {
            int d = row[s] - services.get(s).cost;
            sum += d < 0 ? -d : d;
        }
        return sum;
    }

    private boolean kept(State st, int[] row) {
        return weighed(st, row) <= allowed(st);
    }

    private static int[] with(int[] row, int s, int p) {
        int[] r = row.clone();
        r[s] = p;
        return r;
    }

    private void end(State st) {
        int a = allowed(st);
        int spent = weighed(st, st.fresh);
        st.book.add(new int[] {spent, a, profits(st.fresh), goods(st.fresh), spent <= a ? 1 : 0});
        int left = a - spent;
        if (left < 0) {
            st.carried = left * 2;
        } else {
            int most = st.rules[2] * a / 100;
            st.carried = left > most ? most : left;
        }
        st.prices = st.fresh.clone();
        st.year++;
    }

    /** The first of all rows that keep the cap and pass with the greatest worth; null without one. */
    private int[] seek(State st, Predicate<int[]> passes, ToIntFunction<int[]> worth) {
        int n = st.prices.length;
        int[] weights = new int[n];
        for (int s = 0; s < n; s++) {
            weights[s] = weight(st, s);
        }
        int limit = allowed(st);
        int[] row = new int[n];
        int[] found = null;
        int most = 0;
        while (true) {
            int spent = 0;
            for (int s = 0; s < n; s++) {
                spent += row[s] * weights[s];
            }
            if (spent <= limit && passes.test(row)) {
                int w = worth.applyAsInt(row);
                if (found == null || w > most) {
                    found = row.clone();
                    most = w;
                }
            }
            int s = n - 1;
            while (s >= 0 && row[s] == 20) {
                row[s--] = 0;
            }
            if (s < 0) {
                return found;
            }
            row[s]++;
        }
    }

    private int[] bestRow(State st) {
        return seek(st, r -> true, this::profits);
    }

    private int[] fairRow(State st) {
        return seek(st, r -> true, this::goods);
    }

    private int[] gentleRow(State st) {
        return seek(st, r -> {
            for (Buyer b : buyers) {
                if (b.burden(r) > b.burden(st.prices)) {
                    return false;
                }
            }
            return true;
        }, this::profits);
    }

    private int[] steadyRow(State st, int d) {
        return seek(st, r -> {
            for (int s = 0; s < r.length; s++) {
                if (Math.abs(r[s] - st.prices[s]) > d) {
                    return false;
                }
            }
            return true;
        }, this::profits);
    }

    // ---- what is told

    public int about(int what) {
        if (blank() || !in(what, 0, 11)) {
            return no(1);
        }
        int together = 0;
        for (int s = 0; s < services.size(); s++) {
            together += weight(now, s);
        }
        int[] all = {services.size(), now.year, 100 + now.rules[0] - now.rules[1], together, weighed(now, now.prices),
            dues(now), allowed(now), weighed(now, now.fresh), kept(now, now.fresh) ? 1 : 0, acts.size(),
            off(now.prices), off(now.fresh)};
        return yes(all[what]);
    }

    public int service(int s, int what) {
        if (!service(s) || !in(what, 0, 7)) {
            return no(1);
        }
        Service v = services.get(s);
        return yes(new int[] {now.prices[s], now.fresh[s], v.size, v.slope, v.cost, now.quality[s], v.target,
            weight(now, s)}[what]);
    }

    public int rule(int what) {
        return blank() || !in(what, 0, 3) ? no(1) : yes(now.rules[what]);
    }

    public int carried(int what) {
        if (blank() || !in(what, 0, 1)) {
            return no(1);
        }
        return yes(what == 0 ? now.carried : allowed(now) - weighed(now, now.fresh));
    }

    public int bought(int s, int p) {
        return !service(s) ? no(1) : !in(p, 0, 20) ? no(2) : yes(services.get(s).bought(p));
    }

    public int profit(int s, int p) {
        return !service(s) ? no(1) : !in(p, 0, 20) ? no(2) : yes(services.get(s).profit(p));
    }

    public int good(int s, int p) {
        return !service(s) ? no(1) : !in(p, 0, 20) ? no(2) : yes(services.get(s).good(p));
    }

    // ---- prices

    public int most(int s) {
        if (!service(s)) {
            return no(1);
        }
        int found = -2;
        for (int p = 0; p <= 20; p++) {
            if (kept(now, with(now.fresh, s, p))) {
                found = p;
            }
        }
        return yes(found);
    }

    public int free(int s) {
        if (!service(s)) {
            return no(1);
        }
        int found = 20;
        for (int p = 20; p >= 0; p--) {
            if (services.get(s).profit(p) >= services.get(s).profit(found)) {
                found = p;
            }
        }
        return yes(found);
    }

    public int best() {
        return blank() ? no(1) : yes(profits(bestRow(now)));
    }

    public int bestOf(int s) {
        return !service(s) ? no(1) : yes(bestRow(now)[s]);
    }

    public int fair() {
        return blank() ? no(1) : yes(goods(fairRow(now)));
    }

    public int fairOf(int s) {
        return !service(s) ? no(1) : yes(fairRow(now)[s]);
    }

    public int rows() {
        if (blank()) {
            return no(1);
        }
        int[] count = {0};
        seek(now, r -> {
            count[0]++;
            return false;
        }, this::profits);
        return yes(count[0]);
    }

    public int freely(int s) {
        if (!service(s)) {
            return no(1);
        }
        int count = 0;
        for (int p = 0; p <= 20; p++) {
            int[] r = with(now.fresh, s, p);
            if (kept(now, r) && profits(r) >= profits(now.fresh)) {
                count++;
            }
        }
        return yes(count);
    }

    public int game(int what) {
        if (blank() || !in(what, 0, 3)) {
            return no(1);
        }
        int[] found = null;
        for (int s = 0; s < services.size(); s++) {
            for (int p = 0; p <= 20; p++) {
                int[] r = with(now.fresh, s, p);
                if (!kept(now, r)) {
                    continue;
                }
                State st = now.copy();
                st.fresh = r;
                end(st);
                int both = profits(r) + profits(bestRow(st));
                if (found == null || both > found[0]) {
                    found = new int[] {both, s, p, profits(r)};
                }
            }
        }
        return found == null ? no(6) : yes(found[what]);
    }

    private int[] pathOf(int n) {
        State st = now.copy();
        int[] sum = new int[4];
        for (int y = 0; y < n; y++) {
            st.fresh = bestRow(st);
            sum[0] += profits(st.fresh);
            sum[1] += goods(st.fresh);
            for (int s = 0; s < st.fresh.length; s++) {
                if (st.fresh[s] != st.prices[s]) {
                    sum[3]++;
                    break;
                }
            }
            end(st);
        }
        sum[2] = off(st.prices);
        return sum;
    }

    public int path(int n, int what) {
        return blank() || !in(what, 0, 3) ? no(1) : !in(n, 1, 8) ? no(2) : yes(pathOf(n)[what]);
    }

    // ---- buyers, levels

    public int buyer(int b, int what) {
        if (!buyer(b) || !in(what, 0, 2)) {
            return no(1);
        }
        Buyer v = buyers.get(b);
        return yes(what == 0 ? v.burden(now.prices) : what == 1 ? v.burden(now.fresh)
                : v.units.stream().mapToInt(u -> u).sum());
    }

    public int units(int b, int s) {
        return !buyer(b) || !service(s) ? no(1) : yes(buyers.get(b).units.get(s));
    }

    public int hurt() {
        if (blank()) {
            return no(1);
        }
        int bits = 0;
        for (int b = buyers.size() - 1; b >= 0; b--) {
            bits = bits * 2 + (buyers.get(b).burden(now.fresh) > buyers.get(b).burden(now.prices) ? 1 : 0);
        }
        return yes(bits);
    }

    public int hardest() {
        if (blank()) {
            return no(1);
        }
        int found = -2;
        int most = Integer.MIN_VALUE;
        for (int b = 0; b < buyers.size(); b++) {
            int more = buyers.get(b).burden(now.fresh) - buyers.get(b).burden(now.prices);
            if (more > most) {
                most = more;
                found = b;
            }
        }
        return yes(found);
    }

    public int gentle() {
        return blank() ? no(1) : yes(profits(gentleRow(now)));
    }

    public int gentleOf(int s) {
        return !service(s) ? no(1) : yes(gentleRow(now)[s]);
    }

    public int steady(int d) {
        if (blank()) {
            return no(1);
        }
        if (!in(d, 0, 20)) {
            return no(2);
        }
        int[] r = steadyRow(now, d);
        return r == null ? no(6) : yes(profits(r));
    }

    public int steadyOf(int d, int s) {
        if (!service(s)) {
            return no(1);
        }
        if (!in(d, 0, 20)) {
            return no(2);
        }
        int[] r = steadyRow(now, d);
        return r == null ? no(6) : yes(r[s]);
    }

    private int ratio(int above, int below, int what) {
        if (below == 0) {
            return no(5);
        }
        int g = java.math.BigInteger.valueOf(above).gcd(java.math.BigInteger.valueOf(below)).intValueExact();
        return yes(what == 0 ? above / g : below / g);
    }

    public int level(int kind, int what) {
        if (blank() || !in(kind, 0, 1) || !in(what, 0, 1)) {
            return no(1);
        }
        int above = 0;
        int below = 0;
        for (int s = 0; s < services.size(); s++) {
            int q = services.get(s).bought(kind == 0 ? now.prices[s] : now.fresh[s]);
            above += now.fresh[s] * q;
            below += now.prices[s] * q;
        }
        return ratio(above, below, what);
    }

    public int trade(int what) {
        if (blank() || !in(what, 0, 3)) {
            return no(1);
        }
        int[] found = null;
        for (int up = 0; up < services.size(); up++) {
            for (int down = 0; down < services.size(); down++) {
                if (up == down || now.fresh[up] == 20) {
                    continue;
                }
                int[] r = with(now.fresh, up, now.fresh[up] + 1);
                while (r[down] > 0 && !kept(now, r)) {
                    r[down]--;
                }
                if (kept(now, r) && (found == null || profits(r) > found[0])) {
                    found = new int[] {profits(r), up, down, now.fresh[down] - r[down]};
                }
            }
        }
        return found == null ? no(6) : yes(found[what]);
    }

    public int reach(int v) {
        if (blank()) {
            return no(1);
        }
        if (!in(v, 0, 80)) {
            return no(2);
        }
        for (int n = 0; n <= 8; n++) {
            if (pathOf(n)[2] <= v) {
                return yes(n);
            }
        }
        return yes(-2);
    }

    public int next() {
        if (blank()) {
            return no(1);
        }
        State st = now.copy();
        end(st);
        return yes(profits(bestRow(st)));
    }

    public int gains(int s) {
        if (!service(s)) {
            return no(1);
        }
        State st = now.copy();
        st.quality[s] = Math.max(st.quality[s], services.get(s).target);
        return yes(allowed(st) - allowed(now));
    }

    public int share(int s, int what) {
        if (!service(s) || !in(what, 0, 1)) {
            return no(1);
        }
        return ratio(now.fresh[s] * weight(now, s), weighed(now, now.fresh), what);
    }

    public int write() {
        if (blank()) {
            return no(1);
        }
        List<String> parts = new ArrayList<>();
        for (int p : now.fresh) {
            parts.add(Integer.toString(p));
        }
        written = String.join(",", parts);
        return yes(written.length());
    }

    public int octet(int k) {
        if (!in(k, 0, written.length() - 1)) {
            throw new NoSuchElementException();
        }
        return written.charAt(k);
    }

    // ---- acts

    private void act() {
        acts.add(now.copy());
        if (acts.size() > 10) {
            acts.remove(0);
        }
    }

    public int price(int s, int p) {
        if (!service(s)) {
            return no(1);
        }
        if (!in(p, 0, 20)) {
            return no(2);
        }
        act();
        int was = now.fresh[s];
        now.fresh[s] = p;
        return yes(was);
    }

    public int lay(boolean fair) {
        if (blank()) {
            return no(1);
        }
        act();
        now.fresh = fair ? fairRow(now) : bestRow(now);
        return yes(weighed(now, now.fresh));
    }

    public int quality(int s, int v) {
        if (!service(s)) {
            return no(1);
        }
        if (!in(v, 0, 99)) {
            return no(2);
        }
        act();
        int was = now.quality[s];
        now.quality[s] = v;
        return yes(was);
    }

    public int become(int what, int v) {
        if (blank() || !in(what, 0, 3)) {
            return no(1);
        }
        if (!in(v, 0, new int[] {50, 50, 100, 99}[what])) {
            return no(2);
        }
        act();
        int was = now.rules[what];
        now.rules[what] = v;
        return yes(was);
    }

    public int year(boolean forced) {
        if (blank()) {
            return no(1);
        }
        if (now.year == 99 || !forced && !kept(now, now.fresh)) {
            return no(5);
        }
        act();
        end(now);
        return yes(now.year);
    }

    public int undo() {
        if (blank()) {
            return no(1);
        }
        if (acts.isEmpty()) {
            return no(5);
        }
        now = acts.remove(acts.size() - 1);
        return yes(acts.size());
    }

    public boolean keep(int i) {
        if (blank() || !in(i, 0, 1)) {
            no(1);
            return false;
        }
        images[i] = now.copy();
        yes(0);
        return true;
    }

    public boolean back(int i) {
        if (blank() || !in(i, 0, 1) || images[i] == null) {
            no(1);
            return false;
        }
        now = images[i].copy();
        acts.clear();
        yes(0);
        return true;
    }

    // ---- the book

    public int book(int y, int what) {
        if (blank() || !in(y, 0, now.year - 1) || !in(what, 0, 4)) {
            return no(1);
        }
        return yes(now.book.get(y)[what]);
    }

    public int letter(int s, int i) {
        if (!service(s) || !in(i, 0, services.get(s).name.length() - 1)) {
            throw new NoSuchElementException();
        }
        return services.get(s).name.charAt(i) - 'a';
    }

    public int bytes() {
        return tape.size();
    }

    public int trouble() {
        return trouble;
    }
}
