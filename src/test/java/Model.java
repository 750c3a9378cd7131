import java.util.ArrayDeque;
import java.util.ArrayList;
import java.util.Arrays;
import java.util.Deque;
import java.util.List;
import java.util.NoSuchElementException;

/** The document once more, as plainly as can be and with the whole Java library, to compare SaltMinds with. */
final class Model {
    static final class Fault extends RuntimeException {
        final int kind;
        final int place;

        Fault(int kind, int place) {
            this.kind = kind;
            this.place = place;
        }
    }

    interface Expr {
        int of(int[] values);
    }

    static final String[] VALUES = {"salt", "weight", "age", "told", "facts", "table", "day"};

    static final class Fact {
        int day;
        int weight;
        List<Integer> by = new ArrayList<>();
        int[] debt;
    }

    static final class Known {
        int until;
        boolean told;

        Known(int until, boolean told) {
            this.until = until;
            this.told = told;
        }
    }

    static final class World {
        List<int[]> people = new ArrayList<>();
        List<Fact> facts = new ArrayList<>();
        List<int[]> talks = new ArrayList<>();
        List<int[]> prices = new ArrayList<>();
        Expr keeps;

        int price(int day) {
            int[] best = {-1, 5};
            for (int[] p : prices) {
                if (p[0] <= day && p[0] > best[0]) {
                    best = p;
                }
            }
            return best[1];
        }
    }

    static final class State {
        int today;
        int[] purse;
        int[] table;
        int[] grains;
        Known[][] known;

        State(World w) {
            int n = w.people.size();
            purse = new int[n];
            table = new int[n];
            grains = new int[n];
            known = new Known[n][w.facts.size()];
            for (int p = 0; p < n; p++) {
                purse[p] = w.people.get(p)[0];
                table[p] = w.people.get(p)[1];
            }
        }

        State(State s) {
            today = s.today;
            purse = s.purse.clone();
            table = s.table.clone();
            grains = s.grains.clone();
            known = new Known[s.known.length][];
            for (int p = 0; p < known.length; p++) {
                known[p] = new Known[s.known[p].length];
                for (int f = 0; f < known[p].length; f++) {
                    Known k = s.known[p][f];
                    known[p][f] = k == null ? null : new Known(k.until, k.told);
                }
            }
        }

        int bitsOf(int p) {
            int bits = 0;
            for (int f = 0; f < known[p].length; f++) {
                bits |= known[p][f] != null ? 1 << f : 0;
            }
            return bits;
        }

        int who(int f) {
            int bits = 0;
            for (int p = 0; p < known.length; p++) {
                bits |= known[p][f] != null ? 1 << p : 0;
            }
            return bits;
        }

        int all() {
            int sum = 0;
            for (int p = 0; p < known.length; p++) {
                sum += Integer.bitCount(bitsOf(p));
            }
            return sum;
        }
    }

    /** Reads by recursive descent over the text itself. */
    static final class Parser {
        final String text;
        int at = 0;
        final World w = new World();

        Parser(String text) {
            this.text = text;
        }

        int skip() {
            while (at < text.length() && (text.charAt(at) == ' ' || text.charAt(at) == '\n')) {
                at++;
            }
            return at;
        }

        /** The token that comes next, "" at the end. */
        String peek() {
            skip();
            if (at >= text.length()) {
                return "";
            }
            int to = at;
            if (isWord(text.substring(at, at + 1))) {
                while (to < text.length() && isWord(text.substring(to, to + 1))) {
                    to++;
                }
            } else if (isNumber(text.substring(at, at + 1))) {
                while (to < text.length() && isNumber(text.substring(to, to + 1))) {
                    to++;
                }
            } else {
                to++;
            }
            return text.substring(at, to);
        }

        static boolean isWord(String t) {
            return t.matches("[a-z]+");
        }

        static boolean isNumber(String t) {
            return t.matches("[0-9]+");
        }

        String take() {
            String t = peek();
            at += t.length();
            return t;
        }

        Fault wrong(int kind) {
            return new Fault(kind, skip());
        }

        void need(String t) {
            if (!peek().equals(t)) {
                throw wrong(1);
            }
            take();
        }

        int number(int low, int high, boolean person, List<Integer> doubles) {
            String t = peek();
            if (!isNumber(t)) {
                throw wrong(1);
            }
            if (t.length() > 4) {
                throw wrong(2);
            }
            int n = Integer.parseInt(t);
            if (!person && (n < low || n > high)) {
                throw wrong(2);
            }
            if (person && n >= w.people.size()) {
                throw wrong(3);
            }
            if (doubles.contains(n)) {
                throw wrong(4);
            }
            take();
            return n;
        }

        int person(List<Integer> doubles) {
            return number(0, 0, true, doubles);
        }

        int plain(int low, int high) {
            return number(low, high, false, List.of());
        }

        World read() {
            while (!peek().isEmpty()) {
                switch (peek()) {
                    case "person" -> {
                        limit(w.people.size(), 6);
                        take();
                        w.people.add(new int[] {plain(0, 9999), plain(0, 3)});
                    }
                    case "fact" -> {
                        limit(w.facts.size(), 10);
                        take();
                        w.facts.add(fact());
                    }
                    case "talk" -> {
                        limit(w.talks.size(), 10);
                        take();
                        int a = person(List.of());
                        List<Integer> doubles = new ArrayList<>(List.of(a));
                        for (int[] t : w.talks) {
                            if (t[0] == a) {
                                doubles.add(t[1]);
                            }
                            if (t[1] == a) {
                                doubles.add(t[0]);
                            }
                        }
                        w.talks.add(new int[] {a, person(doubles)});
                    }
                    case "price" -> {
                        limit(w.prices.size(), 8);
                        take();
                        List<Integer> doubles = new ArrayList<>();
                        for (int[] p : w.prices) {
                            doubles.add(p[0]);
                        }
                        w.prices.add(new int[] {number(0, 400, false, doubles), plain(0, 99)});
                    }
                    case "keeps" -> {
                        if (w.keeps != null) {
                            throw wrong(5);
                        }
                        take();
                        w.keeps = expr(0);
                    }
                    default -> throw wrong(1);
                }
                need(";");
            }
            return w;
        }

        void limit(int have, int most) {
            if (have >= most) {
                throw wrong(2);
            }
        }

        Fact fact() {
            Fact f = new Fact();
            f.day = plain(0, 400);
            f.weight = plain(1, 9);
            do {
                f.by.add(person(f.by));
            } while (isNumber(peek()));
            if (peek().equals("debt")) {
                take();
                int a = person(List.of());
                int b = person(List.of(a));
                f.debt = new int[] {a, b, plain(1, 999)};
            }
            return f;
        }

        Expr expr(int within) {
            if (within == 6 && (isNumber(peek()) || isWord(peek()) || peek().equals("("))) {
                throw wrong(2);
            }
            Expr left = and(within);
            while (peek().equals("or")) {
                take();
                Expr a = left;
                Expr b = and(within);
                left = v -> a.of(v) != 0 | b.of(v) != 0 ? 1 : 0;
            }
            return left;
        }

        Expr and(int within) {
            Expr left = not(within, 1);
            while (peek().equals("and")) {
                take();
                Expr a = left;
                Expr b = not(within, 1);
                left = v -> a.of(v) != 0 & b.of(v) != 0 ? 1 : 0;
            }
            return left;
        }

        Expr not(int within, int which) {
            if (peek().equals("not")) {
                if (which == 7) {
                    throw wrong(2);
                }
                take();
                Expr a = not(within, which + 1);
                return v -> a.of(v) == 0 ? 1 : 0;
            }
            Expr a = sum(within);
            if (peek().equals("<")) {
                take();
                Expr b = sum(within);
                return v -> a.of(v) < b.of(v) ? 1 : 0;
            }
            if (peek().equals("=")) {
                take();
                Expr b = sum(within);
                return v -> a.of(v) == b.of(v) ? 1 : 0;
            }
            return a;
        }

        Expr sum(int within) {
            Expr left = product(within);
            while (peek().equals("+") || peek().equals("-")) {
                int sign = take().equals("+") ? 1 : -1;
                Expr a = left;
                Expr b = product(within);
                left = v -> a.of(v) + sign * b.of(v);
            }
            return left;
        }

        Expr product(int within) {
            Expr left = part(within);
            while (peek().equals("*") || peek().equals("/")) {
                boolean times = take().equals("*");
                Expr a = left;
                Expr b = part(within);
                left = v -> times ? a.of(v) * b.of(v) : b.of(v) == 0 ? 0 : a.of(v) / b.of(v);
            }
            return left;
        }

        Expr part(int within) {
            String t = peek();
            if (isNumber(t)) {
                int n = plain(0, 9999);
                return v -> n;
            }
            if (isWord(t)) {
                int i = Arrays.asList(VALUES).indexOf(t);
                if (i < 0) {
                    throw wrong(3);
                }
                take();
                return v -> v[i];
            }
            need("(");
            Expr e = expr(within + 1);
            need(")");
            return e;
        }
    }

    World w = new World();
    State s = new State(w);
    Deque<State> acts = new ArrayDeque<>();
    List<int[]> seen = new ArrayList<>();
    StringBuilder tape = new StringBuilder();
    int place = -1;
    int[] status = new int[3];
    int[] row;
    int[] shares;
    Object[] image;

    int feed(int... words) {
        if (tape.length() > 680) {
            return -1;
        }
        for (int word : words) {
            for (int i = 3; i >= 0; i--) {
                tape.append((char) (word >>> 8 * i & 255));
            }
        }
        return tape.length();
    }

    int salt(int n) {
        require(n >= 0 && n <= tape.length());
        String text = tape.substring(0, n);
        tape.setLength(0);
        try {
            w = new Parser(text).read();
        } catch (Fault f) {
            status[0]++;
            place = f.place;
            return f.kind;
        }
        place = -1;
        s = new State(w);
        acts.clear();
        seen.clear();
        row = null;
        shares = null;
        image = null;
        return 0;
    }

    int fault() {
        return place;
    }

    static void require(boolean legal) {
        if (!legal) {
            throw new IllegalArgumentException();
        }
    }

    static void exists(boolean there) {
        if (!there) {
            throw new NoSuchElementException();
        }
    }

    void person(int p) {
        exists(p >= 0 && p < w.people.size());
    }

    void fact(int f) {
        exists(f >= 0 && f < w.facts.size());
    }

    int count(int what) {
        exists(what >= 0 && what <= 12);
        return new int[] {w.people.size(), w.facts.size(), w.talks.size(), w.prices.size(), s.today, w.price(s.today), acts.size(),
            seen.size(), tape.length(), status[0], status[1], status[2], s.all()}[what];
    }

    int person(int p, int what) {
        person(p);
        exists(what >= 0 && what <= 3);
        return new int[] {s.purse[p], s.table[p], s.grains[p], s.bitsOf(p)}[what];
    }

    int fact(int f, int what) {
        fact(f);
        exists(what >= 0 && what <= 6);
        Fact x = w.facts.get(f);
        int by = 0;
        for (int p : x.by) {
            by |= 1 << p;
        }
        int[] debt = x.debt == null ? new int[] {-1, -1, -1} : x.debt;
        return new int[] {x.day, x.weight, by, s.who(f), debt[0], debt[1], debt[2]}[what];
    }

    int until(int p, int f) {
        person(p);
        fact(f);
        Known k = s.known[p][f];
        return k == null ? -1 : k.told ? -2 - k.until : k.until;
    }

    void act() {
        acts.addLast(new State(s));
        if (acts.size() > 40) {
            acts.removeFirst();
        }
    }

    int grains(int p, int g) {
        person(p);
        if (g < 0 || g > 20) {
            status[1]++;
            return -1;
        }
        act();
        int old = s.grains[p];
        s.grains[p] = g;
        return old;
    }

    int sit(int p, int t) {
        person(p);
        if (t < 0 || t > 3) {
            status[1]++;
            return -1;
        }
        act();
        int old = s.table[p];
        s.table[p] = t;
        return old;
    }

    boolean tell(int f, int a, int b) {
        fact(f);
        person(a);
        person(b);
        if (s.known[a][f] == null || s.known[b][f] != null) {
            status[1]++;
            return false;
        }
        act();
        s.known[b][f] = new Known(s.today, true);
        return true;
    }

    int days(int many) {
        if (many < 1 || many > 100) {
            status[1]++;
            return -1;
        }
        act();
        return pass(s, many, -1);
    }

    int undo() {
        if (acts.isEmpty()) {
            return -1;
        }
        s = acts.removeLast();
        return acts.size();
    }

    int pass(State t, int many, int sick) {
        int lost = 0;
        for (int i = 0; i < many; i++) {
            int n = t.purse.length;
            int price = w.price(t.today);
            int[] bought = new int[n];
            for (int p = 0; p < n; p++) {
                while (p != sick && bought[p] < t.grains[p] && t.purse[p] >= price) {
                    bought[p]++;
                    t.purse[p] -= price;
                }
            }
            int[] eaten = new int[n];
            int[] company = new int[n];
            for (int p = 0; p < n; p++) {
                int sum = 0;
                for (int q = 0; q < n; q++) {
                    if (t.table[q] == t.table[p]) {
                        sum += bought[q];
                        company[p]++;
                    }
                }
                eaten[p] = p == sick ? 0 : sum / company[p];
            }
            lost += dine(t, eaten, company, true);
        }
        return lost;
    }

    int dine(State t, int[] eaten, int[] company, boolean learning) {
        for (int f = 0; learning && f < w.facts.size(); f++) {
            if (w.facts.get(f).day == t.today) {
                for (int p : w.facts.get(f).by) {
                    t.known[p][f] = new Known(t.known[p][f] == null ? t.today : t.known[p][f].until, false);
                }
            }
        }
        int lost = 0;
        for (int p = 0; p < t.known.length; p++) {
            int facts = Integer.bitCount(t.bitsOf(p));
            for (int f = 0; f < w.facts.size(); f++) {
                Known k = t.known[p][f];
                if (k != null) {
                    Fact x = w.facts.get(f);
                    int keeps = 2 * eaten[p];
                    if (w.keeps != null) {
                        int[] v = {eaten[p], x.weight, t.today - x.day, k.told ? 1 : 0, facts, company[p], t.today};
                        keeps = Math.max(0, Math.min(99, w.keeps.of(v)));
                    }
                    k.until = Math.max(k.until, t.today + keeps);
                }
            }
        }
        t.today++;
        for (Known[] mind : t.known) {
            for (int f = 0; f < mind.length; f++) {
                if (mind[f] != null && mind[f].until < t.today) {
                    mind[f] = null;
                    lost++;
                }
            }
        }
        return lost;
    }

    State later(int n) {
        State t = new State(s);
        pass(t, n, -1);
        return t;
    }

    int ahead(int f, int n) {
        fact(f);
        require(n >= 0 && n <= 100);
        return later(n).who(f);
    }

    int blank(int n, int what) {
        exists(what == 0 || what == 1);
        require(n >= 0 && n <= 100);
        for (int d = 1; d <= n; d++) {
            for (int f = 0; f < w.facts.size(); f++) {
                boolean before = false;
                for (int e = 0; e < d; e++) {
                    before |= later(e).who(f) != 0;
                }
                if (before && later(d).who(f) == 0) {
                    return what == 0 ? d : f;
                }
            }
        }
        return -1;
    }

    /** What somebody recalls behind these days ALONE. */
    int alone(int p, int... given) {
        State t = new State(s);
        int[] ones = new int[w.people.size()];
        Arrays.fill(ones, 1);
        for (int g : given) {
            int[] eaten = new int[w.people.size()];
            eaten[p] = g;
            dine(t, eaten, ones, false);
        }
        return t.bitsOf(p);
    }

    int once(int p, int g, int n) {
        int[] given = new int[n];
        given[0] = g;
        return alone(p, given);
    }

    int enough(int p, int f, int n) {
        person(p);
        fact(f);
        require(n >= 1 && n <= 100);
        for (int g = 0; g <= 20; g++) {
            if ((once(p, g, n) >> f & 1) != 0) {
                return g;
            }
        }
        return -1;
    }

    int cheapest(int p, int facts, int n) {
        person(p);
        require((facts & s.bitsOf(p)) == facts && n >= 1 && n <= 5);
        int best = -1;
        int rows = 1;
        for (int i = 0; i < n; i++) {
            rows *= 7;
        }
        for (int r = 0; r < rows; r++) {
            int[] given = new int[n];
            int rest = r;
            int cost = 0;
            for (int i = n - 1; i >= 0; i--) {
                given[i] = rest % 7;
                rest /= 7;
                cost += given[i] * w.price(s.today + i);
            }
            if ((best < 0 || cost < best) && (alone(p, given) & facts) == facts) {
                best = cost;
                row = given;
            }
        }
        return best;
    }

    int row(int i) {
        exists(row != null && i >= 0 && i < row.length);
        return row[i];
    }

    int witnesses(int facts, int g, int n) {
        require(facts >= 0 && facts < 1 << w.facts.size() && g >= 0 && g <= 20 && n >= 1 && n <= 100);
        for (int many = 0; many <= 6; many++) {
            for (int set = 0; set < 1 << w.people.size(); set++) {
                int by = 0;
                for (int p = 0; p < w.people.size(); p++) {
                    by |= (set >> p & 1) != 0 ? once(p, g, n) : 0;
                }
                if (Integer.bitCount(set) == many && (by & facts) == facts) {
                    return set;
                }
            }
        }
        return -1;
    }

    int[] bestRow;
    int bestSum;
    int bestUsed;

    int rations(int g, int n) {
        require(g >= 0 && g <= 30 && n >= 1 && n <= 100);
        int people = w.people.size();
        int[][] worth = new int[people][21];
        for (int p = 0; p < people; p++) {
            for (int x = 0; x <= 20; x++) {
                int bits = once(p, x, n);
                for (int f = 0; f < w.facts.size(); f++) {
                    worth[p][x] += (bits >> f & 1) * w.facts.get(f).weight;
                }
            }
        }
        bestSum = -1;
        tryRows(worth, new int[people], 0, 0, 0, g);
        shares = bestRow;
        return bestSum;
    }

    void tryRows(int[][] worth, int[] given, int p, int sum, int used, int g) {
        if (p == given.length) {
            if (sum > bestSum || sum == bestSum && used < bestUsed) {
                bestSum = sum;
                bestUsed = used;
                bestRow = given.clone();
            }
            return;
        }
        for (int x = 0; x <= 20 && used + x <= g; x++) {
            given[p] = x;
            tryRows(worth, given, p + 1, sum + worth[p][x], used + x, g);
        }
    }

    int ration(int p) {
        person(p);
        exists(shares != null);
        return shares[p];
    }

    int[] distances(int from) {
        int n = w.people.size();
        int[][] d = new int[n][n];
        for (int[] line : d) {
            Arrays.fill(line, 99);
        }
        for (int i = 0; i < n; i++) {
            d[i][i] = 0;
        }
        for (int[] t : w.talks) {
            d[t[0]][t[1]] = 1;
            d[t[1]][t[0]] = 1;
        }
        for (int k = 0; k < n; k++) {
            for (int i = 0; i < n; i++) {
                for (int j = 0; j < n; j++) {
                    d[i][j] = Math.min(d[i][j], d[i][k] + d[k][j]);
                }
            }
        }
        return d[from];
    }

    int steps(int f, int p) {
        fact(f);
        person(p);
        int best = 99;
        for (int q = 0; q < w.people.size(); q++) {
            if (s.known[q][f] != null) {
                best = Math.min(best, distances(p)[q]);
            }
        }
        return best >= 99 ? -1 : best;
    }

    int teller(int f) {
        fact(f);
        int best = -1;
        int bestScore = -1;
        for (int p = 0; p < w.people.size(); p++) {
            if (s.known[p][f] != null) {
                int score = 0;
                for (int d : distances(p)) {
                    score += d > 0 && d < 99 ? 1000 - d : 0;
                }
                if (score > bestScore) {
                    bestScore = score;
                    best = p;
                }
            }
        }
        return best;
    }

    int gathering(int table) {
        exists(table >= 0 && table <= 3);
        State t = new State(s);
        for (int f = 0; f < w.facts.size(); f++) {
            for (int a = 0; a < t.table.length; a++) {
                for (int b = 0; b < t.table.length; b++) {
                    if (t.table[a] == table && t.table[b] == table && s.known[a][f] != null && t.known[b][f] == null) {
                        t.known[b][f] = new Known(t.today, true);
                    }
                }
            }
        }
        return t.all() - s.all();
    }

    boolean holds(State t, int f) {
        int[] debt = w.facts.get(f).debt;
        if (debt == null) {
            return false;
        }
        boolean third = false;
        for (int p = 0; p < t.known.length; p++) {
            third |= p != debt[0] && p != debt[1] && t.known[p][f] != null;
        }
        return third || t.known[debt[0]][f] != null && t.known[debt[1]][f] != null;
    }

    boolean holds(int f) {
        fact(f);
        return holds(s, f);
    }

    int owed(State t, int p) {
        int sum = 0;
        for (int f = 0; f < w.facts.size(); f++) {
            int[] debt = w.facts.get(f).debt;
            if (holds(t, f)) {
                sum += debt[0] == p ? debt[2] : debt[1] == p ? -debt[2] : 0;
            }
        }
        return sum;
    }

    int owed(int p) {
        person(p);
        return owed(s, p);
    }

    int profits(int n) {
        require(n >= 0 && n <= 100);
        State t = later(n);
        int best = -1;
        for (int p = w.people.size() - 1; p >= 0; p--) {
            if (best < 0 || owed(s, p) - owed(t, p) >= owed(s, best) - owed(t, best)) {
                best = p;
            }
        }
        return best;
    }

    int see(int p, int f, boolean recalls) {
        person(p);
        fact(f);
        if (seen.size() == 8) {
            status[2]++;
            return -1;
        }
        seen.add(new int[] {p, f, recalls ? 1 : 0});
        return seen.size();
    }

    void forget() {
        seen.clear();
    }

    List<Integer> fitting(int p) {
        List<Integer> fit = new ArrayList<>();
        for (int g = 0; g <= 20; g++) {
            boolean all = true;
            for (int[] x : seen) {
                all &= x[0] != p || (alone(p, g) >> x[1] & 1) == x[2];
            }
            if (all) {
                fit.add(g);
            }
        }
        return fit;
    }

    int ate(int p, int what) {
        person(p);
        exists(what == 0 || what == 1);
        List<Integer> fit = fitting(p);
        return what == 0 ? fit.size() : fit.isEmpty() ? -1 : fit.get(0);
    }

    int blamed() {
        int bits = 0;
        for (int p = 0; p < w.people.size(); p++) {
            bits |= fitting(p).isEmpty() ? 1 << p : 0;
        }
        return bits;
    }

    int sold(int price) {
        int sum = 0;
        for (int purse : s.purse) {
            sum += Math.min(10, purse / price);
        }
        return sum;
    }

    int[] gains(int a, int b) {
        int cheaper = Math.min(a, b);
        int gain = sold(cheaper) * cheaper - 2 * sold(cheaper);
        return a <= b ? new int[] {gain, 0} : new int[] {0, gain};
    }

    int merchants(int what) {
        exists(what == 0 || what == 1);
        List<Integer> resting = new ArrayList<>();
        for (int a = 1; a <= 9; a++) {
            for (int b = 1; b <= 9; b++) {
                boolean rests = true;
                for (int o = 1; o <= 9; o++) {
                    rests &= gains(o, b)[0] <= gains(a, b)[0] && gains(a, o)[1] <= gains(a, b)[1];
                }
                if (rests) {
                    resting.add(10 * a + b);
                }
            }
        }
        return what == 0 ? resting.size() : resting.isEmpty() ? -1 : resting.get(0);
    }

    int corner(int g) {
        require(g >= 0 && g <= 60);
        for (int price = 1; price <= 99; price++) {
            if (sold(price) <= g) {
                return price;
            }
        }
        return -1;
    }

    int seed;

    int draw(int n) {
        seed = seed * 1103515245 + 12345;
        return (seed & 0x7fff0000) / 65536 % n;
    }

    int season(int from, int n, int p) {
        if (p != -1) {
            person(p);
        }
        require(n >= 0 && n <= 60);
        State t = new State(s);
        seed = from;
        int lost = 0;
        for (int day = 0; day < n; day++) {
            if (!w.people.isEmpty()) {
                int who = draw(w.people.size());
                t.grains[who] = draw(6);
            }
            if (!w.talks.isEmpty()) {
                int[] talk = w.talks.get(draw(w.talks.size()));
                for (int f = 0; f < w.facts.size(); f++) {
                    if (t.known[talk[0]][f] != null && t.known[talk[1]][f] == null) {
                        t.known[talk[1]][f] = new Known(t.today, true);
                    } else if (t.known[talk[1]][f] != null && t.known[talk[0]][f] == null) {
                        t.known[talk[0]][f] = new Known(t.today, true);
                    }
                }
            }
            lost += pass(t, 1, -1);
        }
        return p == -1 ? lost : Integer.bitCount(t.bitsOf(p));
    }

    int feast(int g) {
        require(g >= 0 && g <= 120);
        State t = new State(s);
        int n = w.people.size();
        int[] eaten = new int[n];
        int[] company = new int[n];
        for (int p = 0; p < n; p++) {
            eaten[p] = g / n;
            company[p] = n;
        }
        dine(t, eaten, company, true);
        return t.all();
    }

    int sick(int p, int n) {
        person(p);
        require(n >= 1 && n <= 100);
        State t = new State(s);
        pass(t, n, p);
        return Integer.bitCount(later(n).bitsOf(p)) - Integer.bitCount(t.bitsOf(p));
    }

    int spent(int n) {
        require(n >= 0 && n <= 100);
        return Arrays.stream(s.purse).sum() - Arrays.stream(later(n).purse).sum();
    }

    void image() {
        Deque<State> copy = new ArrayDeque<>();
        for (State a : acts) {
            copy.addLast(new State(a));
        }
        image = new Object[] {new State(s), copy, new ArrayList<>(seen)};
    }

    @SuppressWarnings("unchecked")
    boolean restore() {
        if (image == null) {
            return false;
        }
        s = new State((State) image[0]);
        acts = new ArrayDeque<>();
        for (State a : (Deque<State>) image[1]) {
            acts.addLast(new State(a));
        }
        seen = new ArrayList<>((List<int[]>) image[2]);
        return true;
    }
}
