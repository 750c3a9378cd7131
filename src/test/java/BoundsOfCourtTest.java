/** Each sentence of ==== 5, and of promises 28 to 37, that names a bound: at the bound and on both sides of it. */
public final class BoundsOfCourtTest {
    private static final int NONE = SaltMinds.NONE;
    private static final Checks c = new Checks();

    public static void main(String[] args) {
        seen();
        seenAll();
        ate();
        blamed();
        merchants();
        merchantsTen();
        corner();
        cornerNone();
        season();
        seasonDraws();
        seasonTells();
        seasonRefused();
        feast();
        feastOfTable();
        sick();
        sickCounts();
        spent();
        status();
        c.end();
    }

    private static void seen() {
        c.about("SEEN (at most 8); see: how many are. NONE (STATUS 2): there are 8");
        SaltMinds x = Checks.told("person 0 0;person 0 0;fact 0 1 0;keeps 9;");
        for (int round = 0; round < 2; round++) {
            for (int i = 1; i <= 8; i++) {
                c.due("see", x.see(1, 0, false), i);
                c.due("seen", x.count(7), i);
            }
            for (int i = 1; i <= 3; i++) {
                c.due("one more", x.see(1, 0, true), NONE);
                c.due("seen", x.count(7), 8);
                c.due("status 2", x.count(11), 3 * round + i);
            }
            c.due("what was refused isn't seen", x.blamed(), 0);
            c.about("see: NoSuchElementException (ahead): no such PERSON, FACT");
            c.noSuchOf("see(p, 0, true), there being 8", p -> x.see(p, 0, true), -1, 2);
            c.noSuchOf("see(0, f, true), there being 8", f -> x.see(0, f, true), -1, 1);
            c.due("status 2 stays", x.count(11), 3 * round + 3);
            c.about("forget: All that is SEEN is forgotten");
            x.forget();
            c.due("seen", x.count(7), 0);
            c.due("ate", x.ate(1, 0), 21);
            c.noSuchOf("see(p, 0, true), there being none", p -> x.see(p, 0, true), -1, 2);
            c.noSuchOf("see(0, f, true), there being none", f -> x.see(0, f, true), -1, 1);
            c.due("seen", x.count(7), 0);
        }
        x.forget();
        c.due("nothing to forget", x.count(7), 0);
        c.noSuchOf("see of nobody", n -> new SaltMinds().see(n, n, true), -1, 0);
    }

    private static void seenAll() {
        c.about("that somebody will recall a FACT behind TODAY's MIDNIGHT (ALONE), or not");
        // The eighth counts as the first does.
        SaltMinds x = Checks.told("person 0 0;fact 0 1 0;keeps (day=0)+(0<day)*(9<salt);");
        x.days(1);
        for (int i = 0; i < 7; i++) {
            x.see(0, 0, true);
        }
        c.due("10 to 20", x.ate(0, 0), 11);
        x.see(0, 0, false);
        c.due("none", x.ate(0, 0), 0);
        x.forget();
        x.see(0, 0, false);
        c.due("0 to 9", x.ate(0, 0), 10);
        // UNTIL TODAY is forgotten at MIDNIGHT, UNTIL tomorrow isn't.
        SaltMinds y = Checks.told("person 0 0;fact 0 1 0;keeps 2*(day=0);");
        y.days(1);
        y.see(0, 0, false);
        c.due("until 2 at midnight to 2", y.ate(0, 0), 0);
        y.days(1);
        c.due("until 2 at midnight to 3", y.ate(0, 0), 21);
        y.forget();
        y.see(0, 0, true);
        c.due("until 2 at midnight to 3", y.ate(0, 0), 0);
    }

    private static void ate() {
        c.about("ATE: how many numbers of GRAINS (0 to 20), given TODAY, fit all that is SEEN of him; the least; none");
        // By GRAINS from .. to it is recalled: so many of them are 0 to 20.
        int[][] cases = {{0, 0, 1}, {20, 20, 1}, {20, 99, 1}, {5, 9, 5}, {0, 99, 21}, {19, 20, 2}, {0, 19, 20}, {1, 20, 20}};
        for (int[] one : cases) {
            SaltMinds x = Checks.told("person 0 0;person 0 0;fact 0 1 0;keeps (day=0)+(0<day)*(" + one[0] + "<salt+1)*(salt<" + one[1] + "+1);");
            x.days(1);
            c.due("nothing is seen", x.ate(0, 0), 21);
            c.due("nothing is seen", x.ate(0, 1), 0);
            x.see(0, 0, true);
            c.due("how many", x.ate(0, 0), one[2]);
            c.due("the least", x.ate(0, 1), one[0]);
            c.due("of the other one nothing is seen", x.ate(1, 0), 21);
        }
        SaltMinds x = Checks.told("person 0 0;fact 0 1 0;keeps (day=0)+(0<day)*(salt=21);");
        x.days(1);
        x.see(0, 0, true);
        c.due("21 alone: how many", x.ate(0, 0), 0);
        c.due("21 alone: the least", x.ate(0, 1), NONE);
        c.about("ate: NoSuchElementException: also another what");
        c.noSuchOf("ate(p, 0)", p -> x.ate(p, 0), -1, 1);
        c.noSuchOf("ate(p, 1)", p -> x.ate(p, 1), -1, 1);
        c.noSuchOf("ate(0, what)", what -> x.ate(0, what), -1, 2);
        c.noSuchOf("ate of nobody", p -> new SaltMinds().ate(p, 0), -1, 0);
    }

    private static void blamed() {
        c.about("BLAMED: PEOPLE of whom none fit, as bits");
        c.due("of nobody", new SaltMinds().blamed(), 0);
        SaltMinds x = Checks.told("person 0 0;".repeat(6) + "fact 0 1 0;keeps 9;");
        c.due("nothing is seen", x.blamed(), 0);
        int bits = 0;
        for (int p = 0; p < 6; p++) {
            x.see(p, 0, true);
            bits |= 1 << p;
            c.due("nobody recalls it, and ALONE none is learned", x.blamed(), bits);
        }
        x.days(1);
        c.due("the first one recalls it by now", x.blamed(), 62);
    }

    private static void rests(String purses, int many, int first) {
        StringBuilder b = new StringBuilder();
        for (String purse : purses.split(" ")) {
            b.append(purse.isEmpty() ? "" : "person " + purse + " 0;");
        }
        SaltMinds x = Checks.told(b.toString());
        c.due("how many couples rest of " + purses, x.merchants(0), many);
        c.due("the first of " + purses, x.merchants(1), first);
    }

    private static void merchants() {
        c.about("MERCHANTS: two each ask a PRICE of 1 to 9; A couple RESTS, if neither gains more by another PRICE");
        // Nobody buys: all 81 rest. By 1 something is lost: all but those of 1 rest.
        rests("", 81, 11);
        rests("0", 81, 11);
        rests("0 0 0 0 0 0", 81, 11);
        rests("1", 64, 22);
        rests("2", 64, 22);
        // One GRAIN by 3 gains 1, by more none is sold: (2, 2), (3, 2), and 3 with all of 3 to 9.
        rests("3", 9, 22);
        // By 3 it is 1, by 4 it is 2: (2, 2), (3, 2), (3, 3).
        rests("4", 3, 22);
        // By 3 and by 4 it is 2, by 5 it is 3: (3, 4) too.
        rests("6", 4, 22);
        rests("9999 9999 9999 9999 9999 9999", 3, 22);
        // By 3 it is 6, by 8 it is 6 too, by 9 it is 7: (2, 2), (3, 2), and 3 with all of 3 to 8, but not with 9.
        rests("9 3 3 3", 8, 22);
        c.about("merchants: NoSuchElementException: another what");
        SaltMinds x = Checks.told("person 9 0;");
        c.noSuchOf("merchants", what -> x.merchants(what), -1, 2);
        c.noSuchOf("merchants of nobody", what -> new SaltMinds().merchants(what), -1, 2);
        c.about("as many as his PURSE is enough for (now)");
        x.grains(0, 1);
        c.due("by 3 it is 3, by 4 it is 4", x.merchants(0), 3);
        x.days(1);
        c.due("4 are left", x.merchants(0), 3);
        SaltMinds y = Checks.told("person 8 0;");
        y.grains(0, 1);
        y.days(1);
        c.due("3 are left", y.merchants(0), 9);
    }

    private static void merchantsTen() {
        c.about("each of the PEOPLE buys .. as many as his PURSE is enough for, 10 at most");
        // By 3 it is 10 and 4 of one GRAIN, by 4 it is 7 of two: as much, so (3, 4) rests; nine at most would be one less by 3.
        rests("30 3 3 3 3", 4, 22);
        // By 3 it is 10 and 5, by 4 it is 8 of two, one more; eleven at most would be as much.
        rests("33 3 3 3 3 3", 3, 22);
    }

    private static void corner() {
        c.about("A CORNER: the least PRICE (1 to 99) by which all together can buy no more than so many GRAINS (0 to 60; 10 each at most)");
        SaltMinds rich = Checks.told("person 9999 0;".repeat(6));
        c.due("60 are the most", rich.corner(60), 1);
        c.due("59", rich.corner(59), NONE);
        c.due("0", rich.corner(0), NONE);
        SaltMinds x = Checks.told("person 98 0;person 10 0;");
        c.due("10 and 10 by 1", x.corner(20), 1);
        c.due("10 and 5 by 2", x.corner(19), 2);
        c.due("10 and 5 by 2", x.corner(15), 2);
        c.due("10 and 3 by 3", x.corner(14), 3);
        c.due("9 and 1 by 10", x.corner(10), 10);
        c.due("10 and 1 by 6", x.corner(11), 6);
        c.due("1 by 50", x.corner(1), 50);
        c.due("none by 99", x.corner(0), 99);
        SaltMinds y = Checks.told("person 99 0;");
        c.due("1 by 50", y.corner(1), 50);
        c.due("1 by 99 still", y.corner(0), NONE);
        c.due("of nobody", new SaltMinds().corner(0), 1);
        c.due("of nobody", new SaltMinds().corner(60), 1);
        c.due("empty purses", Checks.told("person 0 0;").corner(0), 1);
        c.due("a purse of 1", Checks.told("person 1 0;").corner(0), 2);
        c.due("990 for ten by 99", Checks.told("person 990 0;").corner(9), NONE);
        c.due("989 for nine by 99", Checks.told("person 989 0;").corner(9), 99);
    }

    private static void cornerNone() {
        c.about("corner: IllegalArgumentException: not 0 to 60");
        SaltMinds x = Checks.told("person 98 0;");
        c.illegalOf("corner", g -> x.corner(g), -1, 61);
        c.illegalOf("corner of nobody", g -> new SaltMinds().corner(g), -1, 61);
        c.due("60", x.corner(60), 1);
        c.due("0", x.corner(0), 99);
    }

    private static void season() {
        c.about("A SEASON by a seed, from now on: n DAYS (0 to 60)");
        SaltMinds x = Checks.told("person 0 0;fact 0 1 0;fact 59 1 0;fact 60 1 0;keeps 9;");
        for (int seed : new int[] {0, 1, -1, Checks.LEAST, Checks.GREATEST}) {
            c.due("0 DAYS", x.season(seed, 0, 0), 0);
            c.due("1 DAY", x.season(seed, 1, 0), 1);
            c.due("59 DAYS", x.season(seed, 59, 0), 1);
            c.due("60 DAYS", x.season(seed, 60, 0), 2);
            c.due("nothing is forgotten", x.season(seed, 60, NONE), 0);
        }
        x.days(1);
        c.due("from now on", x.season(5, 59, 0), 2);
        c.due("from now on", x.season(5, 60, 0), 3);
        c.due("0 DAYS from now on", x.season(5, 0, 0), 1);
        c.about("season: how often a FACT was forgotten by somebody");
        SaltMinds y = Checks.told("person 0 0;person 0 0;fact 0 1 0 1;fact 1 1 0;keeps 3*(day=0);");
        c.due("1 DAY", y.season(7, 1, NONE), 0);
        c.due("2 DAYS", y.season(7, 2, NONE), 1);
        c.due("3 DAYS", y.season(7, 3, NONE), 1);
        c.due("4 DAYS", y.season(7, 4, NONE), 3);
        c.due("60 DAYS", y.season(7, 60, NONE), 3);
    }

    private static int nextSeed(int seed) {
        return (int) (seed * 1103515245L + 12345L);
    }

    private static int draw(int seed, int n) {
        return (int) ((seed & 0xffffffffL) / 65536 % 32768 % n);
    }

    private static void seasonDraws() {
        c.about("ahead of each somebody is drawn, and a DRAW of 6 is his GRAINS from then on");
        // Each by himself at a table; what he eats on the first day is told by what he keeps on it.
        String text = "person 99 0;person 99 1;person 99 2;person 99 3;fact 0 1 0 1 2 3;price 0 1;keeps (day=0)*(1+salt);";
        boolean[] drawn = new boolean[24];
        for (int seed = 0; seed < 40; seed++) {
            SaltMinds x = Checks.told(text);
            int first = nextSeed(seed * 77777);
            int who = draw(first, 4);
            int grains = draw(nextSeed(first), 6);
            drawn[who * 6 + grains] = true;
            SaltMinds y = Checks.told(text);
            y.grains(who, grains);
            y.days(1);
            for (int p = 0; p < 4; p++) {
                c.due("until", y.until(p, 0), p == who ? 1 + grains : 1);
                // UNTIL k: recalled behind k DAYS, forgotten behind one more.
                c.due("season of " + seed, x.season(seed * 77777, y.until(p, 0), p), 1);
                c.due("season of " + seed, x.season(seed * 77777, y.until(p, 0) + 1, p), 0);
            }
        }
        int many = 0;
        for (boolean one : drawn) {
            many += one ? 1 : 0;
        }
        c.due("most draws came up", many > 12, true);
        c.about("(Without PEOPLE nothing is drawn.)");
        for (int n : new int[] {0, 1, 60}) {
            c.due("of nobody", new SaltMinds().season(5, n, NONE), 0);
        }
    }

    private static void seasonTells() {
        c.about("then the two of a drawn TALK: each tells the other one all that he recalls (.. nothing is drawn without TALKS)");
        SaltMinds x = Checks.told("person 0 0;person 0 0;fact 0 1 0;fact 0 1 1;talk 0 1;price 0 99;keeps 99;");
        c.due("ahead of the first DAY there is nothing to tell", x.season(3, 1, 0), 1);
        c.due("ahead of the second DAY both are told", x.season(3, 2, 0), 2);
        c.due("ahead of the second DAY both are told", x.season(3, 2, 1), 2);
        SaltMinds without = Checks.told("person 0 0;person 0 0;fact 0 1 0;fact 0 1 1;price 0 99;keeps 99;");
        c.due("without TALKS", without.season(3, 60, 0), 1);
        c.due("without TALKS", without.season(3, 60, 1), 1);
        // Told, UNTIL TODAY: at the dinner behind it the rule keeps it or not.
        SaltMinds y = Checks.told("person 0 0;person 0 0;fact 0 1 0;talk 1 0;price 0 99;keeps 99*(told=0);");
        c.due("told and forgotten each DAY but the first", y.season(3, 60, NONE), 59);
        c.due("he recalls nothing at the end", y.season(3, 60, 1), 0);
        // By seeds, whole seasons against the same DAYS one by one; an object is used for at most 512 calls.
        String text = "person 90 0;person 50 1;person 70 1;fact 0 3 0;fact 1 4 1 2;fact 6 6 0 1;talk 0 1;talk 2 1;price 3 2;";
        String ten = "person 90 0;person 50 1;person 70 1;" + "fact 0 3 0;fact 0 3 2;fact 1 3 1;".repeat(3) + "fact 0 3 0;talk 0 1;talk 2 1;";
        String silent = text.replace("talk 0 1;talk 2 1;", "");
        for (int seed : new int[] {0, 1, -1, 77, Checks.GREATEST, Checks.LEAST, 123456789}) {
            for (int n : new int[] {0, 1, 2, 5, 17, 35, 60}) {
                againstDays(text, 3, true, seed, n);
                againstDays(silent, 3, false, seed, n);
            }
            // As many FACTS as can be, for as many DAYS as 512 calls are enough for.
            for (int n : new int[] {1, 2, 3, 4, 12, 18}) {
                againstDays(ten, 10, true, seed, n);
            }
        }
    }

    private static void againstDays(String text, int facts, boolean talks, int seed, int n) {
        SaltMinds x = Checks.told(text);
        SaltMinds y = Checks.told(text);
        int s = seed;
        int lost = 0;
        for (int day = 0; day < n; day++) {
            s = nextSeed(s);
            int who = draw(s, 3);
            s = nextSeed(s);
            y.grains(who, draw(s, 6));
            if (talks) {
                s = nextSeed(s);
                int one = draw(s, 2) == 0 ? 0 : 2;
                for (int f = 0; f < facts; f++) {
                    if (!y.tell(f, one, 1)) {
                        y.tell(f, 1, one);
                    }
                }
            }
            lost += y.days(1);
        }
        c.due("season(" + seed + ", " + n + ", NONE)", x.season(seed, n, NONE), lost);
        for (int p = 0; p < 3; p++) {
            c.due("season(" + seed + ", " + n + ", " + p + ")", x.season(seed, n, p), Integer.bitCount(y.person(p, 3)));
        }
    }

    private static void seasonRefused() {
        c.about("season: NoSuchElementException: no such PERSON but NONE. IllegalArgumentException (behind that): n");
        SaltMinds x = Checks.told("person 0 0;person 0 0;");
        c.noSuchOf("season(5, 9, p)", p -> x.season(5, 9, p), -2, 2);
        c.noSuchOf("season(5, 61, p)", p -> x.season(5, 61, p), -2, 2);
        c.illegalOf("season(5, n, NONE)", n -> x.season(5, n, NONE), -1, 61);
        c.illegalOf("season(5, n, 1)", n -> x.season(5, n, 1), -1, 61);
        c.noSuchOf("season(5, 9, p) of nobody", p -> new SaltMinds().season(5, 9, p), -2, 0);
        c.illegalOf("season(5, n, NONE) of nobody", n -> new SaltMinds().season(5, n, NONE), -1, 61);
        c.due("0 DAYS", x.season(5, 0, NONE), 0);
        c.due("60 DAYS", x.season(5, 60, 1), 0);
    }

    private static void feast() {
        c.about("A FEAST: .. so many GRAINS (0 to 120; none bought) eaten by them, by how many they are, cut down");
        SaltMinds x = Checks.told("person 0 0;person 0 1;person 0 2;person 0 3;person 0 0;person 0 1;fact 0 1 0 5;price 0 99;keeps (day=0)+(0<day)*(19<salt);");
        x.days(1);
        c.due("120 by six", x.feast(120), 2);
        c.due("119 by six", x.feast(119), 0);
        c.due("0 by six", x.feast(0), 0);
        c.illegalOf("feast", g -> x.feast(g), -1, 121);
        SaltMinds y = Checks.told("person 0 0;person 0 1;person 0 2;person 0 3;person 0 0;person 0 1;fact 0 1 0 5;keeps (day=0)+(0<day)*salt;");
        y.days(1);
        c.due("5 by six", y.feast(5), 0);
        c.due("6 by six", y.feast(6), 2);
        SaltMinds alone = Checks.told("person 0 0;fact 0 1 0;keeps (day=0)+(0<day)*(salt=120);");
        alone.days(1);
        c.due("120 by one", alone.feast(120), 1);
        c.due("119 by one", alone.feast(119), 0);
        c.about("A FEAST of nobody");
        c.due("0", new SaltMinds().feast(0), 0);
        c.due("120", new SaltMinds().feast(120), 0);
        c.illegalOf("feast of nobody", g -> new SaltMinds().feast(g), -1, 121);
    }

    private static void feastOfTable() {
        c.about("were all at one TABLE TODAY");
        SaltMinds x = Checks.told("person 0 0;person 0 1;person 0 2;fact 0 1 0 1;keeps (day=0)+(0<day)*(table=3);");
        x.days(1);
        c.due("three are at it", x.feast(0), 2);
        c.due("as AHEAD each is by himself", x.ahead(0, 1), 0);
        c.about("recalled behind this DAY's MIDNIGHT");
        SaltMinds y = Checks.told("person 0 0;fact 0 1 0;keeps 2*(day=0);");
        y.days(1);
        c.due("until 2 at midnight to 2", y.feast(0), 1);
        y.days(1);
        c.due("until 2 at midnight to 3", y.feast(0), 0);
        c.about("by how many PEOPLE and FACTS");
        SaltMinds all = Checks.told("person 0 0;".repeat(6) + "fact 0 1 0 1 2 3 4 5;".repeat(10));
        c.due("12 by six, twice that is kept; learned at this dinner", all.feast(12), 60);
        c.due("5 by six", all.feast(5), 0);
    }

    private static void sick() {
        c.about("SICK is somebody for n DAYS (1 to 100): .. by how many FACTS fewer he recalls behind these than as AHEAD");
        SaltMinds x = Checks.told("person 9999 0;fact 0 1 0;fact 99 1 0;fact 100 1 0;price 0 1;keeps salt;");
        x.grains(0, 1);
        c.due("1 DAY", x.sick(0, 1), 1);
        c.due("99 DAYS", x.sick(0, 99), 1);
        c.due("100 DAYS", x.sick(0, 100), 2);
        c.about("sick: IllegalArgumentException (behind NoSuchElementException): n");
        c.illegalOf("sick(0, n)", n -> x.sick(0, n), 0, -1, 101);
        c.noSuchOf("sick(p, 5)", p -> x.sick(p, 5), -1, 1);
        c.noSuchOf("sick(p, 0)", p -> x.sick(p, 0), -1, 1);
        c.noSuchOf("sick of nobody", p -> new SaltMinds().sick(p, 101), -1, 0);
        c.about("fewer than as AHEAD: none, or less than none");
        SaltMinds y = Checks.told("person 9999 0;fact 0 1 0;fact 0 1 0;price 0 1;keeps (salt=0);");
        y.grains(0, 1);
        c.due("two more", y.sick(0, 1), -2);
        c.due("as many", Checks.told("person 9 0;fact 0 1 0;keeps 9;").sick(0, 100), 0);
    }

    private static void sickCounts() {
        c.about("he buys none and eats none of what his TABLE has (all else as ever, he counts there too)");
        SaltMinds x = Checks.told("person 9999 0;person 9999 0;fact 0 1 0;price 0 1;keeps salt;");
        x.grains(1, 2);
        c.due("by the other's salt he would recall it", x.ahead(0, 1), 1);
        c.due("he eats none of it", x.sick(0, 1), 1);
        SaltMinds y = Checks.told("person 9999 0;person 9999 0;fact 0 1 0;price 0 1;keeps (table=2);");
        c.due("he counts at his table", y.sick(0, 100), 0);
        SaltMinds z = Checks.told("person 10 0;person 0 0;fact 0 1 0 1;price 0 5;keeps salt;");
        z.grains(0, 2);
        c.due("behind 1 DAY", z.sick(0, 1), 1);
        c.due("of the other one, who would have eaten", z.sick(1, 1), 1);
        c.due("nothing was paid", z.person(0, 0), 10);
    }

    private static void spent() {
        c.about("SPENT: what all pay, together, in n DAYS (as AHEAD)");
        SaltMinds x = Checks.told("person 9999 0;person 9999 1;price 0 1;");
        x.grains(0, 1);
        x.grains(1, 2);
        c.due("0 DAYS", x.spent(0), 0);
        c.due("1 DAY", x.spent(1), 3);
        c.due("99 DAYS", x.spent(99), 297);
        c.due("100 DAYS", x.spent(100), 300);
        SaltMinds all = Checks.told("person 9999 0;".repeat(6) + "price 0 99;");
        for (int p = 0; p < 6; p++) {
            all.grains(p, 20);
        }
        c.due("5 DAYS", all.spent(5), 59400);
        c.due("all that they have", all.spent(6), 59994);
        c.due("all that they have", all.spent(100), 59994);
        c.due("of the price 0", Checks.told("person 9 0;price 0 0;").spent(100), 0);
        c.about("spent: IllegalArgumentException: n");
        c.illegalOf("spent", n -> x.spent(n), -1, 101);
        c.due("of nobody", new SaltMinds().spent(0), 0);
        c.due("of nobody", new SaltMinds().spent(100), 0);
        c.illegalOf("spent of nobody", n -> new SaltMinds().spent(n), -1, 101);
    }

    private static void status() {
        c.about("STATUS: how many calls were refused: 0 of TEXTS with a FAULT, 1 of ACTS, 2 of what is SEEN");
        SaltMinds x = Checks.told("person 9 0;person 9 0;fact 0 1 0;");
        c.due("none", x.count(9) + x.count(10) + x.count(11), 0);
        Checks.saltText(x, "oh");
        c.due("0", x.count(9) * 100 + x.count(10) * 10 + x.count(11), 100);
        x.grains(0, 21);
        x.sit(0, 4);
        x.tell(0, 0, 1);
        x.days(0);
        c.due("1", x.count(9) * 100 + x.count(10) * 10 + x.count(11), 140);
        for (int i = 0; i < 10; i++) {
            x.see(0, 0, true);
        }
        c.due("2", x.count(9) * 100 + x.count(10) * 10 + x.count(11), 142);
        // None of these is a call that was refused so.
        x.undo();
        x.restore();
        x.image();
        x.enough(0, 0, 1);
        for (int i = 0; i < 36; i++) {
            x.feed(0, 0, 0, 0, 0);
        }
        c.illegal("salt", () -> x.salt(701));
        c.noSuch("grains", () -> x.grains(9, 21));
        c.noSuch("see", () -> x.see(9, 9, true));
        c.illegal("ahead", () -> x.ahead(0, 101));
        c.due("they stay", x.count(9) * 100 + x.count(10) * 10 + x.count(11), 142);
        x.restore();
        c.due("they stay behind restore", x.count(9) * 100 + x.count(10) * 10 + x.count(11), 142);
        x.salt(0);
        c.due("they stay behind salt", x.count(9) * 100 + x.count(10) * 10 + x.count(11), 142);
    }
}
