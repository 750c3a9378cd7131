/** Promises 28 to 37: COURT, MERCHANTS, A CORNER, SEASONS, A FEAST, SICK, SPENT. */
public final class CourtTest {
    private static final int NONE = SaltMinds.NONE;
    private static final Checks c = new Checks();

    public static void main(String[] args) {
        court();
        merchants();
        corner();
        season();
        feast();
        sick();
        spent();
        c.end();
    }

    private static void court() {
        SaltMinds x = Checks.told("person 0 0;person 0 0;fact 0 5 0;fact 0 8 0;fact 0 1 1;fact 1 1 0;"
            + "keeps (day=0)+(0<day)*((weight-1)<salt)*(salt<2*weight);");
        x.days(1);
        c.due("nothing seen", x.ate(0, 0), 21);
        c.due("the least", x.ate(0, 1), 0);
        // Fact 0 is kept by 5 to 9 grains, fact 1 by 8 to 15.
        c.due("see", x.see(0, 0, true), 1);
        c.due("5 to 9", x.ate(0, 0), 5);
        c.due("5", x.ate(0, 1), 5);
        c.due("see", x.see(0, 1, true), 2);
        c.due("8 and 9", x.ate(0, 0), 2);
        c.due("8", x.ate(0, 1), 8);
        c.due("blamed", x.blamed(), 0);
        c.due("see", x.see(0, 1, false), 3);
        c.due("none", x.ate(0, 0), 0);
        c.due("none", x.ate(0, 1), NONE);
        c.due("blamed", x.blamed(), 1);
        c.due("of the other one nothing is seen", x.ate(1, 0), 21);
        c.due("see", x.see(1, 0, true), 4);
        c.due("blamed", x.blamed(), 3);
        x.forget();
        c.due("seen", x.count(7), 0);
        c.due("blamed", x.blamed(), 0);
        c.due("alone nothing is learned", x.see(0, 3, true), 1);
        c.due("blamed", x.blamed(), 1);
        x.forget();
        for (int i = 1; i <= 8; i++) {
            c.due("see", x.see(1, 2, false), i);
        }
        c.due("the ninth", x.see(1, 2, true), NONE);
        c.due("status 2", x.count(11), 1);
        c.due("seen", x.count(7), 8);
        c.due("all but 1", x.ate(1, 0), 20);
        c.noSuch("person 2", () -> x.see(2, 0, true));
        c.noSuch("person -1", () -> x.see(-1, 0, true));
        c.noSuch("fact 4", () -> x.see(0, 4, true));
        c.noSuch("fact -1", () -> x.see(0, -1, true));
        c.due("status 2 stays", x.count(11), 1);
        c.noSuch("ate(2, 0)", () -> x.ate(2, 0));
        c.noSuch("ate(-1, 0)", () -> x.ate(-1, 0));
        c.noSuch("ate(0, 2)", () -> x.ate(0, 2));
        c.noSuch("ate(0, -1)", () -> x.ate(0, -1));
    }

    private static void merchants() {
        // Nobody gains above 2 against 2; with purses of nothing all couples rest.
        SaltMinds x = Checks.told("person 0 0;");
        c.due("all rest", x.merchants(0), 81);
        c.due("the first", x.merchants(1), 11);
        SaltMinds y = Checks.told("person 9999 0;");
        // Ten grains by any price: each undercuts the other one, down to 2 and what is like it: (2, 2), (3, 2), (3, 3).
        c.due("three rest", y.merchants(0), 3);
        c.due("the first", y.merchants(1), 22);
        c.noSuch("merchants(2)", () -> y.merchants(2));
        c.noSuch("merchants(-1)", () -> y.merchants(-1));
    }

    private static void corner() {
        SaltMinds x = Checks.told("person 50 0;person 9999 0;person 7 0;");
        // By 1: 10 + 10 + 7; by 2: 10 + 10 + 3; by 99: 0 + 10 + 0.
        c.due("60", x.corner(60), 1);
        c.due("27", x.corner(27), 1);
        c.due("26", x.corner(26), 2);
        c.due("23", x.corner(23), 2);
        c.due("22: 10 + 10 + 2", x.corner(22), 3);
        c.due("10: more than 50", x.corner(10), 51);
        c.due("9: none", x.corner(9), NONE);
        SaltMinds y = Checks.told("person 99 0;person 98 0;");
        c.due("by 99 the first buys one", y.corner(1), 99);
        c.due("none", y.corner(0), NONE);
        SaltMinds z = Checks.told("person 98 0;person 98 0;");
        c.due("by 99", z.corner(0), 99);
        c.illegal("61", () -> x.corner(61));
        c.illegal("-1", () -> x.corner(-1));
    }

    private static int nextSeed(int seed) {
        return seed * 1103515245 + 12345;
    }

    private static int draw(int seed, int n) {
        return ((seed >>> 16) & 32767) % n;
    }

    private static void season() {
        SaltMinds alone = Checks.told("person 90 0;fact 0 3 0;");
        // Without talks only two draws go by each day.
        SaltMinds by = Checks.told("person 90 0;fact 0 3 0;");
        int s = 5;
        for (int day = 0; day < 4; day++) {
            s = nextSeed(nextSeed(s));
            by.grains(0, draw(s, 6));
            by.days(1);
        }
        c.due("without talks", alone.season(5, 4, 0), Integer.bitCount(by.person(0, 3)));
        c.noSuch("person 1", () -> alone.season(5, 1, 1));
        c.noSuch("person -2", () -> alone.season(5, 61, -2));
        c.illegal("n 61", () -> alone.season(5, 61, 0));
        c.illegal("n -1", () -> alone.season(5, -1, NONE));
        c.due("without people", new SaltMinds().season(5, 60, NONE), 0);
    }

    private static void feast() {
        SaltMinds x = Checks.told("person 3 0;person 4 1;person 5 2;fact 0 2 0;fact 1 1 1 2;keeps (day=0)+(0<day)*(table=3)*(0<salt);");
        x.days(1);
        c.due("2 grains of three: nothing is eaten", x.feast(2), 0);
        c.due("3 grains, and what is learned today", x.feast(3), 3);
        c.due("120 grains", x.feast(120), 3);
        c.due("nothing has changed", x.count(4) * 100 + x.count(12) * 10 + x.person(0, 0), 113);
        c.illegal("121", () -> x.feast(121));
        c.illegal("-1", () -> x.feast(-1));
    }

    private static void sick() {
        // Together they buy 4 + 2 = 6, each eats 3; if the first is sick the other one eats 2 / 2 = 1.
        SaltMinds x = Checks.told("person 900 0;person 900 0;fact 0 1 0 1;fact 1 2 0 1;keeps (weight=1)*salt+(weight=2)*(table=2)*9;");
        x.grains(0, 4);
        x.grains(1, 2);
        c.due("one fact fewer", x.sick(0, 1), 1);
        c.due("one fact fewer, though he learns the other", x.sick(0, 2), 1);
        c.due("the other one is sick", x.sick(1, 2), 1);
        c.due("nothing has changed", x.count(4) + x.count(12), 0);
        // More facts than as AHEAD are fewer than none.
        SaltMinds y = Checks.told("person 900 0;fact 0 1 0;keeps (salt=0);");
        y.grains(0, 4);
        c.due("one more", y.sick(0, 1), -1);
        c.illegal("n 0", () -> y.sick(0, 0));
        c.illegal("n 101", () -> y.sick(0, 101));
        c.noSuch("person 1", () -> y.sick(1, 0));
        c.noSuch("person -1", () -> y.sick(-1, 1));
        // Later the sick one has his purse still; both facts of the other one are as the share of 4 / 2.
        SaltMinds z = Checks.told("person 20 0;person 900 0;fact 3 1 0;");
        z.grains(0, 4);
        z.grains(1, 2);
        c.due("he recalls it by the other's salt", z.sick(0, 4), 1);
    }

    private static void spent() {
        SaltMinds x = Checks.told("person 22 0;person 900 0;price 1 3;price 2 0;price 3 10;");
        x.grains(0, 4);
        x.grains(1, 2);
        c.due("0 days", x.spent(0), 0);
        // 4 and 2 at 5; then 0 and 2 at 3 (a purse of 2); then at 0; then 2 at 10 each day.
        c.due("1 day", x.spent(1), 30);
        c.due("2 days", x.spent(2), 36);
        c.due("3 days", x.spent(3), 36);
        c.due("4 days", x.spent(4), 56);
        c.due("47 days", x.spent(47), 916);
        c.due("100 days", x.spent(100), 916);
        c.due("nothing has changed", x.person(0, 0), 22);
        c.illegal("n -1", () -> x.spent(-1));
        c.illegal("n 101", () -> x.spent(101));
    }
}
