/** Promises 14 to 21: AHEAD, THE FIRST BLANK, ENOUGH, CHEAPEST, WITNESSES, RATIONS. */
public final class AheadTest {
    private static final int NONE = SaltMinds.NONE;
    private static final Checks c = new Checks();

    public static void main(String[] args) {
        ahead();
        blank();
        enough();
        alone();
        cheapest();
        witnesses();
        rations();
        c.end();
    }

    private static void ahead() {
        SaltMinds x = Checks.told("person 40 0;person 0 1;fact 0 1 0 1;fact 2 1 1;");
        x.grains(0, 4);
        c.due("now", x.ahead(0, 0), 0);
        c.due("behind 1", x.ahead(0, 1), 1);
        c.due("behind 3", x.ahead(0, 3), 1);
        // Two dinners of 4 grains at 5 each: UNTIL 1 and 8.
        c.due("behind 9", x.ahead(0, 9), 1);
        c.due("behind 10", x.ahead(0, 10), 0);
        c.due("behind 100", x.ahead(0, 100), 0);
        c.due("nothing has changed", x.count(4) + x.person(0, 3) + x.count(6), 1);
        c.due("purse", x.person(0, 0), 40);
        c.illegal("ahead(0, 101)", () -> x.ahead(0, 101));
        c.illegal("ahead(0, -1)", () -> x.ahead(0, -1));
        c.noSuch("ahead(2, -1)", () -> x.ahead(2, -1));
        c.noSuch("ahead(-1, 1)", () -> x.ahead(-1, 1));
        SaltMinds y = Checks.told("person 40 0;fact 2 1 0;keeps 3;");
        c.due("learned behind 2", y.ahead(0, 2), 0);
        c.due("learned behind 3", y.ahead(0, 3), 1);
    }

    private static void blank() {
        // Fact 0 is learned and forgotten on one day: never a blank.
        SaltMinds x = Checks.told("person 40 0;person 40 1;fact 0 1 0;fact 1 2 0;fact 1 2 1;keeps (1<weight)*(day=1)*4;");
        c.due("none", x.blank(0, 0), NONE);
        c.due("none in 5", x.blank(5, 0), NONE);
        c.due("none in 5", x.blank(5, 1), NONE);
        c.due("behind 6", x.blank(6, 0), 6);
        c.due("the least", x.blank(6, 1), 1);
        c.due("behind 6", x.blank(100, 0), 6);
        x.days(2);
        c.due("behind 4", x.blank(100, 0), 4);
        x.days(3);
        c.due("tomorrow", x.blank(1, 0), 1);
        x.days(1);
        c.due("forgotten already", x.blank(100, 0), NONE);
        c.noSuch("blank(1, 2)", () -> x.blank(1, 2));
        c.noSuch("blank(101, 2)", () -> x.blank(101, 2));
        c.noSuch("blank(1, -1)", () -> x.blank(1, -1));
        SaltMinds y = Checks.told("person 40 0;fact 0 1 0;keeps 2*(day=0);");
        c.due("fact 0 behind 3", y.blank(3, 0), 3);
        c.due("fact 0", y.blank(3, 1), 0);
        c.illegal("blank(101, 0)", () -> x.blank(101, 0));
        c.illegal("blank(-1, 1)", () -> x.blank(-1, 1));
    }

    private static void enough() {
        SaltMinds x = Checks.told("person 40 0;person 40 0;fact 0 1 0;");
        x.grains(0, 2);
        x.days(1);
        c.due("until", x.until(0, 0), 2);
        c.due("1 day", x.enough(0, 0, 1), 0);
        c.due("2 days: until 3", x.enough(0, 0, 2), 1);
        c.due("40 days: until 41", x.enough(0, 0, 40), 20);
        c.due("41 days", x.enough(0, 0, 41), NONE);
        c.due("who doesn't recall", x.enough(1, 0, 1), NONE);
        c.illegal("n 0", () -> x.enough(0, 0, 0));
        c.illegal("n 101", () -> x.enough(1, 0, 101));
        c.noSuch("person 2", () -> x.enough(2, 0, 0));
        c.noSuch("fact 1", () -> x.enough(0, 1, 0));
        c.due("nothing has changed", x.person(0, 0), 30);
        // Not monotone: only 3 to 5 keep it.
        SaltMinds y = Checks.told("person 40 0;fact 0 1 0;keeps (day=0)+9*(2<salt)*(salt<6);");
        y.days(1);
        c.due("3 to 5 keep it", y.enough(0, 0, 9), 3);
    }

    private static void alone() {
        // Table counts 1, no facts are learned, those on the days behind eat none; forgotten ones don't count.
        SaltMinds x = Checks.told("person 90 0;person 90 0;fact 0 1 0;fact 0 9 0;fact 1 1 0 1;"
            + "keeps (day=0)*(1+weight)+(0<day)*(table=1)*(facts<3)*(1+(facts<2));");
        x.days(1);
        c.due("until(0, 0)", x.until(0, 0), 2);
        c.due("until(0, 1)", x.until(0, 1), 10);
        // Alone today (day 1) there are 2 facts: kept 1 each day.
        c.due("fact 0 alone", x.enough(0, 0, 50), 0);
        c.due("but by table 0 of two it is forgotten", x.ahead(0, 2), 0);
        c.due("fact 2 is not learned alone", x.enough(0, 2, 1), NONE);
    }

    private static void cheapest() {
        SaltMinds x = Checks.told("person 900 0;fact 0 1 0;fact 0 1 0;price 1 9;price 2 3;price 3 0;");
        x.grains(0, 1);
        x.days(1);
        c.noSuch("row(0)", () -> x.row(0));
        // UNTIL 2; today 1 at 9, then 3, then 0. Nothing to pay for 1 day.
        c.due("1 day", x.cheapest(0, 3, 1), 0);
        c.due("row", x.row(0), 0);
        c.noSuch("row(1)", () -> x.row(1));
        // Behind 2 days it is 3: a grain on day 2 at 3.
        c.due("2 days", x.cheapest(0, 3, 2), 3);
        c.due("row", x.row(0) * 10 + x.row(1), 1);
        // Behind 5 days it is 6: 1 grain on day 2 (UNTIL 4), then of no price on day 3 or 4; 0 1 0 1 0 is the first row.
        c.due("5 days", x.cheapest(0, 1, 5), 3);
        int digits = 0;
        for (int i = 0; i < 5; i++) {
            digits = digits * 10 + x.row(i);
        }
        c.due("row", digits, 1010);
        c.due("nothing asked", x.cheapest(0, 0, 3), 0);
        c.noSuch("row(3)", () -> x.row(3));
        c.due("row(2)", x.row(2), 0);
        c.noSuch("row(-1)", () -> x.row(-1));
        c.illegal("facts 4", () -> x.cheapest(0, 4, 3));
        c.illegal("facts -1", () -> x.cheapest(0, -1, 3));
        c.illegal("n 0", () -> x.cheapest(0, 1, 0));
        c.illegal("n 6", () -> x.cheapest(0, 1, 6));
        c.noSuch("person 1", () -> x.cheapest(1, 4, 0));
        c.due("nothing has changed", x.count(4) * 1000 + x.person(0, 0), 1895);
        SaltMinds y = Checks.told("person 900 0;person 9 0;fact 0 1 0;keeps (day=0)*2+(1<day)*(salt<1);");
        y.days(1);
        c.due("2 days", y.cheapest(0, 1, 2), 0);
        c.due("5 days", y.cheapest(0, 1, 5), 0);
        c.due("row", y.row(4), 0);
        c.illegal("who doesn't recall it", () -> y.cheapest(1, 1, 1));
        SaltMinds z = Checks.told("person 900 0;fact 0 1 0;keeps (day=0)*2+salt/7;");
        z.days(1);
        c.due("1 day", z.cheapest(0, 1, 1), 0);
        c.due("2 days: 6 are too few", z.cheapest(0, 1, 2), NONE);
        c.due("what is kept stays", z.row(0), 0);
        c.noSuch("what is kept stays", () -> z.row(1));
        SaltMinds six = Checks.told("person 900 0;fact 0 1 0;keeps (day=0)*2+salt/6;");
        six.days(1);
        c.due("2 days: 6 are enough", six.cheapest(0, 1, 2), 30);
        c.due("row", six.row(0) * 10 + six.row(1), 6);
        // The purse is not asked: none is paid.
        SaltMinds w = Checks.told("person 0 0;fact 0 1 0;keeps (day=0)+(0<day)*salt*2;");
        w.days(1);
        c.due("5 days", w.cheapest(0, 1, 5), 15);
        c.due("row: 1 0 1 0 1, ahead of 3 0 0 0 0", w.row(0) * 100 + w.row(1) * 10 + w.row(2), 101);
    }

    private static void witnesses() {
        SaltMinds x = Checks.told("person 0 0;person 0 1;person 0 2;person 0 3;"
            + "fact 0 1 0 2;fact 0 1 1 2;fact 0 1 0 3;fact 9 1 0;keeps (day=0)+(0<day)*salt;");
        x.days(1);
        c.due("nothing asked", x.witnesses(0, 0, 1), 0);
        c.due("fact 0", x.witnesses(1, 5, 5), 1);
        c.due("facts 0 and 1: one by himself", x.witnesses(3, 5, 5), 4);
        c.due("facts 1 and 2: 0 and 1, the least of two", x.witnesses(6, 5, 5), 3);
        c.due("facts 0 to 2", x.witnesses(7, 5, 5), 3);
        c.due("too little salt", x.witnesses(1, 5, 6), NONE);
        c.due("not learned yet", x.witnesses(8, 20, 1), NONE);
        c.illegal("facts 16", () -> x.witnesses(16, 0, 1));
        c.illegal("facts -1", () -> x.witnesses(-1, 0, 1));
        c.illegal("grains -1", () -> x.witnesses(1, -1, 1));
        c.illegal("grains 21", () -> x.witnesses(1, 21, 1));
        c.illegal("n 0", () -> x.witnesses(1, 1, 0));
        c.illegal("n 101", () -> x.witnesses(1, 1, 101));
    }

    private static void rations() {
        SaltMinds x = Checks.told("person 0 0;person 0 1;person 0 2;fact 0 4 0;fact 0 4 1 2;fact 0 3 2;fact 0 1 0 1 2;"
            + "keeps (day=0)+(0<day)*salt*weight/4;");
        x.days(1);
        c.noSuch("none are kept", () -> x.ration(0));
        // Behind n days UNTIL must be 1 + n: weight 4 needs n grains, 3 needs ceil(4n/3), 1 needs 4n.
        c.due("0 grains", x.rations(0, 1), 0);
        c.due("row", x.ration(0) + x.ration(1) + x.ration(2), 0);
        c.due("1 grain, 1 day", x.rations(1, 1), 4);
        c.due("row: the last one", x.ration(0) * 100 + x.ration(1) * 10 + x.ration(2), 1);
        c.due("2 grains, 2 days", x.rations(2, 2), 4);
        c.due("row: the last one first", x.ration(0) * 100 + x.ration(1) * 10 + x.ration(2), 2);
        c.due("3 grains, 2 days", x.rations(3, 2), 7);
        c.due("row", x.ration(0) * 100 + x.ration(1) * 10 + x.ration(2), 3);
        c.due("4 grains, 2 days", x.rations(4, 2), 8);
        c.due("row: all 4 are needed", x.ration(0) * 100 + x.ration(1) * 10 + x.ration(2), 22);
        c.due("30 grains, 2 days", x.rations(30, 2), 18);
        c.due("row", x.ration(0) * 100 + x.ration(1) * 10 + x.ration(2), 888);
        c.due("30 grains, 30 days", x.rations(30, 30), 0);
        c.due("row: none is needed", x.ration(0) + x.ration(1) + x.ration(2), 0);
        c.due("20 for one at most", x.rations(30, 20), 4);
        c.due("row", x.ration(0) * 10000 + x.ration(1) * 100 + x.ration(2), 20);
        c.illegal("g 31", () -> x.rations(31, 1));
        c.illegal("g -1", () -> x.rations(-1, 1));
        c.illegal("n 0", () -> x.rations(1, 0));
        c.illegal("n 101", () -> x.rations(1, 101));
        c.due("what is kept stays", x.ration(2), 20);
        c.noSuch("person 3", () -> x.ration(3));
        c.noSuch("person -1", () -> x.ration(-1));
        x.days(1);
        c.due("what is kept stays behind days", x.ration(2), 20);
    }
}
