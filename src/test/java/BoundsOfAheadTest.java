/** Each sentence of ==== 3, and of promises 14 to 21, that names a bound: at the bound and on both sides of it. */
public final class BoundsOfAheadTest {
    private static final int NONE = SaltMinds.NONE;
    private static final Checks c = new Checks();

    public static void main(String[] args) {
        ahead();
        aheadTellsNobody();
        blank();
        blankOfNobody();
        enough();
        enoughRefused();
        alone();
        cheapest();
        cheapestFirst();
        cheapestRefused();
        row();
        witnesses();
        witnessesRefused();
        rations();
        rationsFirst();
        rationsRefused();
        nothingChanges();
        c.end();
    }

    private static void ahead() {
        c.about("AHEAD by n DAYS (0 to 100): who recalls a FACT (bits)");
        SaltMinds x = Checks.told("person 0 0;person 0 1;fact 0 1 0;fact 99 2 1;fact 100 2 1;keeps 99*(day=0)*(weight=1)+9*(weight=2);");
        c.due("now", x.ahead(0, 0), 0);
        c.due("behind 1", x.ahead(0, 1), 1);
        c.due("behind 99", x.ahead(0, 99), 1);
        c.due("behind 100", x.ahead(0, 100), 0);
        c.due("day 99 behind 99", x.ahead(1, 99), 0);
        c.due("day 99 behind 100", x.ahead(1, 100), 2);
        c.due("day 100 behind 100", x.ahead(2, 100), 0);
        c.about("ahead: IllegalArgumentException (behind NoSuchElementException): n (as everywhere)");
        c.illegalOf("ahead(0, n)", n -> x.ahead(0, n), -1, 101);
        c.noSuchOf("ahead(f, 5)", f -> x.ahead(f, 5), -1, 3);
        c.noSuchOf("ahead(f, 101)", f -> x.ahead(f, 101), -1, 3);
        c.noSuchOf("ahead(f, -1) of none", f -> new SaltMinds().ahead(f, -1), -1, 0);
        x.days(1);
        c.due("now, by one who recalls it", x.ahead(0, 0), 1);
        c.due("behind 98", x.ahead(0, 98), 1);
        c.due("behind 99", x.ahead(0, 99), 0);
    }

    private static void aheadTellsNobody() {
        c.about("AHEAD .. nobody telling");
        SaltMinds x = Checks.told("person 0 0;person 0 0;fact 0 1 0;talk 0 1;keeps 9;");
        x.days(1);
        c.due("the other one isn't told", x.ahead(0, 50), 1);
        c.due("but by himself", x.tell(0, 0, 1), true);
        c.due("both", x.ahead(0, 50), 3);
    }

    private static void blank() {
        c.about("THE FIRST BLANK: behind how many of n DAYS");
        SaltMinds x = Checks.told("person 0 0;fact 0 1 0;keeps 99*(day=0);");
        c.due("of none", x.blank(0, 0), NONE);
        c.due("of none", x.blank(0, 1), NONE);
        c.due("of 1", x.blank(1, 0), NONE);
        c.due("of 99", x.blank(99, 0), NONE);
        c.due("of 99", x.blank(99, 1), NONE);
        c.due("of 100", x.blank(100, 0), 100);
        c.due("of 100: which", x.blank(100, 1), 0);
        x.days(99);
        c.due("tomorrow it is blank", x.blank(1, 0), 1);
        c.due("tomorrow it is blank", x.blank(100, 0), 1);
        c.due("now it isn't", x.blank(0, 0), NONE);
        c.about("blank: NoSuchElementException: another what. IllegalArgumentException (behind that): n");
        c.noSuchOf("blank(1, what)", what -> x.blank(1, what), -1, 2);
        c.noSuchOf("blank(101, what)", what -> x.blank(101, what), -1, 2);
        c.illegalOf("blank(n, 0)", n -> x.blank(n, 0), -1, 101);
        c.illegalOf("blank(n, 1)", n -> x.blank(n, 1), -1, 101);
        c.about("for the first time a FACT is recalled by nobody");
        SaltMinds y = Checks.told("person 0 0;person 0 1;fact 0 1 0 1;price 0 0;keeps (day=0)+salt*(day=0);");
        y.grains(1, 3);
        c.due("one forgets it behind 2", y.ahead(0, 2), 2);
        c.due("the other one behind 5", y.blank(4, 0), NONE);
        c.due("the other one behind 5", y.blank(5, 0), 5);
        c.about("that somebody recalls now or did behind an earlier one of them");
        // Learned and forgotten at the same midnight: nobody ever did behind a DAY.
        c.due("never recalled", Checks.told("person 0 0;fact 3 1 0;keeps 0;").blank(100, 0), NONE);
        SaltMinds z = Checks.told("person 0 0;fact 3 1 0;keeps 2*(day=3);");
        c.due("learned on day 3, until 5", z.blank(5, 0), NONE);
        c.due("learned on day 3, until 5", z.blank(6, 0), 6);
        z.days(6);
        c.due("forgotten by now", z.blank(100, 0), NONE);
        c.about("which (the least)");
        SaltMinds w = Checks.told("person 0 0;fact 0 3 0;fact 0 2 0;fact 0 2 0;fact 0 1 0;keeps (day=0)*weight;");
        c.due("the last one goes first", w.blank(100, 1), 3);
        c.due("behind", w.blank(100, 0), 2);
        w.days(2);
        c.due("the least of two", w.blank(100, 1), 1);
        c.due("behind", w.blank(100, 0), 1);
        w.days(1);
        c.due("the one that is left", w.blank(100, 1), 0);
    }

    private static void blankOfNobody() {
        c.about("THE FIRST BLANK .. none");
        SaltMinds x = new SaltMinds();
        for (int n : new int[] {0, 1, 100}) {
            c.due("of nobody", x.blank(n, 0), NONE);
            c.due("of nobody", x.blank(n, 1), NONE);
        }
        c.illegalOf("blank(n, 0) of nobody", n -> x.blank(n, 0), -1, 101);
        c.due("the last of ten", Checks.told("person 0 0;" + "fact 0 2 0;".repeat(9) + "fact 0 1 0;keeps (weight=2)+(day=0);").blank(2, 1), 9);
    }

    private static SaltMinds behindOne(String rule) {
        SaltMinds x = Checks.told("person 0 0;person 0 0;fact 0 1 0;price 0 99;keeps (day=0)+(0<day)*(" + rule + ");");
        x.days(1);
        return x;
    }

    private static void enough() {
        c.about("ENOUGH: the least GRAINS TODAY, .. by which he recalls a FACT behind n DAYS (1 to 100); none");
        SaltMinds x = behindOne("salt");
        for (int n = 1; n <= 20; n++) {
            c.due("behind " + n, x.enough(0, 0, n), n);
        }
        c.due("20 GRAINS are the most", x.enough(0, 0, 21), NONE);
        c.due("20 alone", behindOne("salt=20").enough(0, 0, 1), 20);
        c.due("21 alone", behindOne("salt=21").enough(0, 0, 1), NONE);
        c.due("none alone", behindOne("salt=0").enough(0, 0, 1), 0);
        c.due("none alone", behindOne("salt=0").enough(0, 0, 100), 0);
        c.due("99 DAYS", behindOne("99*(0<salt)").enough(0, 0, 99), 1);
        c.due("100 DAYS", behindOne("99*(0<salt)").enough(0, 0, 100), NONE);
        c.due("100 DAYS, one of which is kept by none", behindOne("99*(0<salt)or day=100").enough(0, 0, 1), 1);
        c.due("kept day by day", behindOne("1").enough(0, 0, 100), 0);
        c.about("none on the DAYS behind it");
        c.due("3 TODAY alone", behindOne("salt=3").enough(0, 0, 1), 3);
        c.due("3 on both DAYS", behindOne("salt=3").enough(0, 0, 2), NONE);
        c.due("4 TODAY, none behind it", behindOne("(day=1)*(salt=4)+(1<day)*(salt=0)").enough(0, 0, 100), 4);
        c.about("UNTIL is late enough as it is");
        SaltMinds y = Checks.told("person 0 0;fact 0 1 0;keeps 5*(day=0);");
        y.days(1);
        c.due("until 5: behind 4", y.enough(0, 0, 4), 0);
        c.due("until 5: behind 5", y.enough(0, 0, 5), NONE);
    }

    private static void enoughRefused() {
        c.about("enough: NONE: none (also if he doesn't recall it). Likewise");
        SaltMinds x = behindOne("50");
        c.due("who recalls it", x.enough(0, 0, 1), 0);
        c.due("who doesn't", x.enough(1, 0, 1), NONE);
        c.illegalOf("enough(0, 0, n)", n -> x.enough(0, 0, n), 0, -1, 101);
        c.illegalOf("enough(1, 0, n)", n -> x.enough(1, 0, n), 0, -1, 101);
        c.noSuchOf("enough(p, 0, 1)", p -> x.enough(p, 0, 1), -1, 2);
        c.noSuchOf("enough(p, 0, 0)", p -> x.enough(p, 0, 0), -1, 2);
        c.noSuchOf("enough(0, f, 1)", f -> x.enough(0, f, 1), -1, 1);
        c.noSuchOf("enough(0, f, 101)", f -> x.enough(0, f, 101), -1, 1);
    }

    private static void alone() {
        c.about("ALONE somebody eats what he is given (0 to 20 GRAINS, none is paid)");
        SaltMinds x = Checks.told("person 7 0;person 0 0;fact 0 1 0;price 0 99;keeps (day=0)+(0<day)*salt;");
        x.grains(0, 20);
        x.grains(1, 20);
        x.days(1);
        c.due("all that he is given, whatever his table has", x.enough(0, 0, 20), 20);
        c.due("none is paid", x.person(0, 0), 7);
        c.about("ALONE .. no FACTS are learned");
        SaltMinds y = Checks.told("person 0 0;fact 0 1 0;fact 1 1 0;keeps (day=0)+(0<day)*(facts=1);");
        y.days(1);
        c.due("that of TODAY isn't", y.enough(0, 1, 1), NONE);
        c.due("nor does it count among his facts", y.enough(0, 0, 1), 0);
        c.due("as AHEAD it does", y.ahead(0, 1), 0);
        SaltMinds tomorrow = Checks.told("person 0 0;fact 0 1 0;fact 2 1 0;keeps (day=0)+(0<day)*(facts=1);");
        tomorrow.days(1);
        c.due("nor that of tomorrow", tomorrow.enough(0, 0, 100), 0);
        c.about("ALONE .. 'table' is 1");
        SaltMinds z = Checks.told("person 0 0;person 0 0;fact 0 1 0;keeps (day=0)+(0<day)*(table=1);");
        z.days(1);
        c.due("alone", z.enough(0, 0, 100), 0);
        c.due("as AHEAD they are two", z.ahead(0, 1), 0);
        c.due("witnesses", z.witnesses(1, 0, 100), 1);
        c.due("rations", z.rations(0, 100), 1);
        c.due("cheapest", z.cheapest(0, 1, 5), 0);
        c.due("see", z.see(0, 0, true), 1);
        c.due("ate", z.ate(0, 0), 21);
    }

    private static int rowOf(SaltMinds x, int n) {
        int digits = 0;
        for (int i = 0; i < n; i++) {
            digits = 10 * digits + x.row(i);
        }
        return digits;
    }

    private static void cheapest() {
        c.about("CHEAPEST for .. n DAYS (1 to 5): each DAY 0 to 6 GRAINS");
        SaltMinds x = behindOne("salt=6");
        int row = 0;
        for (int n = 1; n <= 5; n++) {
            row = 10 * row + 6;
            c.due("6 each day, " + n + " days", x.cheapest(0, 1, n), n * 6 * 99);
            c.due("row", rowOf(x, n), row);
        }
        c.due("7 is too much", behindOne("salt=7").cheapest(0, 1, 1), NONE);
        c.due("0 each day", behindOne("salt=0").cheapest(0, 1, 5), 0);
        c.due("6 once", behindOne("salt").cheapest(0, 1, 5), 5 * 99);
        c.about("the least that they cost by PRICES");
        SaltMinds y = Checks.told("person 0 0;fact 0 1 0;price 0 5;price 2 1;keeps 2*(day=0)+(0<day)*salt;");
        y.days(1);
        c.due("until 2 is late enough", y.cheapest(0, 1, 1), 0);
        c.due("one on the cheap day", y.cheapest(0, 1, 2), 1);
        c.due("row", rowOf(y, 2), 1);
        c.due("one on each cheap day", y.cheapest(0, 1, 5), 4);
        c.due("row, ahead of 0 4 0 0 0", rowOf(y, 5), 1111);
        // A price that rises: all at once on the first day.
        SaltMinds z = Checks.told("person 0 0;fact 0 1 0;price 0 1;price 2 9;keeps (day=0)+(0<day)*salt;");
        z.days(1);
        c.due("all on the first day", z.cheapest(0, 1, 5), 5);
        c.due("row", rowOf(z, 5), 50000);
        // Six at once on the first day are the most: behind seven of them nothing could be paid.
        SaltMinds half = Checks.told("person 0 0;fact 0 1 0;price 0 1;price 2 9;keeps (day=0)+(0<day)*salt/2;");
        half.days(1);
        c.due("six on the first day, two on a later one", half.cheapest(0, 1, 4), 6 + 18);
        c.due("row", rowOf(half, 4), 6002);
    }

    private static void cheapestFirst() {
        c.about("of like ones the first as a row");
        SaltMinds x = Checks.told("person 0 0;fact 0 1 0;price 0 0;keeps (day=0)+(0<day)*salt;");
        x.days(1);
        c.due("of no price", x.cheapest(0, 1, 3), 0);
        c.due("row", rowOf(x, 3), 111);
        SaltMinds y = Checks.told("person 0 0;fact 0 1 0;price 0 3;keeps 3*(day=0)+(0<day)*9*(salt=2);");
        y.days(1);
        c.due("two on one of three days", y.cheapest(0, 1, 3), 6);
        c.due("row, ahead of 0 2 0 and 2 0 0", rowOf(y, 3), 2);
        c.about("for a set of FACTS");
        SaltMinds z = Checks.told("person 0 0;fact 0 1 0;fact 0 2 0;fact 0 3 0;price 0 1;keeps (day=0)+(0<day)*(salt=weight);");
        z.days(1);
        c.due("none of them", z.cheapest(0, 0, 5), 0);
        c.due("row", rowOf(z, 5), 0);
        c.due("the first", z.cheapest(0, 1, 1), 1);
        c.due("the second", z.cheapest(0, 2, 1), 2);
        c.due("the third", z.cheapest(0, 4, 1), 3);
        c.due("row", z.row(0), 3);
        c.due("two of them", z.cheapest(0, 3, 1), NONE);
        c.due("what is kept stays", z.row(0), 3);
        c.due("all", z.cheapest(0, 7, 1), NONE);
    }

    private static void cheapestRefused() {
        c.about("cheapest: IllegalArgumentException (behind NoSuchElementException): FACTS that he doesn't recall, or that there aren't, n");
        SaltMinds x = Checks.told("person 0 0;person 0 0;fact 0 1 0;fact 0 1 1;keeps 9;");
        x.days(1);
        x.cheapest(0, 1, 3);
        c.illegalOf("cheapest(0, 1, n)", n -> x.cheapest(0, 1, n), 0, -1, 6);
        c.illegalOf("cheapest(0, facts, 3)", facts -> x.cheapest(0, facts, 3), -1, 2, 3, 4, 5, 1024);
        c.illegalOf("cheapest(0, facts, 0)", facts -> x.cheapest(0, facts, 0), -1, 0, 1, 2);
        c.noSuchOf("cheapest(p, 1, 3)", p -> x.cheapest(p, 1, 3), -1, 2);
        c.noSuchOf("cheapest(p, 4, 0)", p -> x.cheapest(p, 4, 0), -1, 2);
        c.due("what is kept stays", rowOf(x, 3), 0);
        c.noSuch("what is kept stays", () -> x.row(3));
        x.days(100);
        c.due("none of them", x.cheapest(1, 0, 5), 0);
        // With ten FACTS each bit may be asked for, and none above.
        SaltMinds ten = Checks.told("person 0 0;" + "fact 0 1 0;".repeat(10) + "keeps 9;");
        ten.days(1);
        c.due("all ten", ten.cheapest(0, 1023, 5), 0);
        c.illegalOf("cheapest(0, facts, 5) of ten", facts -> ten.cheapest(0, facts, 5), 1024, 1 << 30);
    }

    private static void row() {
        c.about("row: NoSuchElementException: none is kept, there is none");
        SaltMinds x = Checks.told("person 0 0;fact 0 1 0;keeps 9;");
        c.noSuchOf("row of none", i -> x.row(i), -1, 0, 1);
        c.due("none of them", x.cheapest(0, 0, 5), 0);
        c.due("the last one", x.row(4), 0);
        c.noSuchOf("row of 5", i -> x.row(i), -1, 5);
        c.due("none of them", x.cheapest(0, 0, 1), 0);
        c.due("the only one", x.row(0), 0);
        c.noSuchOf("row of 1", i -> x.row(i), -1, 1, 4);
        c.noSuch("row of a new object", () -> new SaltMinds().row(0));
    }

    private static SaltMinds sixWitnesses(String rule) {
        StringBuilder b = new StringBuilder("person 0 0;".repeat(6));
        for (int f = 0; f < 10; f++) {
            b.append("fact 0 1 ").append(Math.min(f, 5)).append(';');
        }
        SaltMinds x = Checks.told(b + "keeps (day=0)+(0<day)*(" + rule + ");");
        x.days(1);
        return x;
    }

    private static void witnesses() {
        c.about("WITNESSES: each ALONE given so many GRAINS TODAY, none on the DAYS behind it, .. behind n DAYS (1 to 100)");
        SaltMinds x = sixWitnesses("salt");
        c.due("0 GRAINS", x.witnesses(1, 0, 1), NONE);
        c.due("1 GRAIN", x.witnesses(1, 1, 1), 1);
        c.due("20 GRAINS, 20 DAYS", x.witnesses(1023, 20, 20), 63);
        c.due("20 GRAINS, 21 DAYS", x.witnesses(1023, 20, 21), NONE);
        SaltMinds late = sixWitnesses("99*(0<salt)");
        c.due("99 DAYS", late.witnesses(1, 1, 99), 1);
        c.due("100 DAYS", late.witnesses(1, 1, 100), NONE);
        c.due("100 DAYS", sixWitnesses("1").witnesses(1023, 0, 100), 63);
        c.due("3 on both DAYS", sixWitnesses("salt=3").witnesses(1, 3, 2), NONE);
        c.about("the fewest PEOPLE who .. recall .. each FACT of it, some one of them each");
        for (int f = 0; f < 10; f++) {
            c.due("fact " + f, x.witnesses(1 << f, 5, 5), 1 << Math.min(f, 5));
        }
        c.due("the last five facts: one by himself", x.witnesses(1023 - 31, 5, 5), 32);
        c.due("facts 0 and 9", x.witnesses(513, 5, 5), 33);
        c.due("all of them", x.witnesses(1023, 5, 5), 63);
        c.about("witnesses: (0: nothing is asked)");
        c.due("nothing is asked", x.witnesses(0, 0, 1), 0);
        c.due("nothing is asked", x.witnesses(0, 20, 100), 0);
        c.due("of nobody", new SaltMinds().witnesses(0, 0, 1), 0);
        c.about("of as few the least as bits; none");
        SaltMinds y = Checks.told("person 0 0;person 0 0;person 0 0;person 0 0;fact 0 1 3 2 1;fact 0 1 2 0;fact 0 1 3 0;fact 9 1 0 1 2 3;keeps 9;");
        y.days(1);
        c.due("1, 2 or 3", y.witnesses(1, 0, 1), 2);
        c.due("2 by himself, ahead of 0 and 1", y.witnesses(3, 0, 1), 4);
        c.due("0 and 1, ahead of 0 and 2, 2 and 3", y.witnesses(7, 0, 1), 3);
        c.due("what nobody recalls", y.witnesses(8, 20, 1), NONE);
        c.due("what nobody recalls", y.witnesses(15, 20, 1), NONE);
    }

    private static void witnessesRefused() {
        c.about("witnesses: IllegalArgumentException: FACTS that there aren't, GRAINS, n");
        SaltMinds x = sixWitnesses("1");
        c.illegalOf("witnesses(facts, 5, 5)", facts -> x.witnesses(facts, 5, 5), -1, 1024, 1025);
        c.illegalOf("witnesses(1, grains, 5)", g -> x.witnesses(1, g, 5), -1, 21);
        c.illegalOf("witnesses(1, 5, n)", n -> x.witnesses(1, 5, n), 0, -1, 101);
        c.illegalOf("witnesses(0, grains, 5)", g -> x.witnesses(0, g, 5), -1, 21);
        c.illegalOf("witnesses(0, 5, n)", n -> x.witnesses(0, 5, n), 0, -1, 101);
        c.due("0 GRAINS, 1 DAY", x.witnesses(1, 0, 1), 1);
        c.due("20 GRAINS, 100 DAYS", x.witnesses(1, 20, 100), 1);
        SaltMinds two = Checks.told("person 0 0;fact 0 1 0;fact 0 1 0;");
        c.illegalOf("witnesses(facts, 5, 5) of two", facts -> two.witnesses(facts, 5, 5), -1, 4, 5, 8);
        c.due("both, of nobody", two.witnesses(3, 5, 5), NONE);
        c.illegalOf("witnesses(facts, 5, 5) of none", facts -> new SaltMinds().witnesses(facts, 5, 5), -1, 1);
    }

    private static int sharesOf(SaltMinds x, int people) {
        int digits = 0;
        for (int p = 0; p < people; p++) {
            digits = 100 * digits + x.ration(p);
        }
        return digits;
    }

    private static void rations() {
        c.about("RATIONS: g GRAINS (0 to 30; all of them or fewer, 20 for one at most) TODAY among all");
        SaltMinds x = Checks.told("person 0 0;person 0 0;fact 0 5 0;fact 0 5 1;keeps (day=0)+(0<day)*salt;");
        x.days(1);
        c.due("20 of 30 for one", x.rations(30, 20), 5);
        c.due("row", sharesOf(x, 2), 20);
        c.due("20 of 20", x.rations(20, 20), 5);
        c.due("row", sharesOf(x, 2), 20);
        c.due("19 are too few", x.rations(19, 20), 0);
        c.due("row", sharesOf(x, 2), 0);
        c.due("21 would be needed", x.rations(30, 21), 0);
        c.due("row", sharesOf(x, 2), 0);
        c.due("all 30", x.rations(30, 15), 10);
        c.due("row", sharesOf(x, 2), 1515);
        c.due("29 of 30 that would be needed", x.rations(29, 15), 5);
        c.due("row", sharesOf(x, 2), 15);
        c.due("none", x.rations(0, 1), 0);
        c.due("row", sharesOf(x, 2), 0);
        c.due("one", x.rations(1, 1), 5);
        c.due("row", sharesOf(x, 2), 1);
        c.about("behind n DAYS (1 to 100)");
        SaltMinds late = Checks.told("person 0 0;fact 0 9 0;keeps (day=0)+(0<day)*99*(0<salt);");
        late.days(1);
        c.due("99", late.rations(30, 99), 9);
        c.due("row", late.ration(0), 1);
        c.due("100", late.rations(30, 100), 0);
        c.due("row", late.ration(0), 0);
        SaltMinds six = sixWitnesses("salt");
        c.due("all six, 5 each", six.rations(30, 5), 10);
        c.due("the last one has five facts", six.rations(29, 5), 9);
        c.due("row", six.ration(0), 0);
        c.due("row", six.ration(1), 5);
        c.due("row", six.ration(5), 5);
        c.due("of nobody", new SaltMinds().rations(30, 100), 0);
    }

    private static void rationsFirst() {
        c.about("the greatest sum of WEIGHTS of all FACTS that each recalls");
        SaltMinds x = Checks.told("person 0 0;person 0 0;person 0 0;fact 0 4 0 1;fact 0 9 2;fact 0 3 0;keeps (day=0)+(0<day)*(salt=weight);");
        x.days(1);
        c.due("9 by the last one", x.rations(9, 1), 9);
        c.due("row", sharesOf(x, 3), 9);
        c.due("4 by both", x.rations(8, 1), 8);
        c.due("row", sharesOf(x, 3), 40400);
        c.due("4 once", x.rations(7, 1), 7);
        c.due("row", sharesOf(x, 3), 30400);
        c.due("all but 3", x.rations(17, 1), 17);
        c.due("row", sharesOf(x, 3), 40409);
        c.about("by as few GRAINS as can be");
        c.due("17 of 30", x.rations(30, 1), 17);
        c.due("row", sharesOf(x, 3), 40409);
        SaltMinds none = Checks.told("person 0 0;fact 0 4 0;keeps 9;");
        none.days(1);
        c.due("none is needed", none.rations(30, 8), 4);
        c.due("row", none.ration(0), 0);
        c.about("of like ones the first as a row of PEOPLE");
        SaltMinds like = Checks.told("person 0 0;person 0 0;person 0 0;fact 0 4 0 1 2;keeps (day=0)+(0<day)*(salt=2);");
        like.days(1);
        c.due("one of three", like.rations(3, 1), 4);
        c.due("row", sharesOf(like, 3), 2);
        c.due("two of three", like.rations(5, 1), 8);
        c.due("row", sharesOf(like, 3), 202);
    }

    private static void rationsRefused() {
        c.about("rations: IllegalArgumentException: g, n; ration: NoSuchElementException: also none are kept");
        SaltMinds x = Checks.told("person 0 0;person 0 0;fact 0 5 0;keeps (day=0)+(0<day)*salt;");
        x.days(1);
        c.noSuchOf("ration, none being kept", p -> x.ration(p), -1, 0, 1, 2);
        c.illegalOf("rations(g, 5)", g -> x.rations(g, 5), -1, 31);
        c.illegalOf("rations(5, n)", n -> x.rations(5, n), 0, -1, 101);
        c.noSuchOf("ration, none being kept", p -> x.ration(p), 0);
        c.due("rations", x.rations(5, 5), 5);
        c.due("row", x.ration(0), 5);
        c.illegalOf("rations(g, 5)", g -> x.rations(g, 5), -1, 31);
        c.illegalOf("rations(5, n)", n -> x.rations(5, n), 0, -1, 101);
        c.due("the row that is kept stays", x.ration(0), 5);
        c.due("a sum of 0 has a row too", x.rations(0, 5), 0);
        c.due("row", x.ration(0), 0);
        c.noSuchOf("ration of those there aren't", p -> x.ration(p), -1, 2, 6);
        SaltMinds nobody = new SaltMinds();
        nobody.rations(5, 5);
        c.noSuchOf("ration of nobody", p -> nobody.ration(p), -1, 0);
        c.illegalOf("rations(g, 5) of nobody", g -> nobody.rations(g, 5), -1, 31);
    }

    private static void nothingChanges() {
        c.about("what is only asked changes nothing");
        SaltMinds x = Checks.told("person 60 0;person 60 1;fact 0 1 0;fact 2 1 1;talk 0 1;keeps 1+salt;");
        x.grains(0, 2);
        x.grains(1, 1);
        x.days(1);
        x.tell(0, 0, 1);
        x.see(0, 0, true);
        x.cheapest(0, 1, 2);
        x.rations(4, 3);
        String before = Checks.stateOf(x);
        x.ahead(0, 100);
        x.blank(100, 0);
        x.enough(0, 0, 100);
        x.witnesses(1, 20, 100);
        x.profits(100);
        x.season(5, 60, NONE);
        x.feast(120);
        x.sick(0, 100);
        x.spent(100);
        x.merchants(0);
        x.corner(5);
        x.ate(0, 0);
        x.gathering(0);
        x.teller(0);
        x.steps(0, 1);
        c.same("as it was", Checks.stateOf(x), before);
        x.cheapest(0, 1, 2);
        x.rations(4, 3);
        c.same("as it was, with the same rows", Checks.stateOf(x), before);
    }
}
