/** Each sentence of ==== 4, and of promises 22 to 27, that names a bound: at the bound and on both sides of it. */
public final class BoundsOfTalkTest {
    private static final int NONE = SaltMinds.NONE;
    private static final Checks c = new Checks();

    public static void main(String[] args) {
        steps();
        stepsOfMany();
        teller();
        tellerOfLikeOnes();
        gathering();
        holds();
        owed();
        profits();
        profitsOfLikeOnes();
        c.end();
    }

    private static void steps() {
        c.about("STEPS of a FACT to somebody: the fewest TELLINGS .. (nobody forgetting; 0: he does); none");
        // One behind the other: 0 3 1 4 2 5, which takes five TELLINGS at most.
        SaltMinds x = Checks.told("person 0 0;".repeat(6) + "fact 0 1 0;fact 9 1 0;fact 0 2 0 5;"
            + "talk 3 0;talk 3 1;talk 4 1;talk 4 2;talk 5 2;keeps 1+weight;");
        c.due("nobody recalls it yet", x.steps(0, 0), NONE);
        x.days(1);
        int[] far = {0, 2, 4, 1, 3, 5};
        int[] byBoth = {0, 2, 1, 1, 2, 0};
        for (int p = 0; p < 6; p++) {
            c.due("steps(0, " + p + ")", x.steps(0, p), far[p]);
            c.due("steps(1, " + p + ")", x.steps(1, p), NONE);
            c.due("steps(2, " + p + ")", x.steps(2, p), byBoth[p]);
        }
        c.about("steps: NoSuchElementException");
        c.noSuchOf("steps(f, 0)", f -> x.steps(f, 0), -1, 3);
        c.noSuchOf("steps(0, p)", p -> x.steps(0, p), -1, 6);
        c.noSuchOf("steps of nobody", n -> new SaltMinds().steps(n, n), -1, 0);
        c.about("STEPS .. by those who TALK .. none");
        SaltMinds y = Checks.told("person 0 0;person 0 0;person 0 0;fact 0 1 0;talk 2 1;keeps 9;");
        y.days(1);
        c.due("he himself", y.steps(0, 0), 0);
        c.due("nobody talks to him", y.steps(0, 1), NONE);
        c.due("nobody talks to him", y.steps(0, 2), NONE);
        y.tell(0, 0, 2);
        c.due("by a TELLING he recalls it", y.steps(0, 2), 0);
        c.due("and talks", y.steps(0, 1), 1);
    }

    private static void stepsOfMany() {
        c.about("STEPS by as many TALKS as can be (10)");
        // All couples of five; the sixth talks to nobody.
        SaltMinds x = Checks.told("person 0 0;".repeat(6) + "fact 0 1 4;fact 0 1 5;talk 0 1;talk 0 2;talk 0 3;talk 0 4;talk 1 2;"
            + "talk 1 3;talk 1 4;talk 2 3;talk 2 4;talk 3 4;keeps 9;");
        x.days(1);
        for (int p = 0; p < 6; p++) {
            c.due("steps(0, " + p + ")", x.steps(0, p), p == 4 ? 0 : p == 5 ? NONE : 1);
            c.due("steps(1, " + p + ")", x.steps(1, p), p == 5 ? 0 : NONE);
        }
        c.due("teller", x.teller(0), 4);
        c.due("teller without TALKS of his", x.teller(1), 5);
    }

    private static void teller() {
        c.about("THE BEST TELLER .. NONE: nobody recalls it");
        SaltMinds x = Checks.told("person 0 0;person 0 0;person 0 0;fact 0 1 2;fact 0 1 1 2;fact 9 1 0;talk 0 1;keeps 9;");
        c.due("not yet", x.teller(0), NONE);
        x.days(1);
        c.due("he alone, who reaches nobody", x.teller(0), 2);
        c.due("who reaches one", x.teller(1), 1);
        c.due("nobody", x.teller(2), NONE);
        c.noSuchOf("teller", f -> x.teller(f), -1, 3);
        c.noSuchOf("teller of none", f -> new SaltMinds().teller(f), -1, 0);
        c.about("from whom most others can be reached by TALKS (those who recall it too)");
        // 0 1 2 one behind the other, 3 4 by themselves: two others are more than one, by more TALKS.
        SaltMinds y = Checks.told("person 0 0;".repeat(5) + "fact 0 1 0 1 2 3 4;fact 0 1 2 3;talk 0 1;talk 1 2;talk 3 4;keeps 9;");
        y.days(1);
        c.due("the middle one, who needs the fewest", y.teller(0), 1);
        c.due("two others by three TALKS, ahead of one by one", y.teller(1), 2);
    }

    private static void tellerOfLikeOnes() {
        c.about("of like ones by the fewest TALKS one behind the other, for all of them together, of like ones the least");
        // 0 talks to 1, 2, 3; 3 to 4; 4 to 5: from 0 it is 1 1 1 2 3, from 3 it is 1 2 2 1 2: eight each.
        String tail = "person 0 0;".repeat(6) + "fact 0 1 0 3;fact 0 1 3 4;fact 0 1 4 5;fact 0 1 1 2;fact 0 1 5 1;"
            + "talk 0 1;talk 0 2;talk 0 3;talk 3 4;talk 4 5;keeps 9;";
        SaltMinds x = Checks.told(tail);
        x.days(1);
        c.due("like ones in all, though the farthest is farther: the least", x.teller(0), 0);
        c.due("eight ahead of ten", x.teller(1), 3);
        c.due("ten ahead of fourteen", x.teller(2), 4);
        c.due("like ones: the least", x.teller(3), 1);
        c.due("1 2 2 3 4 ahead of 1 2 3 4 4", x.teller(4), 1);
        // The same, 0 and 1 being those in the middle: 1 1 2 2 2 from 0, 1 1 1 2 3 from 1.
        SaltMinds y = Checks.told("person 0 0;".repeat(6) + "fact 0 1 0 1;fact 0 1 1 2;talk 0 1;talk 1 2;talk 1 3;talk 0 4;talk 4 5;keeps 9;");
        y.days(1);
        c.due("like ones in all, though fewer are near: the least", y.teller(0), 0);
        c.due("eight ahead of eleven", y.teller(1), 1);
    }

    private static void gathering() {
        c.about("A GATHERING at a TABLE: everything that somebody there recalls is told to all there");
        SaltMinds x = Checks.told("person 0 0;person 0 1;person 0 2;person 0 3;fact 0 1 0;fact 0 1 1;fact 0 1 2;fact 0 1 3;keeps 9;");
        for (int table = 0; table <= 3; table++) {
            c.due("nothing is recalled yet", x.gathering(table), 0);
        }
        x.days(1);
        for (int table = 0; table <= 3; table++) {
            c.due("by himself", x.gathering(table), 0);
        }
        for (int table = 1; table <= 3; table++) {
            x.sit(0, table);
            c.due("one and another", x.gathering(table), 2);
            c.due("nobody", x.gathering(0), 0);
        }
        c.about("gathering: NoSuchElementException: no such TABLE");
        c.noSuchOf("gathering", table -> x.gathering(table), -1, 4);
        c.noSuchOf("gathering of nobody", table -> new SaltMinds().gathering(table), -1, 4);
        for (int table = 0; table <= 3; table++) {
            c.due("of nobody", new SaltMinds().gathering(table), 0);
        }
        c.about("by how many PEOPLE and FACTS more is recalled then");
        SaltMinds all = Checks.told("person 0 3;".repeat(6) + "fact 0 1 5;".repeat(10) + "keeps 9;");
        all.days(1);
        c.due("five more recall ten", all.gathering(3), 50);
        c.due("nothing has changed", all.count(12), 10);
        SaltMinds same = Checks.told("person 0 3;".repeat(6) + "fact 0 1 0 1 2 3 4 5;".repeat(10) + "keeps 9;");
        same.days(1);
        c.due("all recall all", same.gathering(3), 0);
    }

    private static void holds() {
        c.about("DEBTS: a FACT that is one holds, if somebody but both recalls it, or both do; else it lapses");
        // By the bits of a fact's number those who recall it: 0 owes 1, and 2 is neither.
        for (int who = 0; who < 8; who++) {
            StringBuilder by = new StringBuilder();
            for (int p = 0; p < 3; p++) {
                by.append((who >> p & 1) != 0 ? " " + p : "");
            }
            String text = "person 0 0;person 0 0;person 0 0;fact 0 1" + (who == 0 ? " 0" : by) + " debt 0 1 9;keeps " + (who == 0 ? 0 : 9) + ";";
            SaltMinds x = Checks.told(text);
            c.due("ahead of the first dinner", x.holds(0), false);
            x.days(1);
            c.due("who recalls it", x.fact(0, 3), who);
            boolean held = who >= 3;
            c.due("holds, recalled by bits " + who, x.holds(0), held);
            c.due("owed(0)", x.owed(0), held ? 9 : 0);
            c.due("owed(1)", x.owed(1), held ? -9 : 0);
            c.due("owed(2)", x.owed(2), 0);
        }
        c.about("holds: (false of other FACTS)");
        SaltMinds x = Checks.told("person 0 0;person 0 0;person 0 0;fact 0 1 0 1 2;fact 0 1 0 1 2 debt 2 1 1;keeps 9;");
        x.days(1);
        c.due("no debt", x.holds(0), false);
        c.due("a debt", x.holds(1), true);
        c.noSuchOf("holds", f -> x.holds(f) ? 1 : 0, -1, 2);
        c.noSuchOf("holds of none", f -> new SaltMinds().holds(f) ? 1 : 0, -1, 0);
    }

    private static void owed() {
        c.about("OWED: how much somebody owes by DEBTS that hold, less what he is owed by such");
        SaltMinds x = Checks.told("person 0 0;person 0 0;person 0 0;" + "fact 0 1 2 debt 1 0 999;".repeat(10) + "keeps 9;");
        c.due("none hold yet", x.owed(1), 0);
        x.days(1);
        c.due("the most", x.owed(1), 9990);
        c.due("the least", x.owed(0), -9990);
        c.due("neither", x.owed(2), 0);
        SaltMinds y = Checks.told("person 0 0;person 0 0;person 0 0;fact 0 1 2 debt 1 0 5;fact 0 1 2 debt 0 1 5;fact 0 1 0 debt 0 1 7;keeps 9;");
        y.days(1);
        c.due("as much as he is owed; what lapses doesn't count", y.owed(0), 0);
        c.due("likewise", y.owed(1), 0);
        c.noSuchOf("owed", p -> x.owed(p), -1, 3);
        c.noSuchOf("owed by nobody", p -> new SaltMinds().owed(p), -1, 0);
    }

    private static void profits() {
        c.about("WHO PROFITS .. OWED now less what is OWED behind n DAYS (as AHEAD)");
        // Behind 100 DAYS from day 1 on the debt lapses.
        SaltMinds x = Checks.told("person 0 0;person 0 0;person 0 0;fact 0 1 2 debt 1 0 5;keeps 99*(day<2);");
        c.due("nothing is owed yet", x.profits(0), 0);
        x.days(1);
        c.due("0 DAYS", x.profits(0), 0);
        c.due("99 DAYS", x.profits(99), 0);
        c.due("100 DAYS", x.profits(100), 1);
        c.about("profits: IllegalArgumentException: n");
        c.illegalOf("profits", n -> x.profits(n), -1, 101);
        c.about("none without PEOPLE");
        c.due("of nobody", new SaltMinds().profits(0), NONE);
        c.due("of nobody", new SaltMinds().profits(100), NONE);
        c.illegalOf("profits of nobody", n -> new SaltMinds().profits(n), -1, 101);
    }

    private static void profitsOfLikeOnes() {
        c.about("WHO PROFITS: the one of whom .. is greatest, of like ones the least");
        c.due("he alone", Checks.told("person 0 0;").profits(100), 0);
        SaltMinds x = Checks.told("person 0 0;".repeat(6) + "fact 0 1 3 debt 4 0 5;fact 0 1 3 debt 2 0 5;fact 0 2 3 debt 5 1 6;keeps (day=0)*2*weight;");
        x.days(1);
        c.due("behind 1 none lapses", x.profits(1), 0);
        c.due("behind 2 two of them owed five: the least", x.profits(2), 2);
        c.due("behind 4 one of them owed six", x.profits(4), 5);
        // By a debt that comes to hold he profits to whom it is owed.
        SaltMinds y = Checks.told("person 0 0;person 0 0;person 0 0;fact 1 1 2 debt 0 1 5;keeps 9;");
        c.due("not yet", y.profits(1), 0);
        c.due("it is owed to him", y.profits(2), 1);
    }
}
