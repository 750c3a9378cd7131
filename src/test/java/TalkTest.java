/** Promises 22 to 27: STEPS, THE BEST TELLER, GATHERINGS, DEBTS, WHO PROFITS. */
public final class TalkTest {
    private static final int NONE = SaltMinds.NONE;
    private static final Checks c = new Checks();

    public static void main(String[] args) {
        steps();
        teller();
        gathering();
        debts();
        profits();
        c.end();
    }

    private static void steps() {
        SaltMinds x = Checks.told("person 0 0;person 0 0;person 0 0;person 0 0;person 0 0;person 0 0;"
            + "fact 0 1 0;fact 0 1 2 4;fact 9 1 0;talk 1 0;talk 1 2;talk 3 2;talk 3 4;keeps 9;");
        x.days(1);
        int[] first = {0, 1, 2, 3, 4, NONE};
        int[] second = {2, 1, 0, 1, 0, NONE};
        for (int p = 0; p < 6; p++) {
            c.due("steps(0, " + p + ")", x.steps(0, p), first[p]);
            c.due("steps(1, " + p + ")", x.steps(1, p), second[p]);
            c.due("steps(2, " + p + ")", x.steps(2, p), NONE);
        }
        c.noSuch("steps(3, 0)", () -> x.steps(3, 0));
        c.noSuch("steps(-1, 0)", () -> x.steps(-1, 0));
        c.noSuch("steps(0, 6)", () -> x.steps(0, 6));
        c.noSuch("steps(0, -1)", () -> x.steps(0, -1));
    }

    private static void teller() {
        // A row 0 1 2 3 and a couple 4 5.
        SaltMinds x = Checks.told("person 0 0;person 0 0;person 0 0;person 0 0;person 0 0;person 0 0;"
            + "fact 0 1 0 3;fact 0 1 0 4;fact 0 1 4 3 2;fact 0 1 5 4;fact 9 1 0;fact 0 1 1 2;"
            + "talk 0 1;talk 1 2;talk 2 3;talk 5 4;keeps 9;");
        x.days(1);
        c.due("like ones: the least", x.teller(0), 0);
        c.due("most others", x.teller(1), 0);
        c.due("of like ones by the fewest talks", x.teller(2), 2);
        c.due("like ones: the least", x.teller(3), 4);
        c.due("nobody", x.teller(4), NONE);
        c.due("like ones: the least", x.teller(5), 1);
        c.noSuch("teller(6)", () -> x.teller(6));
        c.noSuch("teller(-1)", () -> x.teller(-1));
        SaltMinds y = Checks.told("person 0 0;person 0 0;fact 0 1 1;keeps 9;");
        y.days(1);
        c.due("without talks", y.teller(0), 1);
    }

    private static void gathering() {
        SaltMinds x = Checks.told("person 0 0;person 0 0;person 0 0;person 0 1;fact 0 1 0;fact 0 1 0 1;fact 0 1 3;keeps 9;");
        c.due("nothing is recalled", x.gathering(0), 0);
        x.days(1);
        c.due("1 for the second, 2 for the third", x.gathering(0), 3);
        c.due("by himself", x.gathering(1), 0);
        c.due("nobody", x.gathering(3), 0);
        x.sit(3, 0);
        c.due("2 more for him, 1 more for three", x.gathering(0), 8);
        c.due("nothing has changed", x.count(12), 4);
        c.noSuch("gathering(4)", () -> x.gathering(4));
        c.noSuch("gathering(-1)", () -> x.gathering(-1));
    }

    private static void debts() {
        // Who recalls: both, one, the other, a third, one and a third, none yet; the last is no debt.
        SaltMinds x = Checks.told("person 0 0;person 0 0;person 0 0;fact 0 1 0 1 debt 0 1 1;fact 0 1 0 debt 0 1 2;"
            + "fact 0 1 1 debt 0 1 4;fact 0 1 2 debt 0 1 8;fact 0 1 0 2 debt 1 2 16;fact 9 1 0 1 2 debt 0 1 32;"
            + "fact 0 1 0 1 2;keeps 99;");
        c.due("nobody recalls", x.holds(0), false);
        c.due("owed", x.owed(0), 0);
        x.days(1);
        boolean[] held = {true, false, false, true, true, false, false};
        for (int f = 0; f < 7; f++) {
            c.due("holds(" + f + ")", x.holds(f), held[f]);
        }
        c.due("owed(0)", x.owed(0), 9);
        c.due("owed(1)", x.owed(1), 7);
        c.due("owed(2)", x.owed(2), -16);
        c.noSuch("holds(7)", () -> x.holds(7) ? 1 : 0);
        c.noSuch("holds(-1)", () -> x.holds(-1) ? 1 : 0);
        c.noSuch("owed(3)", () -> x.owed(3));
        c.noSuch("owed(-1)", () -> x.owed(-1));
    }

    private static void profits() {
        SaltMinds x = Checks.told("person 0 0;person 0 0;person 0 0;fact 0 1 2 debt 1 0 5;fact 0 2 0 debt 2 1 7;"
            + "fact 3 3 0 debt 0 1 9;keeps (weight=1)*(day=0)*3+(weight=2)*(day=0)*6+(weight=3)*50;");
        c.due("nothing yet", x.profits(0), 0);
        x.days(1);
        c.due("like ones: the least", x.profits(2), 0);
        c.due("the first debt lapses behind 3", x.profits(3), 1);
        c.due("all lapse behind 6", x.profits(6), 2);
        x.days(3);
        c.due("the debt of 9 is held by nobody", x.holds(2), false);
        c.due("the last one lapses", x.profits(100), 2);
        c.illegal("n -1", () -> x.profits(-1));
        c.illegal("n 101", () -> x.profits(101));
        c.illegal("n 101 of nobody", () -> new SaltMinds().profits(101));
        c.due("nobody", new SaltMinds().profits(100), NONE);
    }
}
