/** Promises 6 to 13, 38 and 39: PEOPLE and FACTS, ACTS and how they are undone, DAYS, the image. */
public final class DaysTest {
    private static final int NONE = SaltMinds.NONE;
    private static final Checks c = new Checks();

    public static void main(String[] args) {
        people();
        facts();
        dinner();
        rules();
        valuesOfRules();
        telling();
        refusedActs();
        undone();
        fortyActs();
        image();
        c.end();
    }

    private static void people() {
        SaltMinds x = Checks.told("person 50 1;person 9999 3;");
        c.due("purse", x.person(1, 0), 9999);
        c.due("table", x.person(1, 1), 3);
        c.due("grains", x.person(1, 2), 0);
        c.due("facts", x.person(1, 3), 0);
        c.noSuch("person(2, 0)", () -> x.person(2, 0));
        c.noSuch("person(-1, 0)", () -> x.person(-1, 0));
        c.noSuch("person(0, 4)", () -> x.person(0, 4));
        c.noSuch("person(0, -1)", () -> x.person(0, -1));
        c.noSuch("until(0, 0)", () -> x.until(0, 0));
    }

    private static void facts() {
        SaltMinds x = Checks.told("person 50 1;person 60 3;person 0 0;fact 7 9 0 2;fact 3 1 1 debt 2 0 77;");
        c.due("day", x.fact(0, 0), 7);
        c.due("weight", x.fact(0, 1), 9);
        c.due("by whom", x.fact(0, 2), 5);
        c.due("who recalls", x.fact(0, 3), 0);
        c.due("who owes", x.fact(0, 4), NONE);
        c.due("who is owed", x.fact(0, 5), NONE);
        c.due("how much", x.fact(0, 6), NONE);
        c.due("who owes", x.fact(1, 4), 2);
        c.due("who is owed", x.fact(1, 5), 0);
        c.due("how much", x.fact(1, 6), 77);
        c.noSuch("fact(2, 0)", () -> x.fact(2, 0));
        c.noSuch("fact(-1, 0)", () -> x.fact(-1, 0));
        c.noSuch("fact(0, 7)", () -> x.fact(0, 7));
        c.noSuch("fact(0, -1)", () -> x.fact(0, -1));
        c.noSuch("until(3, 0)", () -> x.until(3, 0));
        c.noSuch("until(0, 2)", () -> x.until(0, 2));
        c.due("until of what isn't recalled", x.until(0, 0), NONE);
    }

    private static void dinner() {
        // At table 0 are two: 7 grains wanted at 5 each, a purse of 33 is enough for 6; and 3 by the other: 9 / 2 = 4.
        SaltMinds x = Checks.told("person 33 0;person 100 0;person 100 1;fact 0 1 0 1 2;fact 1 1 0;");
        x.grains(0, 7);
        x.grains(1, 3);
        x.grains(2, 1);
        c.due("forgotten", x.days(1), 0);
        c.due("purse 0", x.person(0, 0), 3);
        c.due("purse 1", x.person(1, 0), 85);
        c.due("purse 2", x.person(2, 0), 95);
        c.due("until(0, 0)", x.until(0, 0), 8);
        c.due("until(1, 0)", x.until(1, 0), 8);
        c.due("until(2, 0)", x.until(2, 0), 2);
        x.grains(1, 0);
        x.grains(2, 0);
        // Nobody buys: UNTIL stays; what is learned is forgotten at once.
        c.due("forgotten", x.days(1), 1);
        c.due("until(0, 0)", x.until(0, 0), 8);
        c.due("until(0, 1)", x.until(0, 1), NONE);
        c.due("the day ahead: until 2, today 2", x.until(2, 0), 2);
        c.due("forgotten", x.days(1), 1);
        c.due("forgotten at today 3", x.until(2, 0), NONE);
        c.due("forgotten", x.days(5), 0);
        c.due("today", x.count(4), 8);
        c.due("forgotten", x.days(1), 2);
        SaltMinds free = Checks.told("person 0 0;fact 0 1 0;price 0 0;");
        free.grains(0, 20);
        free.days(1);
        c.due("of no price all are bought", free.until(0, 0), 40);
        c.due("purse", free.person(0, 0), 0);
    }

    private static int keptBy(String rule) {
        SaltMinds x = Checks.told("person 100 0;fact 0 7 0;keeps " + rule + ";");
        x.grains(0, 3);
        x.days(1);
        return x.until(0, 0);
    }

    private static void rules() {
        c.due("100", keptBy("100"), 99);
        c.due("0", keptBy("0"), NONE);
        c.due("0-5", keptBy("0-5"), NONE);
        c.due("2+3*4", keptBy("2+3*4"), 14);
        c.due("(2+3)*4", keptBy("(2+3)*4"), 20);
        c.due("20-5-3", keptBy("20-5-3"), 12);
        c.due("20-(5-3)", keptBy("20-(5-3)"), 18);
        c.due("40/4/2", keptBy("40/4/2"), 5);
        c.due("40/(4/2)", keptBy("40/(4/2)"), 20);
        c.due("7/2*2", keptBy("7/2*2"), 6);
        c.due("9+(0-7)/2", keptBy("9+(0-7)/2"), 6);
        c.due("5+7/0", keptBy("5+7/0"), 5);
        c.due("3 or 0", keptBy("3 or 0"), 1);
        c.due("0 or 0+7", keptBy("6*(0 or 7)"), 6);
        c.due("3 and 5", keptBy("4*(3 and 5)"), 4);
        c.due("1 or 0 and 0", keptBy("4*(1 or 0 and 0)"), 4);
        c.due("not 5", keptBy("7+(not 5)"), 7);
        c.due("not not 5", keptBy("7+(not not 5)"), 8);
        c.due("not 2<1", keptBy("7+(not 2<1)"), 8);
        c.due("not 0 and 0", keptBy("7+(not 0 and 0)"), 7);
        c.due("not 1 or 1", keptBy("7+(not 1 or 1)"), 8);
        c.due("1+1<3", keptBy("7+(1+1<3)"), 8);
        c.due("3<3", keptBy("7+(3<3)"), 7);
        c.due("2*2=4", keptBy("7+(2*2=4)"), 8);
        c.due("wraps", keptBy("4444*4444*4444/9999/2000"), 93);
        // The least int by -1 wraps to itself.
        String least = "(0-2)*1024*1024*1024";
        c.due("least/-1", keptBy("5+(" + least + "/(0-1)=" + least + ")"), 6);
    }

    private static void valuesOfRules() {
        c.due("salt", keptBy("salt"), 3);
        c.due("weight", keptBy("weight"), 7);
        c.due("age", keptBy("1+age"), 1);
        c.due("told", keptBy("1+told"), 1);
        c.due("facts", keptBy("facts"), 1);
        c.due("table", keptBy("table"), 1);
        c.due("day", keptBy("4+day"), 4);
        // By the parity of weights each value has a fact of its own.
        SaltMinds x = Checks.told("person 100 2;person 100 2;person 100 1;fact 1 1 0;fact 1 2 0 2;fact 2 3 1;"
            + "keeps (weight=1)*(10*age+day+1)+(weight=2)*(10*facts+table+1)+(weight=3)*(50+told)*(0<salt);");
        x.grains(0, 2);
        x.days(2);
        c.due("age 0, day 1", x.until(0, 0), 1 + 2);
        c.due("2 facts, 2 at the table", x.until(0, 1), 1 + 23);
        c.due("1 fact, 1 at the table", x.until(2, 1), 1 + 12);
        x.days(1);
        c.due("age 1, day 2", x.until(0, 0), 2 + 13);
        c.due("not told, salt 1", x.until(1, 2), 2 + 50);
        c.due("tell(2, 1, 0)", x.tell(2, 1, 0), true);
        c.due("told until today", x.until(0, 2), -2 - 3);
        x.days(1);
        c.due("told: 51", x.until(0, 2), -2 - (3 + 51));
        c.due("3 facts by now", x.until(0, 1), 3 + 33);
        c.due("who recalls", x.fact(2, 3), 3);
        c.due("what 0 recalls", x.person(0, 3), 7);
    }

    private static void telling() {
        SaltMinds x = Checks.told("person 100 0;person 100 1;fact 0 1 0;fact 5 1 1;keeps 9;");
        c.due("nobody recalls yet", x.tell(0, 0, 1), false);
        x.days(1);
        c.due("the second tells", x.tell(0, 1, 0), false);
        c.due("to himself", x.tell(0, 0, 0), false);
        c.due("neither, to himself", x.tell(1, 0, 0), false);
        c.due("tell", x.tell(0, 0, 1), true);
        c.due("until", x.until(1, 0), -2 - 1);
        c.due("until of him who told it", x.until(0, 0), 9);
        c.due("he recalls by now", x.tell(0, 0, 1), false);
        c.due("status 1", x.count(10), 5);
        x.days(1);
        c.due("until", x.until(1, 0), -2 - 10);
        c.due("no talk was needed", x.count(2), 0);
        c.noSuch("tell(2, 0, 1)", () -> x.tell(2, 0, 1) ? 1 : 0);
        c.noSuch("tell(-1, 0, 1)", () -> x.tell(-1, 0, 1) ? 1 : 0);
        c.noSuch("tell(0, 2, 1)", () -> x.tell(0, 2, 1) ? 1 : 0);
        c.noSuch("tell(0, 0, 2)", () -> x.tell(0, 0, 2) ? 1 : 0);
        c.noSuch("tell(0, 0, -1)", () -> x.tell(0, 0, -1) ? 1 : 0);
        c.due("status 1", x.count(10), 5);
    }

    private static void refusedActs() {
        SaltMinds x = Checks.told("person 100 0;");
        c.due("grains(0, 20)", x.grains(0, 20), 0);
        c.due("grains(0, 21)", x.grains(0, 21), NONE);
        c.due("grains(0, -1)", x.grains(0, -1), NONE);
        c.due("grains(0, 0)", x.grains(0, 0), 20);
        c.due("sit(0, 3)", x.sit(0, 3), 0);
        c.due("sit(0, 4)", x.sit(0, 4), NONE);
        c.due("sit(0, -1)", x.sit(0, -1), NONE);
        c.due("sit(0, 1)", x.sit(0, 1), 3);
        c.due("days(0)", x.days(0), NONE);
        c.due("days(101)", x.days(101), NONE);
        c.due("days(-1)", x.days(-1), NONE);
        c.due("days(100)", x.days(100), 0);
        c.due("today", x.count(4), 100);
        c.due("status 1", x.count(10), 7);
        c.due("acts", x.count(6), 5);
        c.noSuch("grains(1, 21)", () -> x.grains(1, 21));
        c.noSuch("grains(-1, 1)", () -> x.grains(-1, 1));
        c.noSuch("sit(1, 4)", () -> x.sit(1, 4));
        c.noSuch("sit(-1, 1)", () -> x.sit(-1, 1));
        c.due("status 1 stays", x.count(10), 7);
        c.due("acts stay", x.count(6), 5);
        // An act that changes nothing is one all the same.
        c.due("grains as they are", x.grains(0, 0), 0);
        c.due("the table as it is", x.sit(0, 1), 1);
        c.due("acts", x.count(6), 7);
    }

    private static void undone() {
        SaltMinds x = Checks.told("person 100 0;person 100 1;fact 0 1 0;fact 2 1 1;");
        x.grains(0, 4);
        x.days(1);
        x.tell(0, 0, 1);
        x.sit(1, 0);
        x.see(1, 0, true);
        x.days(3);
        c.due("purse", x.person(0, 0), 20);
        c.due("facts", x.person(1, 3), 3);
        c.due("undo", x.undo(), 4);
        c.due("purse", x.person(0, 0), 80);
        c.due("today", x.count(4), 1);
        c.due("facts", x.person(1, 3), 1);
        c.due("until", x.until(1, 0), -2 - 1);
        c.due("table", x.person(1, 1), 0);
        c.due("undo", x.undo(), 3);
        c.due("table", x.person(1, 1), 1);
        c.due("undo", x.undo(), 2);
        c.due("until", x.until(1, 0), NONE);
        c.due("undo", x.undo(), 1);
        c.due("purse", x.person(0, 0), 100);
        c.due("grains", x.person(0, 2), 4);
        c.due("today", x.count(4), 0);
        c.due("undo", x.undo(), 0);
        c.due("grains", x.person(0, 2), 0);
        c.due("undo", x.undo(), NONE);
        c.due("what is seen is no act", x.count(7), 1);
        c.due("status 1", x.count(10), 0);
        // What was undone comes again in the same way.
        c.due("learned again", x.days(3), 2);
    }

    private static void fortyActs() {
        SaltMinds x = Checks.told("person 100 0;");
        for (int i = 1; i <= 45; i++) {
            x.grains(0, i % 21);
        }
        c.due("acts", x.count(6), 40);
        for (int i = 39; i >= 0; i--) {
            c.due("undo", x.undo(), i);
            c.due("grains", x.person(0, 2), (i + 5) % 21);
        }
        c.due("undo", x.undo(), NONE);
        c.due("grains", x.person(0, 2), 5);
    }

    private static void image() {
        SaltMinds x = Checks.told("person 100 0;person 100 1;fact 0 1 0;");
        x.grains(0, 4);
        x.days(1);
        x.see(0, 0, true);
        x.image();
        x.days(9);
        x.sit(0, 2);
        x.see(0, 0, false);
        x.grains(1, 1);
        for (int i = 0; i < 40; i++) {
            x.grains(1, 2);
        }
        c.due("restore", x.restore(), true);
        c.due("today", x.count(4), 1);
        c.due("purse", x.person(0, 0), 80);
        c.due("table", x.person(0, 1), 0);
        c.due("grains", x.person(1, 2), 0);
        c.due("until", x.until(0, 0), 8);
        c.due("seen", x.count(7), 1);
        c.due("what is seen", x.ate(0, 0), 21);
        c.due("acts", x.count(6), 2);
        c.due("undo", x.undo(), 1);
        c.due("today", x.count(4), 0);
        c.due("undo", x.undo(), 0);
        c.due("grains", x.person(0, 2), 0);
        x.forget();
        x.see(1, 0, true);
        c.due("blamed", x.blamed(), 2);
        c.due("restore again", x.restore(), true);
        c.due("blamed", x.blamed(), 0);
        c.due("seen", x.count(7), 1);
        c.due("acts", x.count(6), 2);
        x.days(1);
        x.image();
        x.undo();
        c.due("restore another one", x.restore(), true);
        c.due("today", x.count(4), 2);
    }
}
