/** Each sentence of ==== 2, and of promises 6 to 13, 38 and 39, that names a bound: at the bound and on both sides of it. */
public final class BoundsOfDaysTest {
    private static final int NONE = SaltMinds.NONE;
    private static final Checks c = new Checks();

    public static void main(String[] args) {
        grains();
        purseEnough();
        priceOfToday();
        sharedTable();
        learnedToday();
        keptTo();
        untilAsItWas();
        midnight();
        telling();
        toldUntil();
        refusedTelling();
        sitting();
        daysMany();
        hundredDays();
        fortyActs();
        undone();
        undoWithout();
        personWhat();
        factWhat();
        debtsOfOthers();
        until();
        image();
        imageOfActs();
        imageOfSeen();
        restoreWithout();
        farDays();
        lastCall();
        twoObjects();
        c.end();
    }

    private static void grains() {
        c.about("GRAINS (0 to 20; 0 at first); grains: as they were. NONE (STATUS 1): not 0 to 20");
        SaltMinds x = Checks.told("person 9999 0;person 9999 1;fact 0 1 0;price 0 1;");
        c.due("grains at first", x.person(0, 2), 0);
        c.due("grains at first", x.person(1, 2), 0);
        for (int g = 0; g <= 20; g++) {
            c.due("grains(0, " + g + ")", x.grains(0, g), Math.max(0, g - 1));
            c.due("grains", x.person(0, 2), g);
        }
        c.due("acts", x.count(6), 21);
        c.due("status 1", x.count(10), 0);
        c.noneOf("grains(0, n)", g -> x.grains(0, g), -1, 21, 22);
        c.due("status 1", x.count(10), 5);
        c.due("acts", x.count(6), 21);
        c.due("grains", x.person(0, 2), 20);
        c.due("of the other one", x.person(1, 2), 0);
        x.days(1);
        c.due("twenty were bought", x.person(0, 0), 9979);
        c.due("until", x.until(0, 0), 40);
        c.noSuchOf("grains(p, 1)", p -> x.grains(p, 1), -1, 2);
        c.noSuchOf("grains(p, 21)", p -> x.grains(p, 21), -1, 2);
        c.due("status 1 stays", x.count(10), 5);
        c.due("acts stay", x.count(6), 22);
        c.noSuchOf("grains of nobody", p -> new SaltMinds().grains(p, 1), -1, 0);
    }

    /** What is left in a purse behind a day on which g grains were wanted; the salt eaten is looked at by UNTIL. */
    private static void buys(int purse, int price, int g, int bought) {
        SaltMinds x = Checks.told("person " + purse + " 0;fact 0 1 0;price 0 " + price + ";keeps 1+salt;");
        x.grains(0, g);
        x.days(1);
        String what = "of " + purse + " by " + price + " wanting " + g;
        c.due("purse " + what, x.person(0, 0), purse - bought * price);
        c.due("until " + what, x.until(0, 0), 1 + bought);
        c.due("grains " + what, x.person(0, 2), g);
    }

    private static void purseEnough() {
        c.about("each buys his GRAINS, or as many as his PURSE is enough for, by the PRICE of TODAY, and pays");
        buys(20, 7, 3, 2);
        buys(21, 7, 3, 3);
        buys(22, 7, 3, 3);
        buys(13, 7, 3, 1);
        buys(14, 7, 3, 2);
        buys(6, 7, 3, 0);
        buys(7, 7, 3, 1);
        buys(0, 7, 3, 0);
        buys(9999, 7, 0, 0);
        buys(0, 1, 20, 0);
        buys(20, 1, 20, 20);
        buys(19, 1, 20, 19);
        buys(98, 99, 20, 0);
        buys(99, 99, 20, 1);
        buys(1979, 99, 20, 19);
        buys(1980, 99, 20, 20);
        buys(9999, 99, 20, 20);
        c.about("a GRAIN of the PRICE 0: any PURSE is enough");
        buys(0, 0, 20, 20);
        buys(9999, 0, 20, 20);
        buys(0, 0, 1, 1);
        c.about("the PRICE ahead of all is 5");
        SaltMinds x = Checks.told("person 14 0;");
        x.grains(0, 3);
        x.days(1);
        c.due("purse", x.person(0, 0), 4);
        x.days(1);
        c.due("the purse is enough for none", x.person(0, 0), 4);
    }

    private static void priceOfToday() {
        c.about("by the PRICE of TODAY");
        SaltMinds x = Checks.told("person 9999 0;price 2 7;price 1 3;price 4 0;price 5 99;");
        x.grains(0, 1);
        int[] paid = {5, 3, 7, 7, 0, 99, 99};
        int purse = 9999;
        for (int day = 0; day < paid.length; day++) {
            c.due("price on day " + day, x.count(5), paid[day]);
            x.days(1);
            purse -= paid[day];
            c.due("purse behind day " + day, x.person(0, 0), purse);
        }
    }

    private static void sharedTable() {
        c.about("whoever is at one TABLE eats what all there bought, together, by how many they are, cut down");
        String six = "person 9999 2;".repeat(6) + "fact 0 1 0 1 2 3 4 5;price 0 1;keeps salt;";
        for (int g : new int[] {0, 5, 6, 11, 12, 20}) {
            SaltMinds x = Checks.told(six);
            x.grains(3, g);
            c.due("forgotten by six of " + g, x.days(1), g < 6 ? 6 : 0);
            for (int p = 0; p < 6; p++) {
                c.due("until", x.until(p, 0), g < 6 ? NONE : g / 6);
                c.due("purse", x.person(p, 0), p == 3 ? 9999 - g : 9999);
            }
        }
        SaltMinds all = Checks.told(six);
        for (int p = 0; p < 6; p++) {
            all.grains(p, p == 0 ? 19 : 20);
        }
        all.days(1);
        c.due("119 by six", all.until(5, 0), 19);
        // Each of the four tables by itself; a purse of nothing eats along.
        SaltMinds x = Checks.told("person 9999 0;person 0 0;person 9999 1;person 9999 2;person 9999 3;fact 0 1 0 1 2 3 4;price 0 1;keeps 1+salt;");
        int[] wanted = {7, 7, 3, 4, 20};
        int[] eaten = {3, 3, 3, 4, 20};
        for (int p = 0; p < 5; p++) {
            x.grains(p, wanted[p]);
        }
        x.days(1);
        for (int p = 0; p < 5; p++) {
            c.due("until of " + p, x.until(p, 0), 1 + eaten[p]);
        }
        c.due("he buys none", x.person(1, 0), 0);
    }

    private static void learnedToday() {
        c.about("By whom a FACT is learned TODAY recalls it from DINNER on (not told)");
        SaltMinds x = Checks.told("person 0 0;person 0 0;fact 0 1 0;fact 1 1 1;fact 400 1 0;keeps 99;");
        c.due("ahead of dinner", x.count(12), 0);
        c.due("until", x.until(0, 0), NONE);
        x.days(1);
        c.due("day 0", x.fact(0, 3), 1);
        c.due("not told", x.until(0, 0), 99);
        c.due("that of day 1 not yet", x.fact(1, 3), 0);
        x.days(1);
        c.due("day 1", x.fact(1, 3), 2);
        c.due("until", x.until(1, 1), 100);
        x.days(100);
        x.days(100);
        x.days(100);
        x.days(98);
        c.due("today", x.count(4), 400);
        c.due("day 400 ahead of dinner", x.fact(2, 3), 0);
        x.days(1);
        c.due("day 400", x.fact(2, 3), 1);
        c.due("until", x.until(0, 2), 499);
    }

    private static int untilBy(String rule) {
        SaltMinds x = Checks.told("person 100 0;fact 0 1 0;price 0 0;" + rule);
        x.grains(0, 20);
        x.days(1);
        return x.until(0, 0);
    }

    private static void keptTo() {
        c.about("KEEPS is what its rule gives (kept to 0 to 99)");
        c.due("1", untilBy("keeps 1;"), 1);
        c.due("0", untilBy("keeps 0;"), NONE);
        c.due("-1", untilBy("keeps 0-1;"), NONE);
        c.due("the least int", untilBy("keeps 0-8192*8192*32;"), NONE);
        c.due("98", untilBy("keeps 98;"), 98);
        c.due("99", untilBy("keeps 99;"), 99);
        c.due("100", untilBy("keeps 100;"), 99);
        c.due("9999", untilBy("keeps 9999;"), 99);
        c.due("the greatest int", untilBy("keeps 8192*8192*32-1;"), 99);
        c.about("without one twice the GRAINS eaten");
        c.due("20", untilBy(""), 40);
        SaltMinds x = Checks.told("person 100 0;person 100 1;fact 0 1 0 1;");
        x.grains(0, 1);
        c.due("0: forgotten at this midnight", x.days(1), 1);
        c.due("1", x.until(0, 0), 2);
        c.due("0", x.until(1, 0), NONE);
    }

    private static void untilAsItWas() {
        c.about("he has it UNTIL TODAY and KEEPS, or UNTIL as it was, if that is later");
        int[] kept = {0, 8, 9, 10, 11, 99};
        for (int k : kept) {
            SaltMinds x = Checks.told("person 0 0;fact 0 1 0;keeps (day=0)*10+(day=1)*" + k + ";");
            x.days(1);
            c.due("until at first", x.until(0, 0), 10);
            x.days(1);
            c.due("until behind " + k, x.until(0, 0), Math.max(10, 1 + k));
        }
        // Less than nothing takes nothing away.
        SaltMinds x = Checks.told("person 0 0;fact 0 1 0;keeps (day=0)*5-(0<day)*9;");
        x.days(5);
        c.due("until", x.until(0, 0), 5);
        c.due("forgotten", x.days(1), 1);
    }

    private static void midnight() {
        c.about("TODAY is one more, and each FACT is forgotten that one has UNTIL a DAY ahead of TODAY");
        for (int k = 1; k <= 4; k++) {
            SaltMinds x = Checks.told("person 0 0;fact 0 1 0;keeps " + k + "*(day=0);");
            for (int today = 1; today <= 5; today++) {
                c.due("forgotten at midnight to " + today + " until " + k, x.days(1), today == k + 1 ? 1 : 0);
                c.due("today", x.count(4), today);
                c.due("until", x.until(0, 0), today <= k ? k : NONE);
                c.due("who recalls it", x.fact(0, 3), today <= k ? 1 : 0);
            }
        }
        c.about("days: how often a FACT was forgotten by somebody in them");
        SaltMinds x = Checks.told("person 0 0;person 0 1;fact 0 1 0 1;fact 1 2 0 1;fact 2 3 1;keeps 3*(weight=1)*(day=0);");
        c.due("2 at the midnight to 2, 1 to 3, 2 to 4", x.days(100), 5);
        x.undo();
        c.due("none", x.days(1), 0);
        c.due("two", x.days(1), 2);
        c.due("one", x.days(1), 1);
        c.due("two", x.days(1), 2);
        c.due("none is left", x.days(100), 0);
    }

    private static void telling() {
        c.about("TELLING: .. that one recalls it, told, UNTIL TODAY");
        // Who learned it keeps it, who was told it keeps nothing.
        SaltMinds x = Checks.told("person 0 0;person 0 0;fact 0 1 0;keeps 9*(told=0);");
        x.days(1);
        for (int today = 1; today <= 4; today++) {
            c.due("tell", x.tell(0, 0, 1), true);
            c.due("until", x.until(1, 0), -2 - today);
            c.due("who recalls it", x.fact(0, 3), 3);
            c.due("until of him who tells", x.until(0, 0), 8 + today);
            c.due("forgotten at the next midnight", x.days(1), 1);
            c.due("who recalls it", x.fact(0, 3), 1);
        }
        // One who was told tells it on, and both are told.
        SaltMinds y = Checks.told("person 0 0;person 0 0;person 0 0;fact 0 1 0;keeps 9;");
        y.days(1);
        y.tell(0, 0, 1);
        c.due("tell on", y.tell(0, 1, 2), true);
        c.due("until", y.until(2, 0), -3);
        y.days(1);
        c.due("until", y.until(1, 0), -2 - 10);
        c.due("until", y.until(2, 0), -2 - 10);
        c.due("who learned it isn't told", y.until(0, 0), 10);
    }

    private static void toldUntil() {
        c.about("each FACT is forgotten that one has UNTIL a DAY ahead of TODAY (one that was told too)");
        SaltMinds x = Checks.told("person 0 0;person 0 0;fact 0 1 0;keeps 9*(told=0)+told*(3*(day=1)+(day=3));");
        x.days(1);
        x.tell(0, 0, 1);
        c.due("kept for 3", x.days(1), 0);
        c.due("until", x.until(1, 0), -2 - 4);
        c.due("kept for none", x.days(1), 0);
        c.due("until as it was", x.until(1, 0), -2 - 4);
        c.due("kept for 1: no later than it was", x.days(1), 0);
        c.due("today", x.count(4), 4);
        c.due("until as it was", x.until(1, 0), -2 - 4);
        c.due("forgotten at midnight to 5", x.days(1), 1);
        c.due("until", x.until(1, 0), NONE);
    }

    private static void refusedTelling() {
        c.about("tell: False (STATUS 1): the first doesn't recall it, the second does");
        SaltMinds x = Checks.told("person 0 0;person 0 0;person 0 0;fact 0 1 0 1;fact 9 1 0;keeps 9;");
        x.days(1);
        String before = Checks.stateOf(x).replaceFirst("^((\\d+ ){10})\\d+", "$1");
        c.due("both recall it", x.tell(0, 0, 1), false);
        c.due("the first doesn't", x.tell(0, 2, 0), false);
        c.due("to himself", x.tell(0, 0, 0), false);
        c.due("neither", x.tell(1, 0, 1), false);
        c.due("to himself, what he doesn't recall", x.tell(1, 0, 0), false);
        c.due("status 1", x.count(10), 5);
        c.same("nothing else changes", Checks.stateOf(x).replaceFirst("^((\\d+ ){10})\\d+", "$1"), before);
        c.due("the first does, the second doesn't", x.tell(0, 1, 2), true);
        c.due("status 1", x.count(10), 5);
        c.noSuchOf("tell(f, 0, 2)", f -> x.tell(f, 0, 2) ? 1 : 0, -1, 2);
        c.noSuchOf("tell(0, p, 2)", p -> x.tell(0, p, 2) ? 1 : 0, -1, 3);
        c.noSuchOf("tell(0, 0, p)", p -> x.tell(0, 0, p) ? 1 : 0, -1, 3);
        c.due("status 1 stays", x.count(10), 5);
        c.due("acts", x.count(6), 2);
    }

    private static void sitting() {
        c.about("sit: the one as it was. NONE (STATUS 1): no such one");
        SaltMinds x = Checks.told("person 0 3;person 0 1;");
        int before = 3;
        for (int table : new int[] {0, 1, 2, 3}) {
            c.due("sit", x.sit(0, table), before);
            c.due("table", x.person(0, 1), table);
            before = table;
        }
        c.due("acts", x.count(6), 4);
        c.noneOf("sit(0, n)", t -> x.sit(0, t), -1, 4, 5);
        c.due("status 1", x.count(10), 5);
        c.due("acts", x.count(6), 4);
        c.due("table", x.person(0, 1), 3);
        c.due("of the other one", x.person(1, 1), 1);
        c.noSuchOf("sit(p, 1)", p -> x.sit(p, 1), -1, 2);
        c.noSuchOf("sit(p, 4)", p -> x.sit(p, 4), -1, 2);
        c.due("status 1 stays", x.count(10), 5);
    }

    private static void daysMany() {
        c.about("days: NONE (STATUS 1): not 1 to 100");
        SaltMinds x = Checks.told("person 50 3;fact 0 1 0;keeps 50;");
        c.due("the least", x.days(1), 0);
        c.due("today", x.count(4), 1);
        String before = Checks.stateOf(x).replaceFirst("^((\\d+ ){10})\\d+", "$1");
        c.noneOf("days", n -> x.days(n), 0, -1, 101, 102);
        c.due("status 1", x.count(10), 6);
        c.same("nothing else changes", Checks.stateOf(x).replaceFirst("^((\\d+ ){10})\\d+", "$1"), before);
        c.due("the most", x.days(100), 0);
        c.due("today", x.count(4), 101);
        c.due("acts", x.count(6), 2);
        SaltMinds nobody = new SaltMinds();
        c.due("of nobody", nobody.days(100), 0);
        c.due("today", nobody.count(4), 100);
        c.noneOf("days of nobody", n -> nobody.days(n), 0, 101);
        c.due("status 1", nobody.count(10), 4);
    }

    private static void hundredDays() {
        c.about("DAYS (1 to 100): a hundred at once are as a hundred one by one");
        String text = "person 90 0;person 300 0;fact 0 1 0;fact 50 2 1;fact 99 3 0 1;price 3 2;keeps salt+day/9;";
        SaltMinds once = Checks.told(text);
        SaltMinds oneByOne = Checks.told(text);
        once.grains(1, 3);
        oneByOne.grains(1, 3);
        int forgotten = 0;
        for (int i = 0; i < 100; i++) {
            forgotten += oneByOne.days(1);
        }
        c.due("forgotten", once.days(100), forgotten);
        c.due("acts", oneByOne.count(6), 40);
        for (int p = 0; p < 2; p++) {
            c.due("purse", once.person(p, 0), oneByOne.person(p, 0));
            for (int f = 0; f < 3; f++) {
                c.due("until", once.until(p, f), oneByOne.until(p, f));
            }
        }
        c.due("the fact of day 99", once.fact(2, 3), 3);
    }

    private static void fortyActs() {
        c.about("ACTS (at most 40 are kept, the latest ones)");
        SaltMinds x = Checks.told("person 0 0;");
        for (int i = 1; i <= 43; i++) {
            x.days(1);
            c.due("acts", x.count(6), Math.min(40, i));
        }
        for (int left = 39; left >= 0; left--) {
            c.due("undo", x.undo(), left);
            c.due("acts", x.count(6), left);
            c.due("today", x.count(4), left + 3);
        }
        c.due("undo", x.undo(), NONE);
        c.due("today", x.count(4), 3);
        // Just 40: all are undone. Each kind of them counts.
        SaltMinds y = Checks.told("person 0 0;person 0 0;fact 0 1 0;keeps 99*(told=0);");
        for (int i = 0; i < 10; i++) {
            y.days(1);
            y.tell(0, 0, 1);
            y.sit(0, i % 3 + 1);
            y.grains(1, i + 1);
        }
        c.due("acts", y.count(6), 40);
        for (int left = 39; left >= 0; left--) {
            c.due("undo", y.undo(), left);
        }
        c.due("today", y.count(4), 0);
        c.due("table", y.person(0, 1), 0);
        c.due("grains", y.person(1, 2), 0);
        c.due("recalled", y.count(12), 0);
        // Undone ones make room.
        for (int i = 0; i < 41; i++) {
            y.grains(0, i % 20);
        }
        c.due("acts", y.count(6), 40);
        y.undo();
        y.undo();
        y.grains(0, 20);
        c.due("acts", y.count(6), 39);
        c.due("undo", y.undo(), 38);
        c.due("grains", y.person(0, 2), 18);
    }

    private static void undone() {
        c.about("They are UNDONE, the last one first: all is then as it was ahead of it, PURSES too");
        SaltMinds x = Checks.told("person 60 0;person 60 1;fact 0 1 0;fact 3 2 1;keeps salt;");
        String[] states = new String[6];
        states[0] = Checks.stateOf(x);
        x.grains(0, 4);
        states[1] = Checks.stateOf(x);
        x.days(1);
        states[2] = Checks.stateOf(x);
        x.tell(0, 0, 1);
        states[3] = Checks.stateOf(x);
        x.sit(1, 0);
        states[4] = Checks.stateOf(x);
        c.due("forgotten in ten days", x.days(10), 3);
        c.due("purse", x.person(0, 0), 0);
        c.due("nothing is recalled", x.count(12), 0);
        for (int left = 4; left >= 0; left--) {
            c.due("undo", x.undo(), left);
            c.same("all as it was", Checks.stateOf(x), states[left]);
        }
        c.due("undo", x.undo(), NONE);
        c.same("all stays", Checks.stateOf(x), states[0]);
    }

    private static void undoWithout() {
        c.about("undo: NONE: there is none");
        SaltMinds x = new SaltMinds();
        c.due("of a new object", x.undo(), NONE);
        Checks.saltText(x, "person 9 0;");
        c.due("behind salt", x.undo(), NONE);
        x.grains(0, 21);
        x.sit(0, 4);
        x.days(0);
        c.due("refused ones are none", x.undo(), NONE);
        c.due("status 1 counts those alone", x.count(10), 3);
        x.grains(0, 1);
        c.due("undo", x.undo(), 0);
        c.due("undo", x.undo(), NONE);
    }

    private static void personWhat() {
        c.about("person: NoSuchElementException: no such PERSON (as everywhere), what");
        SaltMinds x = Checks.told("person 50 1;person 60 2;");
        for (int what = 0; what <= 3; what++) {
            int asked = what;
            c.noSuchOf("person(p, " + what + ")", p -> x.person(p, asked), -1, 2, 6);
        }
        c.noSuchOf("person(1, what)", what -> x.person(1, what), -1, 4);
        c.noSuchOf("person(p, 0) of nobody", p -> new SaltMinds().person(p, 0), -1, 0);
        c.about("person: 3 FACTS that he recalls (bits)");
        SaltMinds all = Checks.told("person 0 0;person 0 0;" + "fact 0 1 0;fact 0 1 1;".repeat(5) + "keeps 9;");
        c.due("none", all.person(0, 3), 0);
        all.days(1);
        c.due("each second one", all.person(0, 3), 0x155);
        c.due("the others", all.person(1, 3), 0x2aa);
    }

    private static void factWhat() {
        c.about("fact: NoSuchElementException: no such FACT (as everywhere), what");
        SaltMinds x = Checks.told("person 50 1;fact 0 1 0;fact 2 3 0;");
        for (int what = 0; what <= 6; what++) {
            int asked = what;
            c.noSuchOf("fact(f, " + what + ")", f -> x.fact(f, asked), -1, 2, 10);
        }
        c.noSuchOf("fact(1, what)", what -> x.fact(1, what), -1, 7);
        c.noSuchOf("fact(f, 0) of none", f -> new SaltMinds().fact(f, 0), -1, 0);
        c.about("fact: 3 who recalls it (bits)");
        SaltMinds six = Checks.told("person 0 0;".repeat(6) + "fact 0 1 0 2 5;keeps 9;");
        six.days(1);
        c.due("who recalls it", six.fact(0, 3), 37);
        c.due("by whom it is learned", six.fact(0, 2), 37);
        six.tell(0, 5, 4);
        c.due("who recalls it", six.fact(0, 3), 53);
        c.due("by whom it is learned", six.fact(0, 2), 37);
    }

    private static void debtsOfOthers() {
        c.about("fact: 4 who owes, 5 who is owed, 6 how much (NONE of these of others)");
        String debt = "person 0 0;person 0 0;fact 0 1 0 debt 1 0 999;fact 0 1 0;";
        String none = "person 0 0;person 0 0;fact 0 1 0;fact 0 1 0 debt 0 1 1;";
        SaltMinds x = new SaltMinds();
        // More than once, so that nothing of an earlier TEXT may be left.
        for (int i = 0; i < 3; i++) {
            Checks.saltText(x, debt);
            c.due("debt", x.fact(0, 4) * 100000 + x.fact(0, 5) * 10000 + x.fact(0, 6), 100999);
            c.due("none", x.fact(1, 4), NONE);
            c.due("none", x.fact(1, 5), NONE);
            c.due("none", x.fact(1, 6), NONE);
            Checks.saltText(x, none);
            c.due("none", x.fact(0, 4), NONE);
            c.due("none", x.fact(0, 5), NONE);
            c.due("none", x.fact(0, 6), NONE);
            c.due("debt", x.fact(1, 4) * 100000 + x.fact(1, 5) * 10000 + x.fact(1, 6), 10001);
        }
    }

    private static void until() {
        c.about("until: NONE: he doesn't recall it; -2 less UNTIL, if he was told it. NoSuchElementException: also no such FACT");
        SaltMinds x = Checks.told("person 0 0;person 0 0;fact 0 1 0;keeps 7;");
        c.due("not yet", x.until(0, 0), NONE);
        x.days(1);
        c.due("learned", x.until(0, 0), 7);
        c.due("he doesn't recall it", x.until(1, 0), NONE);
        x.tell(0, 0, 1);
        c.due("told", x.until(1, 0), -3);
        x.days(1);
        c.due("told", x.until(1, 0), -10);
        c.noSuchOf("until(p, 0)", p -> x.until(p, 0), -1, 2);
        c.noSuchOf("until(0, f)", f -> x.until(0, f), -1, 1);
        c.noSuchOf("until(p, f) of nobody", n -> new SaltMinds().until(n, n), -1, 0);
    }

    private static void image() {
        c.about("image: PURSES, TABLES, GRAINS, what is recalled, TODAY, ACTS and what is SEEN");
        SaltMinds x = Checks.told("person 60 0;person 60 1;fact 0 1 0;fact 2 1 1;keeps 1+salt;");
        x.grains(0, 2);
        x.days(1);
        x.tell(0, 0, 1);
        x.see(1, 1, true);
        x.image();
        String kept = Checks.stateOf(x);
        for (int i = 0; i < 8; i++) {
            x.see(0, 0, false);
        }
        c.due("one of them was refused", x.count(11), 1);
        x.sit(0, 3);
        x.grains(1, 5);
        x.days(4);
        c.due("restore", x.restore(), true);
        c.same("as the image, but status 2", Checks.stateOf(x).replaceFirst("^((\\d+ ){11})\\d+", "$10"), kept);
        c.due("acts", x.undo(), 2);
        c.due("it was the telling", x.until(1, 0), NONE);
        c.about("restore: They are as the image again (once more)");
        c.due("restore again", x.restore(), true);
        c.same("as the image", Checks.stateOf(x).replaceFirst("^((\\d+ ){11})\\d+", "$10"), kept);
        c.about("image: in place of another one");
        x.forget();
        x.days(1);
        x.image();
        x.undo();
        x.see(1, 1, true);
        c.due("restore", x.restore(), true);
        c.due("today", x.count(4), 2);
        c.due("acts", x.count(6), 4);
        c.due("seen", x.count(7), 0);
    }

    private static void imageOfActs() {
        c.about("image: .. ACTS .. are kept (all 40 of them)");
        SaltMinds x = Checks.told("person 99 0;fact 0 1 0;price 0 1;keeps 99;");
        for (int i = 1; i <= 20; i++) {
            x.grains(0, i);
            x.days(1);
        }
        x.image();
        int purse = x.person(0, 0);
        for (int i = 0; i < 40; i++) {
            x.undo();
        }
        for (int i = 0; i < 40; i++) {
            x.sit(0, i % 4);
        }
        c.due("restore", x.restore(), true);
        c.due("purse", x.person(0, 0), purse);
        for (int i = 20; i >= 1; i--) {
            c.due("undo the day", x.undo(), 2 * i - 1);
            c.due("today", x.count(4), i - 1);
            c.due("until", x.until(0, 0), i == 1 ? NONE : 97 + i);
            c.due("undo the grains", x.undo(), 2 * i - 2);
            c.due("grains", x.person(0, 2), i - 1);
            c.due("table", x.person(0, 1), 0);
        }
        c.due("purse", x.person(0, 0), 99);
    }

    private static void imageOfSeen() {
        c.about("image: .. what is SEEN are kept");
        SaltMinds x = Checks.told("person 0 0;person 0 0;person 0 0;fact 0 5 0 1 2;fact 0 9 0 1 2;keeps (day=0)+(0<day)*(weight-1<salt);");
        x.days(1);
        x.see(0, 0, true);
        x.see(1, 1, false);
        x.see(2, 1, true);
        x.image();
        x.forget();
        x.see(2, 0, false);
        x.see(0, 1, true);
        x.see(1, 0, true);
        c.due("9 to 20", x.ate(0, 0), 12);
        c.due("5 to 20", x.ate(1, 0), 16);
        c.due("0 to 4", x.ate(2, 0), 5);
        c.due("restore", x.restore(), true);
        c.due("5 to 20", x.ate(0, 0), 16);
        c.due("0 to 8", x.ate(1, 0), 9);
        c.due("9 to 20", x.ate(2, 0), 12);
        c.due("seen", x.count(7), 3);
    }

    private static void restoreWithout() {
        c.about("restore: False: there is none");
        SaltMinds x = new SaltMinds();
        c.due("of a new object", x.restore(), false);
        Checks.saltText(x, "person 9 0;person 9 0;fact 0 1 0;");
        x.grains(0, 3);
        x.days(1);
        x.see(0, 0, true);
        String before = Checks.stateOf(x);
        c.due("without an image", x.restore(), false);
        c.same("all stays", Checks.stateOf(x), before);
        x.image();
        c.due("with one", x.restore(), true);
        c.same("all is the same", Checks.stateOf(x), before);
        Checks.saltText(x, "oh");
        c.due("behind a text with a fault", x.restore(), true);
        Checks.saltText(x, "");
        c.due("behind a text without", x.restore(), false);
        x.image();
        x.days(7);
        c.due("the image of nobody", x.restore(), true);
        c.due("today", x.count(4), 0);
    }

    private static void farDays() {
        c.about("TODAY is the number of DAYS that there were");
        SaltMinds x = Checks.told("person 9999 0;person 0 1;fact 0 9 0;price 0 0;keeps 99*(told=0);");
        for (int i = 1; i <= 450; i++) {
            x.days(100);
        }
        c.due("today", x.count(4), 45000);
        c.due("until", x.until(0, 0), 45098);
        x.tell(0, 0, 1);
        c.due("told", x.until(1, 0), -45002);
        c.due("ahead", x.ahead(0, 100), 1);
        c.due("forgotten", x.days(1), 1);
    }

    private static void lastCall() {
        c.about("An object is used for at most 512 calls after it has been made");
        // Two calls feed the text, the third reads it.
        SaltMinds x = Checks.told("person 9 0;fact 0 1 0;keeps 99;");
        for (int call = 4; call <= 511; call++) {
            x.days(100);
        }
        c.due("the 512th", x.until(0, 0), 508 * 100 - 1 + 99);
    }

    private static void twoObjects() {
        c.about("A new object: Nobody (whatever other ones were told)");
        SaltMinds x = Checks.told("person 9 0;fact 0 1 0;keeps 9;");
        SaltMinds y = new SaltMinds();
        x.days(1);
        x.see(0, 0, true);
        x.image();
        x.days(0);
        Checks.feedText(x, "oh");
        c.due("nobody", y.count(0), 0);
        for (int what = 0; what <= 12; what++) {
            c.due("count(" + what + ")", y.count(what), what == 5 ? 5 : 0);
        }
        c.due("no image", y.restore(), false);
        Checks.saltText(y, "person 8 1;person 8 1;");
        c.due("people of the first one", x.count(0), 1);
        c.due("bytes of the first one", x.count(8), 20);
    }
}
