/** Promises 1 to 5: a new object, the tape, TEXTS and their FAULTS, counts. */
public final class TextTest {
    private static final int NONE = SaltMinds.NONE;
    private static final Checks c = new Checks();

    public static void main(String[] args) {
        newObject();
        tape();
        saltedAnew();
        faultsOfTokens();
        faultsOfNumbers();
        faultsOfPeople();
        faultsOfDoubles();
        tooManyLines();
        faultsOfExpr();
        counts();
        c.end();
    }

    private static void newObject() {
        SaltMinds x = new SaltMinds();
        for (int what = 0; what <= 12; what++) {
            c.due("count(" + what + ") of a new object", x.count(what), what == 5 ? 5 : 0);
        }
        c.due("fault() of a new object", x.fault(), NONE);
        c.noSuch("person(0, 0) of nobody", () -> x.person(0, 0));
        c.noSuch("fact(0, 0) of none", () -> x.fact(0, 0));
        c.noSuch("row(0) of none", () -> x.row(0));
        c.noSuch("ration(0) of none", () -> x.ration(0));
        c.due("restore() without image", x.restore(), false);
        c.due("undo() without acts", x.undo(), NONE);
        c.due("merchants(0) of nobody", x.merchants(0), 81);
        c.due("merchants(1) of nobody", x.merchants(1), 11);
        c.due("teaching nobody: feast(120)", x.feast(120), 0);
        c.due("spent(100) by nobody", x.spent(100), 0);
        c.due("witnesses(0, 20, 100) of nobody", x.witnesses(0, 20, 100), 0);
    }

    private static void tape() {
        SaltMinds x = new SaltMinds();
        for (int i = 1; i <= 35; i++) {
            c.due("feed " + i, x.feed(0, 0, 0, 0, 0), 20 * i);
        }
        c.due("feed beyond 700", x.feed(1, 2, 3, 4, 5), NONE);
        c.due("bytes", x.count(8), 700);
        c.illegal("salt(701)", () -> x.salt(701));
        c.illegal("salt(-1)", () -> x.salt(-1));
        c.due("bytes behind refused salts", x.count(8), 700);
        c.due("texts with a fault behind refused salts", x.count(9), 0);
        c.due("salt(700) of zeros", x.salt(700), 1);
        c.due("its place", x.fault(), 0);
        c.due("the tape is empty then", x.count(8), 0);
        // Highest byte first, bytes above 127 too: 'price 1 2;' then a byte 200 behind the text.
        c.due("feed", x.feed(0x70726963, 0x65203120, 0x323bc820, 0x20202020, 0x20202020), 20);
        c.due("salt(10)", x.salt(10), 0);
        c.due("fault()", x.fault(), NONE);
        c.due("prices", x.count(3), 1);
        x.feed(0x70726963, 0x65203120, 0x323bc820, 0x20202020, 0x20202020);
        c.due("salt(11)", x.salt(11), 1);
        c.due("fault()", x.fault(), 10);
        c.due("all stays", x.count(3), 1);
        c.due("salt(0)", x.salt(0), 0);
        c.due("all anew", x.count(3), 0);
    }

    private static void saltedAnew() {
        String text = "person 50 1;person 60 2;fact 0 2 0;keeps 9;";
        SaltMinds x = Checks.told(text);
        x.grains(0, 3);
        x.days(2);
        x.see(0, 0, true);
        x.cheapest(0, 1, 2);
        x.rations(3, 2);
        x.image();
        x.days(0);
        for (int i = 0; i < 9; i++) {
            x.see(1, 0, true);
        }
        c.due("status 1", x.count(10), 1);
        c.due("status 2", x.count(11), 2);
        c.due("status 0", x.count(9), 0);
        c.due("a text with a fault", Checks.saltText(x, "person 1 1;oh;"), 1);
        c.due("people stay", x.count(0), 2);
        c.due("today stays", x.count(4), 2);
        c.due("acts stay", x.count(6), 2);
        c.due("seen stays", x.count(7), 8);
        c.due("the row stays", x.row(1), 0);
        c.due("rations stay", x.ration(1), 0);
        c.due("restore()", x.restore(), true);
        c.due("a text without", Checks.saltText(x, "person 70 3;"), 0);
        c.due("fault()", x.fault(), NONE);
        c.due("people anew", x.count(0), 1);
        c.due("facts anew", x.count(1), 0);
        c.due("purse anew", x.person(0, 0), 70);
        c.due("table anew", x.person(0, 1), 3);
        c.due("grains anew", x.person(0, 2), 0);
        c.due("nothing is recalled", x.person(0, 3), 0);
        c.due("today anew", x.count(4), 0);
        c.due("acts are gone", x.count(6), 0);
        c.due("undo()", x.undo(), NONE);
        c.due("seen is gone", x.count(7), 0);
        c.noSuch("row(0)", () -> x.row(0));
        c.noSuch("ration(0)", () -> x.ration(0));
        c.due("the image is gone", x.restore(), false);
        c.due("status 0 stays", x.count(9), 1);
        c.due("status 1 stays", x.count(10), 1);
        c.due("status 2 stays", x.count(11), 2);
        // The rule is gone too: twice the grains eaten again.
        Checks.saltText(x, "person 70 3;fact 0 1 0;");
        x.grains(0, 2);
        x.days(1);
        c.due("until without a rule", x.until(0, 0), 4);
    }

    private static void faultsOfTokens() {
        c.fault("", 0, NONE);
        c.fault(" \n ", 0, NONE);
        c.fault("person5 0;person\n6\n1\n;", 0, NONE);
        c.fault(";", 1, 0);
        c.fault("  ;", 1, 2);
        c.fault("5", 1, 0);
        c.fault("persons 5 0;", 1, 0);
        c.fault("perso 5 0;", 1, 0);
        c.fault("aerson 5 0;", 1, 0);
        c.fault("persom 5 0;", 1, 0);
        c.fault("Person 5 0;", 1, 0);
        c.fault("person\t5 0;", 1, 6);
        c.fault("person 5 0\r;", 1, 10);
        c.fault("person", 1, 6);
        c.fault("person  ", 1, 8);
        c.fault("person 5", 1, 8);
        c.fault("person 5 0", 1, 10);
        c.fault("person 5 0;;", 1, 11);
        c.fault("person 5 0 0;", 1, 11);
        c.fault("person 5 0 12345;", 1, 11);
        c.fault("person x 0;", 1, 7);
        c.fault("person 5 0;fact", 1, 15);
        c.fault("person 5 0;fact 0 1 0 debt", 1, 26);
        c.fault("person 5 0;fact 0 1 0 depth 0;", 1, 22);
        c.fault("person 5 0;fact 0 1 debt 0 0 1;", 1, 20);
        c.fault("person 5 0;person 5 0;fact 0 1 0 debt 0 1 5 1;", 1, 44);
        c.fault("person 5 0;person 5 0;fact 0 1 0 debt 0 1 5 debt 0 1 5;", 1, 44);
        c.fault("person 5 0;person 5 0;talk 0 1 0;", 1, 31);
        c.fault("price 1 1 1;", 1, 10);
        c.fault("debt 1 1 1;", 1, 0);
    }

    private static void faultsOfNumbers() {
        c.fault("person 9999 3;", 0, NONE);
        c.fault("person 10000 3;", 2, 7);
        c.fault("person 00001 3;", 2, 7);
        c.fault("person 0001 03;", 0, NONE);
        c.fault("person 99999999999999999999 3;", 2, 7);
        c.fault("person 5 4;", 2, 9);
        c.fault("person 5 0;fact 400 9 0;", 0, NONE);
        c.fault("person 5 0;fact 401 9 0;", 2, 16);
        c.fault("person 5 0;fact 400 10 0;", 2, 20);
        c.fault("person 5 0;fact 400 0 0;", 2, 20);
        c.fault("price 400 99;price 0 0;", 0, NONE);
        c.fault("price 401 99;", 2, 6);
        c.fault("price 400 100;", 2, 10);
        String two = "person 5 0;person 5 0;";
        c.fault(two + "fact 0 1 0 debt 0 1 999;", 0, NONE);
        c.fault(two + "fact 0 1 0 debt 0 1 1000;", 2, 42);
        c.fault(two + "fact 0 1 0 debt 0 1 0;", 2, 42);
    }

    private static void faultsOfPeople() {
        c.fault("fact 0 1 0;", 3, 9);
        c.fault("person 5 0;fact 0 1 1;", 3, 20);
        c.fault("person 5 0;fact 0 1 9999;", 3, 20);
        c.fault("person 5 0;fact 0 1 10000;", 2, 20);
        c.fault("person 5 0;fact 0 1 0 1;", 3, 22);
        c.fault("person 5 0;fact 0 1 0 debt 1 0 5;", 3, 27);
        c.fault("person 5 0;fact 0 1 0 debt 0 1 5;", 3, 29);
        c.fault("talk 0 1;", 3, 5);
        c.fault("person 5 0;talk 0 1;person 5 0;", 3, 18);
    }

    private static void faultsOfDoubles() {
        String three = "person 5 0;person 5 0;person 5 0;";
        c.fault(three + "fact 0 1 0 1 2;", 0, NONE);
        c.fault(three + "fact 0 1 0 1 0;", 4, 46);
        c.fault(three + "fact 0 1 0 1 2 3;", 3, 48);
        c.fault(three + "fact 0 1 0 debt 1 1 5;", 4, 51);
        c.fault(three + "fact 0 1 0 debt 1 0 5;", 0, NONE);
        c.fault(three + "talk 1 1;", 4, 40);
        c.fault(three + "talk 0 1;talk 1 2;talk 2 0;", 0, NONE);
        c.fault(three + "talk 0 1;talk 0 1;", 4, 49);
        c.fault(three + "talk 0 1;talk 1 0;", 4, 49);
        c.fault("price 3 1;price 2 1;price 3 1;", 4, 26);
        c.fault("price 3 1;price 03 x;", 4, 16);
        c.fault("keeps 1;price 1 1;keeps 2;", 5, 18);
        c.fault("keeps 1;keeps pepper;", 5, 8);
    }

    private static void tooManyLines() {
        String six = "person 5 0;".repeat(6);
        c.fault(six, 0, NONE);
        c.fault(six + "person", 2, 66);
        c.fault("person 5 0;" + "fact 0 1 0;".repeat(10), 0, NONE);
        c.fault("person 5 0;" + "fact 0 1 0;".repeat(10) + "fact", 2, 121);
        StringBuilder talks = new StringBuilder(six);
        int told = 0;
        for (int a = 0; a < 6 && told < 10; a++) {
            for (int b = a + 1; b < 6 && told < 10; b++) {
                talks.append("talk ").append(a).append(' ').append(b).append(';');
                told++;
            }
        }
        c.fault(talks.toString(), 0, NONE);
        c.fault(talks + "talk 4 5;", 2, talks.length());
        StringBuilder prices = new StringBuilder();
        for (int day = 0; day < 8; day++) {
            prices.append("price ").append(day).append(" 1;");
        }
        c.fault(prices.toString(), 0, NONE);
        c.fault(prices + "price 0 1;", 2, prices.length());
    }

    private static void faultsOfExpr() {
        c.fault("keeps", 1, 5);
        c.fault("keeps;", 1, 5);
        c.fault("keeps 1", 1, 7);
        c.fault("keeps 1 2;", 1, 8);
        c.fault("keeps 1 salt;", 1, 8);
        c.fault("keeps 1 pepper;", 1, 8);
        c.fault("keeps 1 not 1;", 1, 8);
        c.fault("keeps 1(2);", 1, 7);
        c.fault("keeps 9999;", 0, NONE);
        c.fault("keeps 10000;", 2, 6);
        c.fault("keeps 1 10000;", 1, 8);
        c.fault("keeps pepper;", 3, 6);
        c.fault("keeps or;", 3, 6);
        c.fault("keeps person 5 0;", 3, 6);
        c.fault("keeps 1+not 1;", 3, 8);
        c.fault("keeps 1<not 1;", 3, 8);
        c.fault("keeps 1*not 1;", 3, 8);
        c.fault("keeps 1 and not 1 or not 1;", 0, NONE);
        c.fault("keeps 1 and and 1;", 3, 12);
        c.fault("keeps 1++1;", 1, 8);
        c.fault("keeps -1;", 1, 6);
        c.fault("keeps 1<2<3;", 1, 9);
        c.fault("keeps 1<2=3;", 1, 9);
        c.fault("keeps 1<(2)<3;", 1, 11);
        c.fault("keeps 1=2+3*4<3;", 1, 13);
        c.fault("keeps (1<2)=3;", 0, NONE);
        c.fault("keeps not 1<2 and 3<4 or 4=4;", 0, NONE);
        c.fault("keeps (1;", 1, 8);
        c.fault("keeps (1", 1, 8);
        c.fault("keeps 1);", 1, 7);
        c.fault("keeps ();", 1, 7);
        c.fault("keeps not;", 1, 9);
        c.fault("keeps salt+weight+age+told+facts+table+day;", 0, NONE);
        c.fault("keeps salts;", 3, 6);
        c.fault("keeps malt;", 3, 6);
        c.fault("keeps a;", 3, 6);
        c.fault("keeps z;", 3, 6);
        c.fault("keeps saltz;", 3, 6);
        c.fault("keeps `;", 1, 6);
        c.fault("keeps {;", 1, 6);
        c.fault("keeps :;", 1, 6);
        c.fault("keeps (((((1)))));", 0, NONE);
        c.fault("keeps ((((((1))))));", 2, 12);
        c.fault("keeps ((((((pepper", 2, 12);
        c.fault("keeps ((((((not 1", 2, 12);
        c.fault("keeps (((((((", 2, 12);
        c.fault("keeps (((((()", 1, 12);
        c.fault("keeps ((((((;", 1, 12);
        c.fault("keeps ((((((", 1, 12);
        c.fault("keeps ((((((12345", 2, 12);
        c.fault("keeps (((((1+(2))))));", 2, 14);
        c.fault("keeps (((((1)))))+(((((2)))));", 0, NONE);
        c.fault("keeps not not not not not not 1;", 0, NONE);
        c.fault("keeps not not not not not not not 1;", 2, 30);
        c.fault("keeps not not not(not not not not 1);", 0, NONE);
        c.fault("keeps not not not not 1 and not not not not 1;", 0, NONE);
        c.fault("keeps 1;;", 1, 8);
        c.fault("keeps 1>2;", 1, 7);
    }

    private static void counts() {
        SaltMinds x = Checks.told("person 50 1;person 60 2;fact 0 2 0;fact 1 2 1;talk 1 0;price 2 9;price 1 7;keeps 99;");
        c.due("people", x.count(0), 2);
        c.due("facts", x.count(1), 2);
        c.due("talks", x.count(2), 1);
        c.due("prices", x.count(3), 2);
        c.due("price ahead of all", x.count(5), 5);
        x.days(1);
        c.due("price from 1 on", x.count(5), 7);
        c.due("recalled", x.count(12), 1);
        x.days(1);
        c.due("price from 2 on, though told first", x.count(5), 9);
        c.due("recalled", x.count(12), 2);
        x.tell(0, 0, 1);
        c.due("recalled", x.count(12), 3);
        c.due("today", x.count(4), 2);
        c.due("acts", x.count(6), 3);
        Checks.feedText(x, "abc");
        c.due("bytes", x.count(8), 20);
        x.see(0, 0, false);
        c.due("seen", x.count(7), 1);
        c.noSuch("count(13)", () -> x.count(13));
        c.noSuch("count(-1)", () -> x.count(-1));
    }
}
