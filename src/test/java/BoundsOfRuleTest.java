/** Each sentence about EXPR and about FAULTS that names a bound: at the bound and on both sides of it. */
public final class BoundsOfRuleTest {
    private static final int NONE = SaltMinds.NONE;
    private static final Checks c = new Checks();

    private static final String LEAST = "(0-8192*8192*32)";
    private static final String GREATEST = "(8192*8192*32-1)";

    public static void main(String[] args) {
        fromTheLeft();
        strength();
        wraps();
        divides();
        tests();
        oneTest();
        nots();
        deep();
        deepest();
        parts();
        values();
        fiveDigits();
        notTold();
        again();
        secondKeeps();
        firstAlongTheText();
        leastOfOneToken();
        c.end();
    }

    /** What a rule gives: looked for by tests for equality, so that what is kept to 0 to 99 is no matter. */
    private static void gives(String rule, String value) {
        SaltMinds x = Checks.told("person 9999 0;fact 0 7 0;price 0 1;keeps 1+((" + rule + ")=(" + value + "));");
        x.grains(0, 3);
        x.days(1);
        c.due(rule + " = " + value, x.until(0, 0), 2);
    }

    private static void fromTheLeft() {
        c.about("From the left");
        gives("9-4-3", "2");
        gives("9-4+3", "8");
        gives("100/10/5", "2");
        gives("100/10*5", "50");
        gives("7*5/10", "3");
        gives("7/10*5", "0");
        gives("9-(4-3)", "8");
        gives("100/(10/5)", "50");
    }

    private static void strength() {
        c.about("EXPR: AND ('or' AND)*. AND: NOT ('and' NOT)*. NOT: 'not' NOT | SUM [..]. SUM: PRODUCT ..");
        gives("1 or 0 and 0", "1");
        gives("(1 or 0) and 0", "0");
        gives("0 and 0 or 1", "1");
        gives("0 and (0 or 1)", "0");
        gives("not 0 and 0", "0");
        gives("not (0 and 0)", "1");
        gives("not 1 or 1", "1");
        gives("not (1 or 1)", "0");
        gives("not 0<0", "1");
        gives("not 5=5", "0");
        gives("not 2+1", "0");
        gives("1<2 and 2<1", "0");
        gives("1<(2 and 2)", "0");
        gives("2+3<6", "1");
        gives("3<2+3", "1");
        gives("2+3*4", "14");
        gives("2*3+4", "10");
        gives("2-3*4", "0-10");
        gives("9-8/4", "7");
        gives("not not 7", "1");
        gives("0 or 0 or 3", "1");
        gives("1 and 1 and 0", "0");
    }

    private static void wraps() {
        c.about("ints that wrap");
        gives(GREATEST + "+1", LEAST);
        gives(LEAST + "-1", GREATEST);
        gives("0-" + LEAST, LEAST);
        gives(LEAST + "*(0-1)", LEAST);
        gives(GREATEST + "*2", "0-2");
        gives("8192*8192*64", "0");
        gives("9999*9999*9999", "0-((10*9999+2755)*9999+2714)");
        gives(LEAST + "<" + GREATEST, "1");
        gives(GREATEST + "<" + LEAST, "0");
        gives("0-1<0", "1");
    }

    private static void divides() {
        c.about("/ cut down to 0, by 0 gives 0");
        gives("7/2", "3");
        gives("(0-7)/2", "0-3");
        gives("7/(0-2)", "0-3");
        gives("(0-7)/(0-2)", "3");
        gives("1/2", "0");
        gives("(0-1)/2", "0");
        gives("7/0", "0");
        gives("0/0", "0");
        gives(LEAST + "/0", "0");
        gives("5+7/0*3", "5");
        gives("7/(1-1)", "0");
        gives(LEAST + "/(0-1)", LEAST);
        gives(LEAST + "/1", LEAST);
        gives("7/1", "7");
        gives("7/(0-1)", "0-7");
    }

    private static void tests() {
        c.about("tests, not, and, or are 1 or 0 (what isn't 0 holds)");
        gives("7 or 0", "1");
        gives("0 or 7", "1");
        gives("7 or 8", "1");
        gives("0 or 0", "0");
        gives("7 and 8", "1");
        gives("7 and 0", "0");
        gives("0 and 7", "0");
        gives("0 and 0", "0");
        gives("not 7", "0");
        gives("not 0", "1");
        gives("(0-1) and (0-2)", "1");
        gives("0 or 0-1", "1");
        gives("not 0-1", "0");
        gives("4<5", "1");
        gives("5<5", "0");
        gives("6<5", "0");
        gives("4=5", "0");
        gives("5=5", "1");
        gives("6=5", "0");
        // Both sides of and, or are numbers that would wrap or divide by 0: nothing comes of it.
        gives("0 and 1/0", "0");
        gives("1 or 1/0", "1");
    }

    private static void oneTest() {
        c.about("NOT: .. SUM [('<' | '=') SUM]");
        c.fault("keeps 1<2;", 0, NONE);
        c.fault("keeps 1<2<3;", 1, 9);
        c.fault("keeps 1<2=3;", 1, 9);
        c.fault("keeps 1=2<3;", 1, 9);
        c.fault("keeps 1=2=3;", 1, 9);
        c.fault("keeps 1<2+3=4;", 1, 11);
        c.fault("keeps 1<2*3=4;", 1, 11);
        c.fault("keeps not 1<2<3;", 1, 13);
        c.fault("keeps 0 or 1<2<3;", 1, 14);
        c.fault("keeps (1<2<3);", 1, 10);
        c.fault("keeps (1<2)<3;", 0, NONE);
        c.fault("keeps 1<(2<3);", 0, NONE);
        c.fault("keeps 1<2 and 3<4 or 5=6;", 0, NONE);
        c.fault("keeps not 1<2 and not 3=4;", 0, NONE);
        c.fault("keeps 1==2;", 1, 8);
        c.fault("keeps 1<=2;", 1, 8);
    }

    private static void nots() {
        c.about("2: the seventh 'not' side by side");
        for (int many = 0; many <= 6; many++) {
            c.fault("keeps " + "not ".repeat(many) + "1;", 0, NONE);
            gives("not ".repeat(many) + "7", many == 0 ? "7" : many % 2 == 0 ? "1" : "0");
        }
        // At the rule's very beginning too.
        for (int many = 0; many <= 6; many++) {
            SaltMinds x = Checks.told("person 9 0;fact 0 7 0;keeps " + "not ".repeat(many) + "day;");
            x.days(1);
            c.due("recalled by " + many + " 'not' of 0", x.fact(0, 3), many % 2);
        }
        c.fault("keeps " + "not ".repeat(7) + "1;", 2, 30);
        c.fault("keeps " + "not ".repeat(7), 2, 30);
        c.fault("keeps " + "not ".repeat(9) + "1;", 2, 30);
        c.fault("keeps " + "not\n".repeat(7) + "1;", 2, 30);
        // They begin anew behind 'and', 'or', '('.
        String six = "not ".repeat(6);
        c.fault("keeps " + six + "1 and " + six + "1 or " + six + "1;", 0, NONE);
        c.fault("keeps " + six + "(" + six + "(" + six + "1));", 0, NONE);
        c.fault("keeps " + six + "1 and " + six + "not 1;", 2, 6 + 24 + 6 + 24);
        c.fault("keeps " + six + "1 or " + six + "not 1;", 2, 6 + 24 + 5 + 24);
        c.fault("keeps (" + six + "not 1);", 2, 7 + 24);
        c.fault("keeps " + six + "pepper;", 3, 30);
        c.fault("keeps " + six + ";", 1, 30);
    }

    private static void deep() {
        c.about("2: the first TOKEN of an EXPR within 6 others (a NUMBER, any word, a parenthesis)");
        for (int many = 0; many <= 5; many++) {
            SaltMinds x = Checks.told("person 9 0;fact 0 7 0;keeps " + "(".repeat(many) + "8" + ")".repeat(many) + ";");
            x.days(1);
            c.due("until by " + many + " parentheses", x.until(0, 0), 8);
        }
        String six = "keeps ((((((";
        String[] tooMuch = {"1", "0000", "12345", "salt", "day", "pepper", "not", "and", "or", "person", "keeps", "a", "("};
        for (String token : tooMuch) {
            c.fault(six + token, 2, 12);
            c.fault(six + token + " 1))))));", 2, 12);
            c.fault(six + "\n " + token, 2, 14);
        }
        c.fault("keeps (((((((1)))))));", 2, 12);
        // What can't stand there is a FAULT 1, as ever.
        for (String token : new String[] {")", ";", "+", "-", "*", "/", "<", "=", "%", "A", "\u00e9"}) {
            c.fault(six + token, 1, 12);
        }
        c.fault(six, 1, 12);
        // It is no matter where within its EXPR the sixth one opens.
        c.fault("keeps (((((1+(2))))));", 2, 14);
        c.fault("keeps 1*(2-(3/(4<(not (5 and (6))))));", 2, 30);
        c.fault("keeps 1*(2-(3/(4<(not (5 and 6)))));", 0, NONE);
        // Side by side they aren't within one another.
        c.fault("keeps (((((1)))))+(((((2)))))*(((((3)))));", 0, NONE);
        c.fault("keeps (((((1))))+(2));", 0, NONE);
        c.about("'(' EXPR ')'");
        c.fault("keeps ();", 1, 7);
        c.fault("keeps (1;", 1, 8);
        c.fault("keeps ((1);", 1, 10);
        c.fault("keeps 1);", 1, 7);
        c.fault("keeps (1));", 1, 9);
        c.fault("keeps (1)2;", 1, 9);
        c.fault("keeps (1)(2);", 1, 9);
        c.fault("keeps );", 1, 6);
    }

    /** As much as can wait at each of six levels: or, and, six 'not', a test, a sum, a product. */
    private static String level(int left, int inmost) {
        String inside = left == 0 ? "" + inmost : "(" + level(left - 1, inmost) + ")";
        return "0 or 1 and " + "not ".repeat(6) + "0<0+1*" + inside;
    }

    private static void deepest() {
        c.about("an EXPR as deep as can be");
        for (int inmost = 0; inmost <= 2; inmost++) {
            SaltMinds x = Checks.told("person 9999 0;fact 0 7 0;keeps " + level(5, inmost) + ";");
            x.days(1);
            c.due("recalled with " + inmost, x.fact(0, 3), inmost == 0 ? 0 : 1);
        }
        String text = "keeps " + level(6, 1) + ";";
        c.fault(text, 2, text.lastIndexOf("(") + 1);
        // Behind what was deep comes what is flat: nothing of it waits any more.
        SaltMinds x = Checks.told("person 9999 0;fact 0 7 0;keeps 4*(" + level(4, 1) + ")+(" + level(4, 1) + ")*3;");
        x.days(1);
        c.due("until", x.until(0, 0), 7);
    }

    private static void parts() {
        c.about("3 any word where a PART must stand that is no VALUE");
        String[] before = {"", "not ", "(", "1+", "1-", "1*", "1/", "1<", "1=", "1 and ", "1 or ", "1 and not ", "1<2+"};
        String[] none = {"pepper", "salts", "sal", "or", "and", "person", "fact", "talk", "price", "keeps", "debt", "ages", "da"};
        for (String ahead : before) {
            for (String word : none) {
                c.fault("keeps " + ahead + word + ";", 3, 6 + ahead.length());
            }
            c.fault("keeps " + ahead + ";", 1, 6 + ahead.trim().length() + (ahead.endsWith(" ") ? 1 : 0));
            c.fault("keeps " + ahead + ")", 1, 6 + ahead.length());
            c.fault("keeps " + ahead + "*1", 1, 6 + ahead.length());
        }
        // 'not' may stand where a NOT does, and is any word where a SUM or a PART alone must stand.
        for (String ahead : new String[] {"1+", "1-", "1*", "1/", "1<", "1=", "1<2+", "not 1*"}) {
            c.fault("keeps " + ahead + "not 1;", 3, 6 + ahead.length());
        }
        for (String ahead : new String[] {"", "not ", "(1)and ", "1 or ", "1<2 or "}) {
            c.fault("keeps " + ahead + "not 1;", 0, NONE);
        }
        // Where no PART must stand a word is FAULT 1.
        for (String word : none) {
            if (!word.equals("or") && !word.equals("and")) {
                c.fault("keeps 1 " + word + ";", 1, 8);
            }
        }
        c.fault("keeps 1 salt;", 1, 8);
        c.fault("keeps salt salt;", 1, 11);
        c.fault("keeps (1) not 1;", 1, 10);
    }

    private static void values() {
        c.about("VALUES of one who recalls a FACT");
        String[] names = {"salt", "weight", "age", "told", "facts", "table", "day"};
        // On day 2 both are at one table and eat 3 each; the first one has three facts by then.
        int[] early = {3, 7, 2, 0, 3, 2, 2};
        int[] justLearned = {3, 9, 0, 0, 3, 2, 2};
        int[] ofTheOther = {3, 4, 2, 0, 1, 2, 2};
        // On day 3 the other one is by himself, eats 2, and was told a second fact.
        int[] wasTold = {2, 7, 3, 1, 2, 1, 3};
        for (int i = 0; i < 7; i++) {
            SaltMinds x = Checks.told("person 9999 0;person 9999 0;fact 0 7 0;fact 0 4 0 1;fact 2 9 0;price 0 1;keeps 20+" + names[i] + ";");
            x.grains(0, 4);
            x.grains(1, 2);
            x.days(3);
            c.due(names[i], x.until(0, 0), 2 + 20 + early[i]);
            c.due(names[i] + " of what was learned this day", x.until(0, 2), 2 + 20 + justLearned[i]);
            c.due(names[i] + " of the other one", x.until(1, 1), 2 + 20 + ofTheOther[i]);
            x.sit(1, 1);
            x.tell(0, 0, 1);
            x.days(1);
            c.due(names[i] + " of what was told", x.until(1, 0), -2 - (3 + 20 + wasTold[i]));
        }
    }

    private static void fiveDigits() {
        c.about("2: a NUMBER of 5 digits or more");
        String two = "person 5 0;person 5 0;";
        String[] ahead = {"person ", "person 1 ", "fact ", "fact 0 ", "fact 0 1 ", "fact 0 1 0 ", "fact 0 1 0 debt ", "fact 0 1 0 debt 0 ",
            "fact 0 1 0 debt 0 1 ", "talk ", "talk 0 ", "price ", "price 0 ", "keeps ", "keeps not ", "keeps 1+", "keeps (", "keeps 1<"};
        for (String start : ahead) {
            for (String number : new String[] {"00000", "00001", "10000", "99999", "123456789012"}) {
                c.fault(two + start + number, 2, two.length() + start.length());
            }
        }
        c.fault("keeps 9999;", 0, NONE);
        gives("9999", "9998+1");
        c.fault("12345", 1, 0);
        c.fault("keeps 1 12345;", 1, 8);
        c.fault("price 0 1 12345;", 1, 10);
    }

    private static void notTold() {
        c.about("3: a PERSON that isn't told ahead");
        String two = "person 5 0;person 5 0;";
        String[] ahead = {"fact 0 1 ", "fact 0 1 0 ", "fact 0 1 0 debt ", "fact 0 1 0 debt 0 ", "talk ", "talk 0 "};
        for (String start : ahead) {
            for (String person : new String[] {"2", "3", "5", "6", "7", "31", "32", "33", "64", "9999"}) {
                c.fault(two + start + person + ";person 5 0;", 3, two.length() + start.length());
            }
        }
        c.fault("fact 0 1 0;person 5 0;", 3, 9);
        c.fault("talk 0 1;", 3, 5);
        c.fault("person 5 0;talk 0 1;person 5 0;", 3, 18);
        c.fault("person 5 0;person 5 0;talk 0 1;", 0, NONE);
        c.fault("person 5 0;fact 0 1 0001;", 3, 20);
        c.fault("person 5 0;person 5 0;fact 0 1 0001;", 0, NONE);
    }

    private static void again() {
        String three = "person 5 0;person 5 0;person 5 0;";
        c.about("4 a PERSON by whom a FACT was learned already");
        c.fault(three + "fact 0 1 0 0;", 4, 44);
        c.fault(three + "fact 0 1 0 00;", 4, 44);
        c.fault(three + "fact 0 1 2 1 2;", 4, 46);
        c.fault(three + "fact 0 1 2 1 0 debt 2 1 5;", 0, NONE);
        c.about("4: the second PERSON of a DEBT, of TALKS that is the first one");
        c.fault(three + "fact 0 1 0 debt 2 2 5;", 4, 51);
        c.fault(three + "fact 0 1 0 debt 2 1 5;", 0, NONE);
        for (int p = 0; p < 3; p++) {
            c.fault(three + "talk " + p + " " + p + ";", 4, 40);
        }
        c.about("4: of TALKS that were told (either way round)");
        c.fault(three + "talk 0 2;talk 0 2;", 4, 49);
        c.fault(three + "talk 0 2;talk 2 0;", 4, 49);
        c.fault(three + "talk 2 0;talk 0 2;", 4, 49);
        c.fault(three + "talk 0 2;talk 0 1;talk 1 2;", 0, NONE);
        c.fault(three + "talk 0 2;talk 0 1;talk 1 2;talk 2 0;", 4, 67);
        c.about("4: the DAY of PRICES that were told from it");
        c.fault("price 0 1;price 0 2;", 4, 16);
        c.fault("price 400 1;price 400 1;", 4, 18);
        c.fault("price 7 1;price 8 1;price 6 1;price 07 1;", 4, 36);
        c.fault("price 7 1;price 8 1;price 6 1;", 0, NONE);
        c.fault("price 7 1;price 7", 4, 16);
        c.fault("price 7 1;price 7 100;", 4, 16);
    }

    private static void secondKeeps() {
        c.about("5 a second 'keeps'");
        c.fault("keeps 1;", 0, NONE);
        c.fault("keeps 1;keeps 2;", 5, 8);
        c.fault("keeps 1;keeps", 5, 8);
        c.fault("keeps 1;price 0 1; keeps 1;", 5, 19);
        c.fault("keeps 1;keeps pepper;", 5, 8);
        c.fault("keeps 1;keepss 1;", 1, 8);
    }

    private static void firstAlongTheText() {
        c.about("FAULTS, the first along the text");
        c.fault("price 401 401;", 2, 6);
        c.fault("price 0 401;%", 2, 8);
        c.fault("% price 401 1;", 1, 0);
        c.fault("person 5 0;fact 0 1 1 12345;", 3, 20);
        c.fault("person 5 0;fact 0 1 12345 1;", 2, 20);
        c.fault("person 5 0;fact 0 1 0 0 1;", 4, 22);
        c.fault("person 5 0;fact 0 1 0 1 0;", 3, 22);
        c.fault("keeps pepper+12345+%;keeps", 3, 6);
        c.fault("keeps 12345+pepper;", 2, 6);
        c.fault("keeps 1;keeps 1;price 401 1;", 5, 8);
        c.fault("person 5 0;talk 0 0;talk 9 9;", 4, 18);
        c.fault("person 5 0;talk 9 9;talk 0 0;", 3, 16);
    }

    private static void leastOfOneToken() {
        c.about("FAULTS .. of one TOKEN the least");
        String two = "person 5 0;person 5 0;";
        // A NUMBER of 5 digits is no PERSON told ahead either.
        c.fault(two + "fact 0 1 00002;", 2, 31);
        c.fault(two + "fact 0 1 0 00000;", 2, 33);
        c.fault(two + "talk 0 00000;", 2, 29);
        c.fault("price 1 1;price 00001 1;", 2, 16);
        // What can't stand there isn't too much, nor no VALUE, nor a second 'keeps'.
        c.fault("person 5 0;".repeat(6) + "price person", 1, 72);
        c.fault("keeps 1;price keeps", 1, 14);
        c.fault("keeps 1 keeps 1;", 1, 8);
        // A word within 6 others is too much ahead of being no VALUE.
        c.fault("keeps ((((((pepper", 2, 12);
        // 'keeps' where a PART must stand is no VALUE; it can't be a LINE's first TOKEN there.
        c.fault("keeps keeps 1;", 3, 6);
        // The 7th PERSON is too much, whatever comes behind its first TOKEN.
        c.fault("person 5 0;".repeat(6) + "person x", 2, 66);
    }
}
