import java.util.ArrayList;
import java.util.List;

/** Each sentence of ==== 1, and of promises 1 to 5, that names a bound: at the bound and on both sides of it. */
public final class BoundsOfTextTest {
    private static final int NONE = SaltMinds.NONE;
    private static final Checks c = new Checks();

    public static void main(String[] args) {
        people();
        purse();
        table();
        facts();
        factDay();
        weight();
        byWhom();
        debt();
        talks();
        prices();
        priceOfGrain();
        allAtOnce();
        textOf700();
        words();
        numbers();
        everyByte();
        blanks();
        noLines();
        endsTooSoon();
        strangeTokens();
        wrongKinds();
        feedFills();
        feedOrder();
        saltTakesFirst();
        saltRefused();
        saltWithFault();
        saltAnew();
        saltBehindFault();
        saltBehindMore();
        faultPlace();
        countWhat();
        c.end();
    }

    private static void people() {
        c.about("PEOPLE 0, 1 .. (at most 6)");
        for (int n = 0; n <= 6; n++) {
            SaltMinds x = Checks.told("person 7 2;".repeat(n));
            c.due("people of " + n, x.count(0), n);
            for (int p = 0; p < n; p++) {
                c.due("the purse of " + p + " of " + n, x.person(p, 0), 7);
            }
            c.noSuchOf("a person", p -> x.person(p, 0), -1, n, n + 1);
        }
        c.fault("person 7 2;".repeat(7), 2, 66);
        c.fault("person 7 2;".repeat(6) + "price 0 1;person", 2, 76);
    }

    private static void purse() {
        c.about("a PURSE (0 to 9999)");
        for (int purse : new int[] {0, 1, 9998, 9999}) {
            c.due("purse", Checks.told("person " + purse + " 0;").person(0, 0), purse);
        }
        c.fault("person 10000 0;", 2, 7);
    }

    private static void table() {
        c.about("a TABLE (0 to 3)");
        for (int table = 0; table <= 3; table++) {
            c.due("table", Checks.told("person 0 " + table + ";").person(0, 1), table);
        }
        c.fault("person 0 4;", 2, 9);
        c.fault("person 0 9999;", 2, 9);
        c.fault("person 0 10000;", 2, 9);
    }

    private static void facts() {
        c.about("FACTS 0, 1 .. (at most 10)");
        for (int n = 0; n <= 10; n++) {
            SaltMinds x = Checks.told("person 7 2;" + "fact 3 8 0;".repeat(n));
            c.due("facts of " + n, x.count(1), n);
            for (int f = 0; f < n; f++) {
                c.due("the weight of " + f + " of " + n, x.fact(f, 1), 8);
            }
            c.noSuchOf("a fact", f -> x.fact(f, 0), -1, n, n + 1);
        }
        c.fault("person 7 2;" + "fact 3 8 0;".repeat(11), 2, 121);
        c.fault("person 7 2;" + "fact 3 8 0;".repeat(10) + "fact", 2, 121);
    }

    private static void factDay() {
        c.about("a DAY (0 to 400) on which it is learned");
        for (int day : new int[] {0, 1, 399, 400}) {
            c.due("day", Checks.told("person 0 0;fact " + day + " 1 0;").fact(0, 0), day);
        }
        c.fault("person 0 0;fact 401 1 0;", 2, 16);
        c.fault("person 0 0;fact 9999 1 0;", 2, 16);
        c.fault("person 0 0;fact 10000 1 0;", 2, 16);
    }

    private static void weight() {
        c.about("a WEIGHT (1 to 9)");
        for (int weight = 1; weight <= 9; weight++) {
            c.due("weight", Checks.told("person 0 0;fact 0 " + weight + " 0;").fact(0, 1), weight);
        }
        c.fault("person 0 0;fact 0 0 0;", 2, 18);
        c.fault("person 0 0;fact 0 10 0;", 2, 18);
        c.fault("person 0 0;fact 0 10000 0;", 2, 18);
    }

    private static void byWhom() {
        c.about("'fact' DAY WEIGHT PERSON PERSON*");
        String six = "person 5 0;".repeat(6);
        c.fault(six + "fact 0 1;", 1, 74);
        c.due("by the last one", Checks.told(six + "fact 0 1 5;").fact(0, 2), 32);
        c.due("by all, from the last one on", Checks.told(six + "fact 0 1 5 4 3 2 1 0;").fact(0, 2), 63);
        c.fault(six + "fact 0 1 5 4 3 2 1 0 6;", 3, 87);
        for (int again = 0; again < 6; again++) {
            c.fault(six + "fact 0 1 5 4 3 2 1 0 " + again + ";", 4, 87);
        }
        c.fault(six + "fact 0 1 5 5;", 4, 77);
        // By whom one FACT was learned another one may be learned too.
        c.due("another fact by the same", Checks.told(six + "fact 0 1 5;fact 0 1 5;").fact(1, 2), 32);
    }

    private static void debt() {
        c.about("A FACT may be a DEBT: one owes another one so much (1 to 999)");
        String two = "person 5 0;person 5 0;fact 0 1 0 debt ";
        for (int much : new int[] {1, 2, 998, 999}) {
            SaltMinds x = Checks.told(two + "1 0 " + much + ";");
            c.due("who owes", x.fact(0, 4), 1);
            c.due("who is owed", x.fact(0, 5), 0);
            c.due("how much", x.fact(0, 6), much);
        }
        c.fault(two + "1 0 0;", 2, 42);
        c.fault(two + "1 0 1000;", 2, 42);
        c.fault(two + "1 0 9999;", 2, 42);
        c.fault(two + "1 0 10000;", 2, 42);
        c.fault(two + "1 1 5;", 4, 40);
        c.fault(two + "0 0 5;", 4, 40);
        c.fault(two + "2 0 5;", 3, 38);
        c.fault(two + "0 2 5;", 3, 40);
    }

    private static String talksOf(int many) {
        StringBuilder b = new StringBuilder();
        int told = 0;
        for (int one = 0; one < 6; one++) {
            for (int other = one + 1; other < 6; other++) {
                if (told++ < many) {
                    b.append("talk ").append(other).append(' ').append(one).append(';');
                }
            }
        }
        return b.toString();
    }

    private static void talks() {
        c.about("TALKS (at most 10)");
        String six = "person 5 0;".repeat(6);
        for (int n = 0; n <= 10; n++) {
            c.due("talks", Checks.told(six + talksOf(n)).count(2), n);
        }
        c.fault(six + talksOf(11), 2, 66 + 90);
        c.fault(six + talksOf(10) + "talk", 2, 66 + 90);
        // The 11th is too much ahead of being told already.
        c.fault(six + talksOf(10) + "talk 0 1;", 2, 66 + 90);
    }

    private static String pricesOf(int many) {
        StringBuilder b = new StringBuilder();
        for (int i = 0; i < many; i++) {
            b.append("price ").append(i + 1).append(' ').append(i + 10).append(';');
        }
        return b.toString();
    }

    private static void prices() {
        c.about("PRICES (at most 8)");
        for (int n = 0; n <= 8; n++) {
            SaltMinds x = Checks.told(pricesOf(n));
            c.due("prices", x.count(3), n);
            x.days(50);
            c.due("the latest one", x.count(5), n == 0 ? 5 : n + 9);
        }
        c.fault(pricesOf(9), 2, 88);
        c.fault(pricesOf(8) + "price", 2, 88);
        // The 9th is too much ahead of being told from a DAY again.
        c.fault(pricesOf(8) + "price 1 1;", 2, 88);
        c.about("PRICES: from a DAY (0 to 400) on");
        c.fault("price 0 1;price 400 1;", 0, NONE);
        c.fault("price 401 1;", 2, 6);
        c.fault("price 9999 1;", 2, 6);
        c.fault("price 10000 1;", 2, 6);
        SaltMinds x = Checks.told("price 400 7;price 1 3;");
        c.due("on day 0, ahead of all", x.count(5), 5);
        x.days(1);
        c.due("on day 1", x.count(5), 3);
        for (int i = 0; i < 3; i++) {
            x.days(100);
        }
        x.days(98);
        c.due("today", x.count(4), 399);
        c.due("on day 399", x.count(5), 3);
        x.days(1);
        c.due("on day 400", x.count(5), 7);
        x.days(100);
        c.due("on day 500", x.count(5), 7);
        c.due("from day 0 on", Checks.told("price 0 8;").count(5), 8);
    }

    private static void priceOfGrain() {
        c.about("so much for a GRAIN (0 to 99; 5 ahead of all)");
        for (int price : new int[] {0, 1, 98, 99}) {
            c.due("price", Checks.told("price 0 " + price + ";").count(5), price);
        }
        c.fault("price 0 100;", 2, 8);
        c.fault("price 0 9999;", 2, 8);
        c.fault("price 0 10000;", 2, 8);
        c.due("without one", Checks.told("").count(5), 5);
        c.due("ahead of all", Checks.told("price 1 9;").count(5), 5);
    }

    private static void allAtOnce() {
        c.about("at most 6 PEOPLE, 10 FACTS, 10 TALKS, 8 PRICES, all of them in one TEXT");
        SaltMinds x = Checks.told("person 5 0;".repeat(6) + "fact 0 1 5 debt 4 5 9;".repeat(10) + talksOf(10) + pricesOf(8) + "keeps 9;");
        c.due("people", x.count(0), 6);
        c.due("facts", x.count(1), 10);
        c.due("talks", x.count(2), 10);
        c.due("prices", x.count(3), 8);
        c.due("nothing is forgotten", x.days(1), 0);
        c.due("all is recalled by the last one", x.person(5, 3), 1023);
        c.due("until", x.until(5, 9), 9);
    }

    private static void textOf700() {
        c.about("A TEXT of at most 700 bytes");
        String start = "person 9 0;fact 0 1 0;";
        String end = "keeps 7;";
        String whole = start + " ".repeat(700 - start.length() - end.length()) + end;
        SaltMinds x = Checks.told(whole);
        x.days(1);
        c.due("until, by a rule up to the 700th byte", x.until(0, 0), 7);
        Checks.feedText(x, whole);
        c.due("one byte less", x.salt(699), 1);
        c.due("its place", x.fault(), 699);
        // A rule as long as can be: 334 ones, less 300.
        String rule = start + "keeps " + "1+".repeat(333) + "1-300;";
        c.due("length", rule.length(), 700);
        SaltMinds y = Checks.told(rule);
        y.days(1);
        c.due("until", y.until(0, 0), 34);
        c.fault(rule.substring(0, 699), 1, 699);
        String nothing = "\n ".repeat(350);
        c.fault(nothing, 0, NONE);
        c.fault(nothing.substring(0, 699) + "x", 1, 699);
    }

    private static void words() {
        c.about("words (a .. z, the longest row)");
        c.fault("person5 0;", 0, NONE);
        c.fault("personperson 5 0;", 1, 0);
        c.fault("perso n 5 0;", 1, 0);
        c.fault("keeps saltsalt;", 3, 6);
        c.fault("keeps az;", 3, 6);
        c.fault("keeps notsalt;", 3, 6);
        c.fault("keeps not salt;", 0, NONE);
        c.fault("keeps 1and 2or 3;", 0, NONE);
        c.fault("keeps 1andsalt;", 1, 7);
        c.fault("keepssalt;", 1, 0);
        c.fault("keeps(salt);", 0, NONE);
        // The bytes beside a and z are no letters.
        c.fault("keeps `;", 1, 6);
        c.fault("keeps {;", 1, 6);
        c.fault("keeps salt`;", 1, 10);
        c.fault("keeps salt{;", 1, 10);
        c.fault("keeps SALT;", 1, 6);
    }

    private static void numbers() {
        c.about("NUMBERS (1 to 4 digits)");
        for (String number : new String[] {"0", "9", "00", "0009", "9999", "0000"}) {
            c.fault("person " + number + " 0;", 0, NONE);
            c.fault("keeps " + number + ";", 0, NONE);
            c.due("purse", Checks.told("person " + number + " 0;").person(0, 0), Integer.parseInt(number));
        }
        for (String number : new String[] {"00000", "00009", "10000", "99999", "4294967296", "0".repeat(300)}) {
            c.fault("person " + number + " 0;", 2, 7);
            c.fault("keeps " + number + ";", 2, 6);
        }
        // The bytes beside 0 and 9: / is a sign, : is none.
        c.fault("keeps 1/2;", 0, NONE);
        c.fault("keeps 1:2;", 1, 7);
        // Nothing between them: one NUMBER.
        c.fault("person 50;", 1, 9);
    }

    private static void everyByte() {
        c.about("signs ; ( ) + - * / < = ; blanks (32, 10); a TOKEN that can't stand there, or is none");
        for (int b = 0; b < 256; b++) {
            char sign = (char) b;
            boolean blank = b == 32 || b == 10;
            boolean digit = b >= '0' && b <= '9';
            boolean joins = "+-*/<=".indexOf(sign) >= 0;
            int between = blank || b == ';' ? 8 : 7;
            c.fault("keeps 1" + sign + "2;", digit || joins ? 0 : 1, digit || joins ? NONE : between);
            c.fault(sign + "keeps 1;", blank ? 0 : 1, blank ? NONE : 0);
            boolean opens = b == '(';
            boolean letter = b >= 'a' && b <= 'z';
            int first = blank || digit ? 0 : letter ? 3 : 1;
            c.fault("keeps " + sign + "1;", first, first == 0 ? NONE : opens ? 8 : 6);
        }
    }

    private static void blanks() {
        c.about("blanks (32, 10) between them count for nothing");
        c.fault("\n\n person\n 5 \n\n0 ;\n", 0, NONE);
        c.fault("keeps ( 1 + 2 ) * 3\n<\n4 ;  ", 0, NONE);
        c.fault("keeps(1+2)*3<4;", 0, NONE);
        for (int b : new int[] {0, 9, 11, 12, 13, 31, 33, 127, 128, 160, 255}) {
            c.fault("person 5 0" + (char) b + ";", 1, 10);
            c.fault("person" + (char) b + "5 0;", 1, 6);
        }
    }

    private static void noLines() {
        c.about("SALT: LINE*");
        c.fault("", 0, NONE);
        c.fault("  \n", 0, NONE);
        c.fault("price 0 1;", 0, NONE);
        c.fault(";", 1, 0);
        c.fault("price 0 1;;", 1, 10);
    }

    private static final String WHOLE = "person 5 0 ; person 6 1 ; fact 0 1 0 1 debt 0 1 9 ; fact 2 3 1 ; talk 1 0 ; price 0 1 ; "
        + "keeps not ( salt + 2 - 1 * 3 / 4 < 5 and 6 or 7 = age ) ; person 7 2 ; ";

    /** The places of its TOKENS. */
    private static List<Integer> placesOf(String text) {
        List<Integer> places = new ArrayList<>();
        int at = 0;
        for (String token : text.trim().split(" ")) {
            places.add(at);
            at += token.length() + 1;
        }
        return places;
    }

    private static void endsTooSoon() {
        c.about("1: the text's length where it ends too soon");
        c.fault(WHOLE, 0, NONE);
        for (int place : placesOf(WHOLE)) {
            String cut = WHOLE.substring(0, place);
            boolean whole = cut.isEmpty() || cut.trim().endsWith(";");
            c.fault(cut, whole ? 0 : 1, whole ? NONE : cut.length());
            c.fault(cut.trim(), whole ? 0 : 1, whole ? NONE : cut.trim().length());
            c.fault(cut + "\n\n", whole ? 0 : 1, whole ? NONE : cut.length() + 2);
        }
    }

    private static void strangeTokens() {
        c.about("1 a TOKEN that .. is none, at a TOKEN's first byte");
        for (int place : placesOf(WHOLE)) {
            c.fault(WHOLE.substring(0, place) + "%" + WHOLE.substring(place), 1, place);
            c.fault(WHOLE.substring(0, place) + " \u00ff" + WHOLE.substring(place + 1), 1, place + 1);
        }
    }

    private static void wrongKinds() {
        c.about("1 a TOKEN that can't stand there");
        String two = "person 5 0;person 5 0;";
        String[] lines = {"person 5 0;", "fact 0 1 0 debt 0 1 9;", "talk 0 1;", "price 0 1;"};
        for (String line : lines) {
            String spaced = line.replace(";", " ;");
            for (int place : placesOf(spaced)) {
                char kind = spaced.charAt(place);
                String before = two + spaced.substring(0, place);
                String[] wrong = Character.isDigit(kind) ? new String[] {"x", "salt", ";", "(", ")", "+", "-", "*", "/", "<", "="}
                    : kind == ';' ? new String[] {"x", "person", "(", ")", "+", "-", "*", "/", "<", "="}
                    : new String[] {"x", "(", ")", "+", "-", "*", "/", "<", "="};
                for (String token : wrong) {
                    // A FACT may end ahead of 'debt'.
                    c.fault(before + token + " 1 1 1;", 1, before.length());
                }
            }
        }
        for (String line : new String[] {"person 5 0", "talk 0 1", "price 0 1", "fact 0 1 0 debt 0 1 9", "keeps 1"}) {
            for (String more : new String[] {"0", "12345", "person", "debt", "keeps", "not"}) {
                c.fault(two + line + " " + more + ";", 1, two.length() + line.length() + 1);
            }
        }
        for (String more : new String[] {"person", "price", "not", "salt", "debts"}) {
            c.fault(two + "fact 0 1 0 " + more + ";", 1, two.length() + 11);
        }
    }

    private static void feedFills() {
        c.about("feed: how many it has; NONE, and none come, if it would have more than 700");
        SaltMinds x = new SaltMinds();
        c.due("bytes at first", x.count(8), 0);
        String start = "person 9 0;fact 0 1 0;";
        Checks.feedText(x, start + " ".repeat(670 - start.length()));
        c.due("bytes", x.count(8), 680);
        c.due("the last twenty", x.feed(0x20202020, 0x20202020, 0x20202020, 0x6b656570, 0x7320383b), 700);
        c.due("bytes", x.count(8), 700);
        for (int i = 0; i < 3; i++) {
            c.due("twenty more", x.feed(1, 2, 3, 4, 5), NONE);
            c.due("bytes", x.count(8), 700);
        }
        c.due("no status", x.count(9) + x.count(10) + x.count(11), 0);
        c.due("what came ahead of them is as it was", x.salt(700), 0);
        x.days(1);
        c.due("until, by keeps 8", x.until(0, 0), 8);
        c.due("bytes", x.count(8), 0);
        c.due("the first twenty again", x.feed(1, 2, 3, 4, 5), 20);
    }

    private static void feedOrder() {
        c.about("feed: Twenty bytes come behind the tape, of each number the highest first");
        SaltMinds x = new SaltMinds();
        // "keeps salt*2+weight;" has twenty bytes.
        c.due("feed", x.feed(0x6b656570, 0x73207361, 0x6c742a32, 0x2b776569, 0x6768743b), 20);
        c.due("salt", x.salt(20), 0);
        // "price 7 1;" twice, the second one from a day that was told.
        c.due("feed", x.feed(0x70726963, 0x65203720, 0x313b7072, 0x69636520, 0x3720313b), 20);
        c.due("feed", x.feed(0, 0, 0, 0, 0), 40);
        c.due("salt", x.salt(20), 4);
        c.due("fault", x.fault(), 16);
        // Bytes of 128 and more are none of a TOKEN, wherever they stand in a number.
        for (int i = 0; i < 4; i++) {
            x.feed(0x20202020 ^ 0xa0 << 8 * (3 - i), 0x20202020, 0x20202020, 0x20202020, 0x20202020);
            c.due("salt", x.salt(20), 1);
            c.due("fault", x.fault(), i);
        }
        x.feed(-1, -1, -1, -1, -1);
        c.due("salt", x.salt(20), 1);
        c.due("fault", x.fault(), 0);
    }

    private static void saltTakesFirst() {
        c.about("salt: The tape's first n bytes (it is empty then)");
        SaltMinds x = new SaltMinds();
        Checks.feedText(x, "price 0 1;price 1 2;");
        c.due("none of them", x.salt(0), 0);
        c.due("prices", x.count(3), 0);
        c.due("the tape", x.count(8), 0);
        Checks.feedText(x, "price 0 1;price 1 2;");
        c.due("the first line", x.salt(10), 0);
        c.due("prices", x.count(3), 1);
        c.due("the tape", x.count(8), 0);
        Checks.feedText(x, "price 0 1;price 1 2;");
        c.due("both lines", x.salt(20), 0);
        c.due("prices", x.count(3), 2);
        c.due("the tape", x.count(8), 0);
        Checks.feedText(x, "price 0 1;price 1 2;");
        c.due("with a fault", x.salt(19), 1);
        c.due("its place", x.fault(), 19);
        c.due("the tape is empty then too", x.count(8), 0);
        c.due("an empty tape", x.salt(0), 0);
        c.due("prices", x.count(3), 0);
    }

    private static void saltRefused() {
        c.about("salt: IllegalArgumentException: the tape has not so many, n below 0 (nothing changes)");
        SaltMinds x = new SaltMinds();
        c.illegalOf("salt without a tape", n -> x.salt(n), -1, 1);
        c.due("fault", x.fault(), NONE);
        Checks.saltText(x, "person 5 1;person 6 2;fact 0 1 0;fact 0 1 1;keeps 50;");
        x.grains(0, 2);
        x.days(2);
        x.see(1, 0, true);
        x.cheapest(0, 1, 2);
        x.rations(3, 2);
        x.image();
        Checks.saltText(x, "person x");
        Checks.feedText(x, "price 0 9;");
        String before = Checks.stateOf(x);
        c.illegalOf("salt", n -> x.salt(n), -1, 21, 700, 701);
        c.same("nothing changes", Checks.stateOf(x), before);
        c.due("the tape", x.count(8), 20);
        c.due("fault stays", x.fault(), 7);
        c.due("status 0 stays", x.count(9), 1);
        c.due("the image stays", x.restore(), true);
        c.due("what is on the tape", x.salt(20), 0);
        c.due("price", x.count(5), 9);
    }

    /** The state without STATUS 0 and the place of the FAULT. */
    private static String butFault(String state) {
        return state.replaceFirst(" \\d+ (\\d+ \\d+ \\d+) fault -?\\d+", " $1");
    }

    private static void saltWithFault() {
        c.about("salt: 0, or the FAULT (all stays)");
        SaltMinds x = Checks.told("person 5 1;person 6 2;fact 0 1 0;fact 0 1 1 debt 0 1 7;talk 0 1;price 0 1;keeps 50;");
        x.grains(0, 2);
        x.days(2);
        x.see(1, 0, true);
        x.cheapest(0, 1, 2);
        x.rations(3, 2);
        x.image();
        String before = butFault(Checks.stateOf(x));
        String[] texts = {"oh", "person 10000 0;", "fact 0 1 0;", "price 0 7;price 0 7;", "keeps 1;keeps 1;"};
        for (int i = 0; i < 5; i++) {
            c.due("salt of " + texts[i], Checks.saltText(x, "person 1 1;".repeat(i == 2 ? 0 : 2) + texts[i]), i + 1);
            c.due("status 0", x.count(9), i + 1);
        }
        c.same("all stays but status 0 and the fault", butFault(Checks.stateOf(x)), before);
        c.due("debts stay", x.fact(1, 6), 7);
        c.due("the rule stays", x.until(0, 0), 51);
        x.days(1);
        c.due("the rule stays", x.until(0, 0), 52);
        c.due("the price stays", x.person(0, 0), 0);
        c.due("the talk stays", x.steps(0, 1), 1);
        c.due("the image stays", x.restore(), true);
        c.same("as the image", butFault(Checks.stateOf(x)), before);
    }

    private static void saltAnew() {
        c.about("salt: all anew; ACTS, what is SEEN, rows that are kept, the image are gone (STATUS stays)");
        SaltMinds x = Checks.told("person 5 1;person 6 2;fact 0 1 0 debt 0 1 7;fact 0 1 1;talk 0 1;price 0 1;keeps 50;");
        x.grains(0, 2);
        x.days(2);
        x.cheapest(0, 1, 2);
        x.rations(3, 2);
        x.image();
        Checks.saltText(x, "oh");
        x.days(0);
        x.days(0);
        for (int i = 0; i < 11; i++) {
            x.see(1, 0, true);
        }
        c.due("blamed", x.blamed(), 2);
        c.due("salt", Checks.saltText(x, "person 8 3;person 9 0;fact 0 2 0;"), 0);
        c.same("all", Checks.stateOf(x), "2 1 0 0 0 5 0 0 0 1 2 3 0 fault -1 person 8 3 0 -1 person 9 0 0 -1 rations row blamed 0");
        c.due("acts are gone", x.undo(), NONE);
        c.due("the image is gone", x.restore(), false);
        c.due("the debt is gone", x.fact(0, 4) + x.fact(0, 5) + x.fact(0, 6), -3);
        c.due("the talk is gone", x.steps(0, 1), NONE);
        x.grains(0, 1);
        x.days(1);
        c.due("the rule is gone", x.until(0, 0), 2);
        c.due("the talk is gone", x.steps(0, 1), NONE);
        // The same text again: as if it were the first time.
        c.due("salt", Checks.saltText(x, "person 8 3;person 9 0;fact 0 2 0;"), 0);
        c.due("today", x.count(4), 0);
        c.due("grains", x.person(0, 2), 0);
        c.due("who recalls it", x.fact(0, 3), 0);
        c.due("no text at all", x.salt(0), 0);
        c.due("nobody", x.count(0), 0);
    }

    private static void saltBehindFault() {
        c.about("salt: a TEXT behind one with a FAULT is read from its beginning on");
        String[] faulty = {"keeps (((((1", "keeps ((((((", "keeps not not not not not not pepper", "keeps 1 or 1 and not 1<1+1*", "keeps 1<", "keeps 1<2<",
            "keeps 1;keeps", "person 5 0;fact 0 1 0 debt", "person 5 0;fact 0 1 0 0", "price 0 1;price 0", "person 5 0;person 5 0;talk 0 1;talk 0", "12345",
            "person 5 0;".repeat(7), "person 5 0;" + "fact 0 1 0;".repeat(11)};
        String good = "person 5 0;person 6 0;fact 0 1 1;talk 1 0;price 0 3;keeps (not not not not not not((((salt<1+2*3))))and 2)*4;";
        SaltMinds x = new SaltMinds();
        for (int i = 0; i < 20; i++) {
            c.due("a fault", Checks.saltText(x, "keeps (((((1"), 1);
        }
        for (String text : faulty) {
            c.due("a fault in " + text, Checks.saltText(x, text) != 0, true);
            c.due("none behind " + text, Checks.saltText(x, good), 0);
            c.due("fault", x.fault(), NONE);
            x.days(1);
            c.due("until by the rule behind " + text, x.until(1, 0), 4);
            c.due("people, facts, talks, prices", x.count(0) * 1000 + x.count(1) * 100 + x.count(2) * 10 + x.count(3), 2111);
        }
        Checks.saltText(x, "keeps not not not not not not pepper;");
        c.due("six 'not' behind six", Checks.saltText(x, "keeps not not not not not not 1;"), 0);
        Checks.saltText(x, "keeps (((((1;");
        c.due("five parentheses behind five", Checks.saltText(x, "keeps (((((1)))));"), 0);
    }

    /** Most of the calls, one behind the other, with what they answer. */
    private static String answersOf(SaltMinds x) {
        StringBuilder b = new StringBuilder(Checks.stateOf(x).replaceFirst(" \\d+ \\d+ \\d+ (\\d+) fault", " $1 fault"));
        for (int day = 0; day < 3; day++) {
            b.append(" days ").append(x.grains(day % 2, 2)).append(' ').append(x.days(1)).append(' ').append(x.tell(0, 0, 1));
            for (int f = 0; f < x.count(1); f++) {
                for (int what = 0; what <= 6; what++) {
                    b.append(' ').append(x.fact(f, what));
                }
                b.append(" of ").append(f).append(": ").append(x.teller(f)).append(' ').append(x.holds(f)).append(' ').append(x.ahead(f, 9));
                b.append(' ').append(x.steps(f, 0)).append(' ').append(x.steps(f, 1));
            }
            for (int n : new int[] {1, 5}) {
                b.append(" in ").append(n).append(": ").append(x.blank(n, 0)).append(' ').append(x.blank(n, 1)).append(' ').append(x.profits(n));
                b.append(' ').append(x.witnesses(1, 9, n)).append(' ').append(x.rations(n == 1 ? 30 : 9, n)).append(' ').append(x.ration(0)).append(' ').append(x.ration(1));
                b.append(' ').append(x.season(9, n, NONE)).append(' ').append(x.season(9, n, 1)).append(' ').append(x.sick(0, n));
                b.append(' ').append(x.spent(n)).append(' ').append(x.cheapest(1, 0, n)).append(' ').append(x.enough(0, 0, n));
            }
            for (int table = 0; table <= 3; table++) {
                b.append(' ').append(x.gathering(table));
            }
            b.append(' ').append(x.merchants(0)).append(' ').append(x.merchants(1)).append(' ').append(x.corner(0)).append(' ').append(x.corner(12));
            b.append(' ').append(x.feast(4)).append(' ').append(x.feast(40)).append(' ').append(x.blamed()).append(' ').append(x.owed(0));
            b.append(' ').append(x.count(5)).append(' ').append(x.count(12));
        }
        return b.toString();
    }

    private static void saltBehindMore() {
        c.about("salt: all anew (nothing is left of TEXTS that told more)");
        String much = "person 9999 0;".repeat(6) + "fact 0 9 0 1 2 3 4 5 debt 0 1 99;".repeat(10) + talksOf(10) + pricesOf(8) + "keeps 50+salt*(not not not 0);";
        String[] few = {"person 7 0;person 9 1;fact 0 2 0;", "person 7 0;person 9 0;fact 0 2 1;fact 1 3 0 debt 0 1 5;talk 0 1;price 1 2;keeps salt+1;"};
        for (String text : few) {
            String due = answersOf(Checks.told(text));
            SaltMinds x = new SaltMinds();
            for (int i = 0; i < 2; i++) {
                Checks.saltText(x, much);
                x.days(2);
                x.rations(30, 1);
                x.cheapest(5, 1023, 5);
                x.merchants(0);
                x.season(5, 5, 5);
                x.see(5, 9, false);
            }
            c.due("salt", Checks.saltText(x, text), 0);
            c.same("behind more", answersOf(x), due);
        }
    }

    private static void faultPlace() {
        c.about("fault: The place of the latest salt()'s FAULT; NONE without");
        SaltMinds x = new SaltMinds();
        c.due("at first", x.fault(), NONE);
        Checks.saltText(x, "   oh");
        c.due("place", x.fault(), 3);
        c.due("place again", x.fault(), 3);
        Checks.saltText(x, "price");
        c.due("place", x.fault(), 5);
        c.illegal("a refused salt", () -> x.salt(1));
        c.due("it stays", x.fault(), 5);
        Checks.saltText(x, "oh");
        c.due("place 0", x.fault(), 0);
        x.salt(0);
        c.due("without", x.fault(), NONE);
    }

    private static void countWhat() {
        c.about("count: NoSuchElementException: another what");
        c.noSuchOf("count of a new object", what -> new SaltMinds().count(what), -1, 13, 14);
        SaltMinds x = Checks.told("person 5 1;fact 0 1 0;");
        c.noSuchOf("count", what -> x.count(what), -1, 13, 14);
        for (int what = 0; what <= 12; what++) {
            int asked = what;
            c.due("count(" + what + ") throws", Checks.thrownBy(() -> x.count(asked)), 0);
        }
        c.about("count: 12 by how many PEOPLE and FACTS something is recalled");
        SaltMinds all = Checks.told("person 5 0;".repeat(6) + "fact 0 1 0 1 2 3 4 5;".repeat(10) + "keeps 9;");
        c.due("none", all.count(12), 0);
        all.days(1);
        c.due("all of them", all.count(12), 60);
    }
}
