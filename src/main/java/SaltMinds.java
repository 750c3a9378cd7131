import java.util.Arrays;
import java.util.NoSuchElementException;

/** People who keep facts by the salt that they eat; the document tells each call as a numbered promise. */
public final class SaltMinds {
    /** There is none. */
    public static final int NONE = -1;

    private static final int MOST_BYTES = 700;
    private static final int MOST_PEOPLE = 6;
    private static final int MOST_FACTS = 10;
    private static final int MOST_TALKS = 10;
    private static final int MOST_PRICES = 8;
    private static final int MOST_ACTS = 40;
    private static final int MOST_SEEN = 8;
    private static final int TABLES = 4;
    private static final int MOST_GRAINS = 20;
    private static final int MOST_DAYS = 100;
    private static final int MOST_SEASON = 60;
    private static final int MOST_FEAST = 120;
    private static final int MOST_RATIONS = 30;
    private static final int MOST_DIET_DAYS = 5;
    private static final int MOST_DIET_GRAINS = 6;

    private final Reader reader = new Reader();
    private Tale tale = new Tale();
    private Tale spare = new Tale();
    private final Minds now = new Minds();
    private final Minds later = new Minds();
    private final History acts = new History();
    private final Court court = new Court();
    private final Diet diet = new Diet();
    private final Rations shares = new Rations();
    private final Market market = new Market();
    private final int[] status = new int[3];
    private final int[] witnessed = new int[MOST_PEOPLE];
    private final int[] distance = new int[MOST_PEOPLE];
    private final Minds imageOfNow = new Minds();
    private final History imageOfActs = new History();
    private final Court imageOfCourt = new Court();
    private boolean imaged;

    /** Promise 1: nobody; all fields begin that way. */
    public SaltMinds() {
    }

    /** Promise 2. */
    public int feed(int a, int b, int c, int d, int e) {
        Tape tape = reader.tape;
        if (!tape.hasRoomFor(20)) {
            return NONE;
        }
        tape.addBytes(a);
        tape.addBytes(b);
        tape.addBytes(c);
        tape.addBytes(d);
        tape.addBytes(e);
        return tape.filled;
    }

    /** Promise 3. */
    public int salt(int n) throws IllegalArgumentException {
        if (n < 0 || n > reader.tape.filled) {
            throw new IllegalArgumentException("the tape has not so many bytes");
        }
        int wrong = reader.readText(n, spare);
        reader.tape.filled = 0;
        if (wrong != 0) {
            status[0]++;
            return wrong;
        }
        Tale old = tale;
        tale = spare;
        spare = old;
        now.beginAnew(tale);
        acts.kept = 0;
        court.seen = 0;
        diet.length = 0;
        shares.kept = false;
        imaged = false;
        return 0;
    }

    /** Promise 4. */
    public int fault() {
        return reader.place;
    }

    /** Promise 5. */
    public int count(int what) throws NoSuchElementException {
        switch (what) {
            case 0:
                return tale.people;
            case 1:
                return tale.facts;
            case 2:
                return tale.talks;
            case 3:
                return tale.prices;
            case 4:
                return now.today;
            case 5:
                return tale.priceOn(now.today);
            case 6:
                return acts.kept;
            case 7:
                return court.seen;
            case 8:
                return reader.tape.filled;
            case 9:
                return status[0];
            case 10:
                return status[1];
            case 11:
                return status[2];
            case 12:
                return now.recalledInAll();
            default:
                throw new NoSuchElementException("no such count");
        }
    }

    /** Promise 6. */
    public int person(int person, int what) throws NoSuchElementException {
        needPerson(person);
        switch (what) {
            case 0:
                return now.purse[person];
            case 1:
                return now.table[person];
            case 2:
                return now.grains[person];
            case 3:
                return now.factsOf(person);
            default:
                throw new NoSuchElementException("no such thing of a person");
        }
    }

    /** Promise 7. */
    public int fact(int fact, int what) throws NoSuchElementException {
        needFact(fact);
        switch (what) {
            case 0:
                return tale.day[fact];
            case 1:
                return tale.weight[fact];
            case 2:
                return tale.learners[fact];
            case 3:
                return now.whoRecalls(fact);
            case 4:
                return tale.debtor[fact];
            case 5:
                return tale.creditor[fact];
            case 6:
                return tale.amount[fact];
            default:
                throw new NoSuchElementException("no such thing of a fact");
        }
    }

    /** Promise 8. */
    public int until(int person, int fact) throws NoSuchElementException {
        needPerson(person);
        needFact(fact);
        return now.codeOf(person, fact);
    }

    /** Promise 9. */
    public int grains(int person, int grains) throws NoSuchElementException {
        needPerson(person);
        if (grains < 0 || grains > MOST_GRAINS) {
            status[1]++;
            return NONE;
        }
        acts.push(now);
        int before = now.grains[person];
        now.grains[person] = grains;
        return before;
    }

    /** Promise 10. */
    public int sit(int person, int table) throws NoSuchElementException {
        needPerson(person);
        if (table < 0 || table >= TABLES) {
            status[1]++;
            return NONE;
        }
        acts.push(now);
        int before = now.table[person];
        now.table[person] = table;
        return before;
    }

    /** Promise 11. */
    public boolean tell(int fact, int from, int to) throws NoSuchElementException {
        needFact(fact);
        needPerson(from);
        needPerson(to);
        if (!now.recalls(from, fact) || now.recalls(to, fact)) {
            status[1]++;
            return false;
        }
        acts.push(now);
        now.hear(to, fact);
        return true;
    }

    /** Promise 12. */
    public int days(int many) {
        if (many < 1 || many > MOST_DAYS) {
            status[1]++;
            return NONE;
        }
        acts.push(now);
        int forgotten = 0;
        for (int day = 0; day < many; day++) {
            forgotten += now.passDay(tale, NONE);
        }
        return forgotten;
    }

    /** Promise 13. */
    public int undo() {
        if (acts.kept == 0) {
            return NONE;
        }
        acts.popInto(now);
        return acts.kept;
    }

    /** Promise 14. */
    public int ahead(int fact, int n) throws NoSuchElementException, IllegalArgumentException {
        needFact(fact);
        needBetween(n, 0, MOST_DAYS);
        lookAhead(n, NONE);
        return later.whoRecalls(fact);
    }

    /** Promise 15. */
    public int blank(int n, int what) throws NoSuchElementException, IllegalArgumentException {
        if (what != 0 && what != 1) {
            throw new NoSuchElementException("no such thing of a blank");
        }
        needBetween(n, 0, MOST_DAYS);
        later.copyAll(now);
        int known = later.factsOfAll();
        for (int day = 1; day <= n; day++) {
            later.passDay(tale, NONE);
            int lost = known & ~later.factsOfAll();
            if (lost != 0) {
                return what == 0 ? day : Integer.numberOfTrailingZeros(lost);
            }
            known = later.factsOfAll();
        }
        return NONE;
    }

    /** Promise 16. */
    public int enough(int person, int fact, int n) throws NoSuchElementException, IllegalArgumentException {
        needPerson(person);
        needFact(fact);
        needBetween(n, 1, MOST_DAYS);
        if (!now.recalls(person, fact)) {
            return NONE;
        }
        for (int g = 0; g <= MOST_GRAINS; g++) {
            if (has(recalledAlone(person, g, n), fact)) {
                return g;
            }
        }
        return NONE;
    }

    /** Promise 17. */
    public int cheapest(int person, int facts, int n) throws NoSuchElementException, IllegalArgumentException {
        needPerson(person);
        if ((facts & ~now.factsOf(person)) != 0) {
            throw new IllegalArgumentException("facts that he doesn't recall");
        }
        needBetween(n, 1, MOST_DIET_DAYS);
        return diet.searchFor(tale, now, person, facts, n);
    }

    /** Promise 18. */
    public int row(int i) throws NoSuchElementException {
        if (i < 0 || i >= diet.length) {
            throw new NoSuchElementException("no such day of a row that is kept");
        }
        return diet.best[i];
    }

    /** Promise 19. */
    public int witnesses(int facts, int grains, int n) throws IllegalArgumentException {
        if ((facts & ~tale.allFacts()) != 0) {
            throw new IllegalArgumentException("facts that there aren't");
        }
        needBetween(grains, 0, MOST_GRAINS);
        needBetween(n, 1, MOST_DAYS);
        for (int p = 0; p < tale.people; p++) {
            witnessed[p] = recalledAlone(p, grains, n);
        }
        int best = NONE;
        for (int set = 0; set < 1 << tale.people; set++) {
            boolean fewer = best == NONE || Integer.bitCount(set) < Integer.bitCount(best);
            if (fewer && (facts & ~witnessedBy(set)) == 0) {
                best = set;
            }
        }
        return best;
    }

    /** Promise 20. */
    public int rations(int g, int n) throws IllegalArgumentException {
        needBetween(g, 0, MOST_RATIONS);
        needBetween(n, 1, MOST_DAYS);
        for (int p = 0; p < tale.people; p++) {
            for (int x = 0; x <= MOST_GRAINS; x++) {
                // Nobody can be given more than there is.
                shares.worth[p][x] = x > g ? 0 : tale.weightOf(recalledAlone(p, x, n));
            }
        }
        return shares.divide(tale.people, g);
    }

    /** Promise 21. */
    public int ration(int person) throws NoSuchElementException {
        needPerson(person);
        if (!shares.kept) {
            throw new NoSuchElementException("no rations are kept");
        }
        return shares.given[person];
    }

    /** Promise 22. */
    public int steps(int fact, int person) throws NoSuchElementException {
        needFact(fact);
        needPerson(person);
        tale.measureTalks(now.whoRecalls(fact), distance);
        return distance[person];
    }

    /** Promise 23. */
    public int teller(int fact) throws NoSuchElementException {
        needFact(fact);
        int best = NONE;
        int bestReached = 0;
        int bestTalks = 0;
        for (int p = 0; p < tale.people; p++) {
            if (now.recalls(p, fact)) {
                tale.measureTalks(1 << p, distance);
                int reached = reachedPeople();
                int talks = talksInAll();
                if (best == NONE || reached > bestReached || reached == bestReached && talks < bestTalks) {
                    best = p;
                    bestReached = reached;
                    bestTalks = talks;
                }
            }
        }
        return best;
    }

    /** Promise 24. */
    public int gathering(int table) throws NoSuchElementException {
        if (table < 0 || table >= TABLES) {
            throw new NoSuchElementException("no such table");
        }
        int known = 0;
        for (int p = 0; p < tale.people; p++) {
            if (now.table[p] == table) {
                known |= now.factsOf(p);
            }
        }
        int more = 0;
        for (int p = 0; p < tale.people; p++) {
            if (now.table[p] == table) {
                more += Integer.bitCount(known & ~now.factsOf(p));
            }
        }
        return more;
    }

    /** Promise 25. */
    public boolean holds(int fact) throws NoSuchElementException {
        needFact(fact);
        return tale.isHeld(fact, now.whoRecalls(fact));
    }

    /** Promise 26. */
    public int owed(int person) throws NoSuchElementException {
        needPerson(person);
        return owedIn(now, person);
    }

    /** Promise 27. */
    public int profits(int n) throws IllegalArgumentException {
        needBetween(n, 0, MOST_DAYS);
        lookAhead(n, NONE);
        int best = NONE;
        int bestGain = 0;
        for (int p = 0; p < tale.people; p++) {
            int gain = owedIn(now, p) - owedIn(later, p);
            if (best == NONE || gain > bestGain) {
                best = p;
                bestGain = gain;
            }
        }
        return best;
    }

    /** Promise 28. */
    public int see(int person, int fact, boolean recalls) throws NoSuchElementException {
        needPerson(person);
        needFact(fact);
        if (court.seen >= MOST_SEEN) {
            status[2]++;
            return NONE;
        }
        court.add(person, fact, recalls);
        return court.seen;
    }

    /** Promise 29. */
    public void forget() {
        court.seen = 0;
    }

    /** Promise 30. */
    public int ate(int person, int what) throws NoSuchElementException {
        needPerson(person);
        if (what != 0 && what != 1) {
            throw new NoSuchElementException("no such thing of what one ate");
        }
        int fitting = grainsThatFit(person);
        if (what == 0) {
            return Integer.bitCount(fitting);
        }
        return fitting == 0 ? NONE : Integer.numberOfTrailingZeros(fitting);
    }

    /** Promise 31. */
    public int blamed() {
        int bits = 0;
        for (int p = 0; p < tale.people; p++) {
            if (grainsThatFit(p) == 0) {
                bits |= 1 << p;
            }
        }
        return bits;
    }

    /** Promise 32. */
    public int merchants(int what) throws NoSuchElementException {
        if (what != 0 && what != 1) {
            throw new NoSuchElementException("no such thing of merchants");
        }
        market.ask(now, tale.people);
        return what == 0 ? market.resting : market.first;
    }

    /** Promise 33. */
    public int corner(int grains) throws IllegalArgumentException {
        needBetween(grains, 0, Market.MOST_EACH * MOST_PEOPLE);
        for (int price = 1; price <= 99; price++) {
            if (market.soldAt(price, now, tale.people) <= grains) {
                return price;
            }
        }
        return NONE;
    }

    /** Promise 34. */
    public int season(int seed, int n, int person) throws NoSuchElementException, IllegalArgumentException {
        if (person != NONE) {
            needPerson(person);
        }
        needBetween(n, 0, MOST_SEASON);
        int forgotten = playSeason(seed, n);
        return person == NONE ? forgotten : Integer.bitCount(later.factsOf(person));
    }

    /** Promise 35. */
    public int feast(int grains) throws IllegalArgumentException {
        needBetween(grains, 0, MOST_FEAST);
        if (tale.people <= 0) {
            return 0;
        }
        later.copyAll(now);
        later.learnToday(tale);
        for (int p = 0; p < tale.people; p++) {
            later.keepFacts(tale, p, grains / tale.people, tale.people);
        }
        later.passMidnight(tale);
        return later.recalledInAll();
    }

    /** Promise 36. */
    public int sick(int person, int n) throws NoSuchElementException, IllegalArgumentException {
        needPerson(person);
        needBetween(n, 1, MOST_DAYS);
        lookAhead(n, NONE);
        int healthy = Integer.bitCount(later.factsOf(person));
        lookAhead(n, person);
        return healthy - Integer.bitCount(later.factsOf(person));
    }

    /** Promise 37. */
    public int spent(int n) throws IllegalArgumentException {
        needBetween(n, 0, MOST_DAYS);
        lookAhead(n, NONE);
        int paid = 0;
        for (int p = 0; p < tale.people; p++) {
            paid += now.purse[p] - later.purse[p];
        }
        return paid;
    }

    /** Promise 38. */
    public void image() {
        imageOfNow.copyAll(now);
        imageOfActs.copyAll(acts);
        imageOfCourt.copyAll(court);
        imaged = true;
    }

    /** Promise 39. */
    public boolean restore() {
        if (!imaged) {
            return false;
        }
        now.copyAll(imageOfNow);
        acts.copyAll(imageOfActs);
        court.copyAll(imageOfCourt);
        return true;
    }

    private void needPerson(int p) {
        if (p < 0 || p >= tale.people) {
            throw new NoSuchElementException("no such person");
        }
    }

    private void needFact(int f) {
        if (f < 0 || f >= tale.facts) {
            throw new NoSuchElementException("no such fact");
        }
    }

    private static void needBetween(int n, int least, int most) {
        if (n < least || n > most) {
            throw new IllegalArgumentException("too little or too much");
        }
    }

    private static boolean has(int bits, int i) {
        return (bits >> i & 1) != 0;
    }

    private void lookAhead(int n, int sickOne) {
        later.copyAll(now);
        for (int day = 0; day < n; day++) {
            later.passDay(tale, sickOne);
        }
    }

    /** Which FACTS one recalls behind n DAYS, ALONE, given g GRAINS TODAY and none behind it. */
    private int recalledAlone(int p, int g, int n) {
        later.copyPerson(now, p);
        int end = now.today + n;
        for (int day = 0; day < n; day++) {
            // UNTIL never goes back, so what is sure needs no more days.
            if (later.isSure(p, end)) {
                break;
            }
            later.passAlone(tale, p, day == 0 ? g : 0);
        }
        return later.factsOf(p);
    }

    private int witnessedBy(int set) {
        int bits = 0;
        for (int p = 0; p < tale.people; p++) {
            if (has(set, p)) {
                bits |= witnessed[p];
            }
        }
        return bits;
    }

    private int reachedPeople() {
        int reached = 0;
        for (int p = 0; p < tale.people; p++) {
            if (distance[p] > 0) {
                reached++;
            }
        }
        return reached;
    }

    private int talksInAll() {
        int sum = 0;
        for (int p = 0; p < tale.people; p++) {
            if (distance[p] > 0) {
                sum += distance[p];
            }
        }
        return sum;
    }

    private int owedIn(Minds minds, int p) {
        int sum = 0;
        for (int f = 0; f < tale.facts; f++) {
            if (tale.isHeld(f, minds.whoRecalls(f))) {
                if (tale.debtor[f] == p) {
                    sum += tale.amount[f];
                }
                if (tale.creditor[f] == p) {
                    sum -= tale.amount[f];
                }
            }
        }
        return sum;
    }

    /** The numbers of GRAINS, as bits, that fit all that is SEEN of somebody. */
    private int grainsThatFit(int p) {
        int bits = 0;
        for (int g = 0; g <= MOST_GRAINS; g++) {
            if (court.fits(p, recalledAlone(p, g, 1))) {
                bits |= 1 << g;
            }
        }
        return bits;
    }

    private int playSeason(int seed, int n) {
        later.copyAll(now);
        int s = seed;
        int forgotten = 0;
        for (int day = 0; day < n; day++) {
            if (tale.people > 0) {
                s = nextSeed(s);
                int who = drawn(s, tale.people);
                s = nextSeed(s);
                later.grains[who] = drawn(s, 6);
            }
            if (tale.talks > 0) {
                s = nextSeed(s);
                int talk = drawn(s, tale.talks);
                later.tellAll(tale.talkOne[talk], tale.talkOther[talk]);
                later.tellAll(tale.talkOther[talk], tale.talkOne[talk]);
            }
            forgotten += later.passDay(tale, NONE);
        }
        return forgotten;
    }

    private static int nextSeed(int s) {
        return s * 1103515245 + 12345;
    }

    private static int drawn(int s, int n) {
        return n <= 0 ? 0 : (s >> 16 & 0x7fff) % n;
    }

    /** The bytes that were fed, and the TOKEN of them that is looked at. */
    private static final class Tape {
        static final int END = 0;
        static final int WORD = 1;
        static final int NUMBER = 2;
        static final int SIGN = 3;
        static final int STRANGE = 4;
        static final int TOO_LONG = 10000;

        final int[] bytes = new int[MOST_BYTES];
        int filled;
        int length;
        int kind;
        int start;
        int end;
        int number;

        boolean hasRoomFor(int many) {
            return filled + many <= MOST_BYTES;
        }

        void addBytes(int word) {
            for (int shift = 24; shift >= 0; shift -= 8) {
                if (filled >= 0 && filled < MOST_BYTES) {
                    bytes[filled] = word >> shift & 255;
                    filled++;
                }
            }
        }

        void openText(int n) {
            length = n;
            end = 0;
            advance();
        }

        void advance() {
            start = end;
            for (int i = 0; i < MOST_BYTES && isBlank(byteAt(start)); i++) {
                start++;
            }
            int first = byteAt(start);
            end = start + 1;
            if (first == NONE) {
                kind = END;
                end = start;
            } else if (isLetter(first)) {
                kind = WORD;
                for (int i = 0; i < MOST_BYTES && isLetter(byteAt(end)); i++) {
                    end++;
                }
            } else if (isDigit(first)) {
                kind = NUMBER;
                readDigits(first);
            } else {
                kind = isSignByte(first) ? SIGN : STRANGE;
            }
        }

        private void readDigits(int first) {
            number = first - '0';
            for (int i = 0; i < MOST_BYTES && isDigit(byteAt(end)); i++) {
                number = end - start >= 4 ? TOO_LONG : number * 10 + byteAt(end) - '0';
                end++;
            }
        }

        boolean isWord(String word) {
            if (kind != WORD || end - start != word.length()) {
                return false;
            }
            for (int i = 0; i < word.length(); i++) {
                if (byteAt(start + i) != word.charAt(i)) {
                    return false;
                }
            }
            return true;
        }

        boolean isSign(char sign) {
            return kind == SIGN && byteAt(start) == sign;
        }

        private int byteAt(int i) {
            return i >= 0 && i < length && i < MOST_BYTES ? bytes[i] : NONE;
        }

        private static boolean isBlank(int b) {
            return b == 32 || b == 10;
        }

        private static boolean isLetter(int b) {
            return b >= 'a' && b <= 'z';
        }

        private static boolean isDigit(int b) {
            return b >= '0' && b <= '9';
        }

        private static boolean isSignByte(int b) {
            return b == ';' || b == '(' || b == ')' || b == '+' || b == '-' || b == '*' || b == '/' || b == '<' || b == '=';
        }
    }

    /** Reads a TEXT into a Tale, up to its first FAULT. */
    private static final class Reader {
        static final int MOST_DEPTH = 6;
        static final int MOST_NOTS = 6;

        final Tape tape = new Tape();
        int wrong;
        int place = NONE;
        /** Of the EXPR that is read: whether a PART must stand, or a NOT too, how deep it is, the 'not' side by side. */
        boolean wantsPart;
        boolean mayNot;
        int depth;
        int nots;

        int readText(int n, Tale tale) {
            wrong = 0;
            place = NONE;
            tale.clearAll();
            tape.openText(n);
            for (int line = 0; line < MOST_BYTES && wrong == 0 && tape.kind != Tape.END; line++) {
                if (tape.isWord("person")) {
                    readPersonLine(tale);
                } else if (tape.isWord("fact")) {
                    readFactLine(tale);
                } else if (tape.isWord("talk")) {
                    readTalkLine(tale);
                } else if (tape.isWord("price")) {
                    readPriceLine(tale);
                } else if (tape.isWord("keeps")) {
                    readKeepsLine(tale);
                } else {
                    refuse(1);
                }
                needSemicolon();
            }
            return wrong;
        }

        private void readPersonLine(Tale tale) {
            int p = tale.people;
            if (p < 0 || p >= MOST_PEOPLE) {
                refuse(2);
                return;
            }
            tape.advance();
            tale.purse[p] = readNumber(0, 9999);
            tale.table[p] = readNumber(0, TABLES - 1);
            tale.people++;
        }

        private void readFactLine(Tale tale) {
            int f = tale.facts;
            if (f < 0 || f >= MOST_FACTS) {
                refuse(2);
                return;
            }
            tape.advance();
            tale.day[f] = readNumber(0, 400);
            tale.weight[f] = readNumber(1, 9);
            int learners = bit(readPerson(tale, 0));
            for (int i = 0; i <= MOST_PEOPLE && wrong == 0 && tape.kind == Tape.NUMBER; i++) {
                learners |= bit(readPerson(tale, learners));
            }
            tale.learners[f] = learners;
            tale.debtor[f] = NONE;
            tale.creditor[f] = NONE;
            tale.amount[f] = NONE;
            if (wrong == 0 && tape.isWord("debt")) {
                tape.advance();
                tale.debtor[f] = readPerson(tale, 0);
                tale.creditor[f] = readPerson(tale, bit(tale.debtor[f]));
                tale.amount[f] = readNumber(1, 999);
            }
            tale.facts++;
        }

        private void readTalkLine(Tale tale) {
            int t = tale.talks;
            if (t < 0 || t >= MOST_TALKS) {
                refuse(2);
                return;
            }
            tape.advance();
            int one = readPerson(tale, 0);
            tale.talkOther[t] = readPerson(tale, bit(one) | tale.talkersWith(one));
            tale.talkOne[t] = one;
            tale.talks++;
        }

        private void readPriceLine(Tale tale) {
            int i = tale.prices;
            if (i < 0 || i >= MOST_PRICES) {
                refuse(2);
                return;
            }
            tape.advance();
            int dayPlace = tape.start;
            int from = readNumber(0, 400);
            if (tale.hasPriceFrom(from)) {
                refuseAt(4, dayPlace);
            }
            tale.priceDay[i] = from;
            tale.price[i] = readNumber(0, 99);
            tale.prices++;
        }

        private void readKeepsLine(Tale tale) {
            if (tale.ruled) {
                refuse(5);
                return;
            }
            tape.advance();
            tale.ruled = true;
            wantsPart = true;
            mayNot = true;
            depth = 0;
            nots = 0;
            for (int i = 0; i < MOST_BYTES && wrong == 0; i++) {
                if (wantsPart) {
                    readPart(tale.rule);
                } else if (depth == 0 && tape.isSign(';')) {
                    break;
                } else {
                    readJoint(tale.rule);
                }
            }
            tale.rule.settle(Rule.WEAKEST);
        }

        private void readPart(Rule rule) {
            if (tape.kind != Tape.NUMBER && tape.kind != Tape.WORD && !tape.isSign('(')) {
                refuse(1);
            } else if (depth >= MOST_DEPTH) {
                // No TOKEN goes by at this depth, so this one is its EXPR's first.
                refuse(2);
            } else if (mayNot && tape.isWord("not")) {
                readNot(rule);
            } else if (tape.isSign('(')) {
                rule.hold(Rule.OPEN);
                depth++;
                expectPart(true);
                tape.advance();
            } else {
                readLeaf(rule);
            }
        }

        private void readNot(Rule rule) {
            if (nots >= MOST_NOTS) {
                refuse(2);
                return;
            }
            nots++;
            rule.hold(Rule.NOT);
            tape.advance();
        }

        private void readLeaf(Rule rule) {
            int step = tape.kind == Tape.NUMBER ? tape.number : Rule.valueNamed(tape);
            if (step == Rule.NO_STEP) {
                refuse(3);
            } else if (step >= Tape.TOO_LONG) {
                refuse(2);
            } else {
                rule.add(step);
                wantsPart = false;
                tape.advance();
            }
        }

        private void readJoint(Rule rule) {
            int step = Rule.jointNamed(tape);
            if (step == Rule.NO_STEP) {
                readClosing(rule);
                return;
            }
            int strength = Rule.strengthOf(step);
            boolean test = strength == Rule.TEST_STRENGTH;
            rule.settle(test ? strength + 1 : strength);
            if (test && rule.heldStrength() == strength) {
                refuse(1);
                return;
            }
            rule.hold(step);
            expectPart(strength < Rule.TEST_STRENGTH);
            tape.advance();
        }

        private void readClosing(Rule rule) {
            if (depth <= 0 || !tape.isSign(')')) {
                refuse(1);
                return;
            }
            rule.settle(Rule.WEAKEST);
            rule.dropOpen();
            depth--;
            tape.advance();
        }

        private void expectPart(boolean notToo) {
            wantsPart = true;
            mayNot = notToo;
            nots = 0;
        }

        private int readNumber(int least, int most) {
            if (wrong != 0) {
                return 0;
            }
            int number = tape.number;
            if (tape.kind != Tape.NUMBER) {
                refuse(1);
            } else if (number < least || number > most) {
                refuse(2);
            } else {
                tape.advance();
                return number;
            }
            return 0;
        }

        /** A PERSON told ahead who is none of the barred ones (bits); NONE behind a FAULT. */
        private int readPerson(Tale tale, int barred) {
            if (wrong != 0) {
                return NONE;
            }
            int number = tape.number;
            if (tape.kind != Tape.NUMBER) {
                refuse(1);
            } else if (number >= Tape.TOO_LONG) {
                refuse(2);
            } else if (number >= tale.people) {
                refuse(3);
            } else if (has(barred, number)) {
                refuse(4);
            } else {
                tape.advance();
                return number;
            }
            return NONE;
        }

        private static int bit(int p) {
            return p >= 0 && p < MOST_PEOPLE ? 1 << p : 0;
        }

        private void needSemicolon() {
            if (wrong != 0) {
                return;
            }
            if (tape.isSign(';')) {
                tape.advance();
            } else {
                refuse(1);
            }
        }

        private void refuse(int why) {
            refuseAt(why, tape.start);
        }

        /** The first FAULT along the text is the one that counts. */
        private void refuseAt(int why, int where) {
            if (wrong == 0) {
                wrong = why;
                place = where;
            }
        }
    }

    /** The rule of KEEPS: steps on a stack, a NUMBER being its own step and all others below 0. */
    private static final class Rule {
        static final int SALT = -1;
        static final int WEIGHT = -2;
        static final int AGE = -3;
        static final int TOLD = -4;
        static final int FACTS = -5;
        static final int TABLE = -6;
        static final int DAY = -7;
        static final int NOT = -8;
        static final int OR = -9;
        static final int AND = -10;
        static final int LESS = -11;
        static final int SAME = -12;
        static final int PLUS = -13;
        static final int MINUS = -14;
        static final int TIMES = -15;
        static final int BY = -16;
        static final int OPEN = -17;
        static final int NO_STEP = -18;
        static final int WEAKEST = 1;
        static final int TEST_STRENGTH = 4;
        /** Six EXPRs in one another leave at most 31 open values, and 72 steps that wait. */
        static final int MOST_OPEN = 40;
        static final int MOST_HELD = 80;

        final int[] steps = new int[MOST_BYTES];
        int length;
        final int[] values = new int[1 - DAY];
        final int[] stack = new int[MOST_OPEN];
        final int[] held = new int[MOST_HELD];
        int waiting;

        static int valueNamed(Tape tape) {
            if (tape.isWord("salt")) {
                return SALT;
            } else if (tape.isWord("weight")) {
                return WEIGHT;
            } else if (tape.isWord("age")) {
                return AGE;
            } else if (tape.isWord("told")) {
                return TOLD;
            } else if (tape.isWord("facts")) {
                return FACTS;
            } else if (tape.isWord("table")) {
                return TABLE;
            }
            return tape.isWord("day") ? DAY : NO_STEP;
        }

        static int jointNamed(Tape tape) {
            if (tape.isWord("or")) {
                return OR;
            } else if (tape.isWord("and")) {
                return AND;
            } else if (tape.isSign('<')) {
                return LESS;
            } else if (tape.isSign('=')) {
                return SAME;
            } else if (tape.isSign('+')) {
                return PLUS;
            } else if (tape.isSign('-')) {
                return MINUS;
            } else if (tape.isSign('*')) {
                return TIMES;
            }
            return tape.isSign('/') ? BY : NO_STEP;
        }

        static int strengthOf(int step) {
            switch (step) {
                case OR:
                    return WEAKEST;
                case AND:
                    return 2;
                case NOT:
                    return 3;
                case LESS:
                case SAME:
                    return TEST_STRENGTH;
                case PLUS:
                case MINUS:
                    return 5;
                case TIMES:
                case BY:
                    return 6;
                default:
                    return 0;
            }
        }

        void clearAll() {
            length = 0;
            waiting = 0;
        }

        void add(int step) {
            if (length >= 0 && length < MOST_BYTES) {
                steps[length] = step;
                length++;
            }
        }

        /** Keeps a step back until what it joins is read. */
        void hold(int step) {
            if (waiting >= 0 && waiting < MOST_HELD) {
                held[waiting] = step;
                waiting++;
            }
        }

        int heldStrength() {
            return waiting > 0 && waiting <= MOST_HELD ? strengthOf(held[waiting - 1]) : 0;
        }

        /** Adds the steps that wait and bind so strongly, up to the latest open parenthesis. */
        void settle(int strength) {
            for (int i = 0; i < MOST_HELD && waiting > 0 && heldStrength() >= strength; i++) {
                waiting--;
                add(held[waiting]);
            }
        }

        void dropOpen() {
            if (waiting > 0 && heldStrength() == 0) {
                waiting--;
            }
        }

        void setValue(int value, int number) {
            if (value < 0 && value >= DAY) {
                values[-value] = number;
            }
        }

        int result() {
            int top = 0;
            for (int i = 0; i < length && i < MOST_BYTES; i++) {
                int step = steps[i];
                if (step >= DAY) {
                    if (top < MOST_OPEN) {
                        stack[top] = step >= 0 ? step : values[-step];
                        top++;
                    }
                } else if (step == NOT) {
                    if (top >= 1) {
                        stack[top - 1] = stack[top - 1] == 0 ? 1 : 0;
                    }
                } else if (top >= 2) {
                    top--;
                    stack[top - 1] = joined(step, stack[top - 1], stack[top]);
                }
            }
            return top >= 1 ? stack[0] : 0;
        }

        private static int joined(int step, int a, int b) {
            switch (step) {
                case OR:
                    return a != 0 || b != 0 ? 1 : 0;
                case AND:
                    return a != 0 && b != 0 ? 1 : 0;
                case LESS:
                    return a < b ? 1 : 0;
                case SAME:
                    return a == b ? 1 : 0;
                case PLUS:
                    return a + b;
                case MINUS:
                    return a - b;
                case TIMES:
                    return a * b;
                default:
                    return b == 0 ? 0 : a / b;
            }
        }
    }

    /** What a TEXT tells; it stays until the next one. */
    private static final class Tale {
        static final int FIRST_PRICE = 5;

        int people;
        int facts;
        int talks;
        int prices;
        boolean ruled;
        final int[] purse = new int[MOST_PEOPLE];
        final int[] table = new int[MOST_PEOPLE];
        final int[] day = new int[MOST_FACTS];
        final int[] weight = new int[MOST_FACTS];
        final int[] learners = new int[MOST_FACTS];
        final int[] debtor = new int[MOST_FACTS];
        final int[] creditor = new int[MOST_FACTS];
        final int[] amount = new int[MOST_FACTS];
        final int[] talkOne = new int[MOST_TALKS];
        final int[] talkOther = new int[MOST_TALKS];
        final int[] priceDay = new int[MOST_PRICES];
        final int[] price = new int[MOST_PRICES];
        final Rule rule = new Rule();

        void clearAll() {
            people = 0;
            facts = 0;
            talks = 0;
            prices = 0;
            ruled = false;
            rule.clearAll();
        }

        int allFacts() {
            return (1 << facts) - 1;
        }

        int weightOf(int bits) {
            int sum = 0;
            for (int f = 0; f < facts; f++) {
                if (has(bits, f)) {
                    sum += weight[f];
                }
            }
            return sum;
        }

        boolean hasPriceFrom(int from) {
            for (int i = 0; i < prices; i++) {
                if (priceDay[i] == from) {
                    return true;
                }
            }
            return false;
        }

        int priceOn(int today) {
            int latest = NONE;
            int asked = FIRST_PRICE;
            for (int i = 0; i < prices; i++) {
                if (priceDay[i] <= today && priceDay[i] > latest) {
                    latest = priceDay[i];
                    asked = price[i];
                }
            }
            return asked;
        }

        int talkersWith(int p) {
            int bits = 0;
            for (int i = 0; i < talks; i++) {
                if (talkOne[i] == p) {
                    bits |= 1 << talkOther[i];
                }
                if (talkOther[i] == p) {
                    bits |= 1 << talkOne[i];
                }
            }
            return bits;
        }

        /** By how many TALKS each one can be reached from some (bits), NONE if not at all. */
        void measureTalks(int from, int[] distance) {
            int reached = from;
            for (int p = 0; p < people && p < distance.length; p++) {
                distance[p] = has(from, p) ? 0 : NONE;
            }
            for (int step = 1; step < MOST_PEOPLE; step++) {
                int next = reached;
                for (int p = 0; p < people && p < distance.length; p++) {
                    if (!has(reached, p) && (talkersWith(p) & reached) != 0) {
                        distance[p] = step;
                        next |= 1 << p;
                    }
                }
                reached = next;
            }
        }

        boolean isHeld(int f, int recallers) {
            if (f < 0 || f >= facts || debtor[f] < 0) {
                return false;
            }
            int both = 1 << debtor[f] | 1 << creditor[f];
            return (recallers & ~both) != 0 || (recallers & both) == both;
        }
    }

    /** What changes by DAYS and ACTS. */
    private static final class Minds {
        static final int CODES = MOST_PEOPLE * MOST_FACTS;
        static final int SIZE = 1 + 3 * MOST_PEOPLE + CODES;

        int today;
        final int[] purse = new int[MOST_PEOPLE];
        final int[] table = new int[MOST_PEOPLE];
        final int[] grains = new int[MOST_PEOPLE];
        /** Per PERSON and FACT as until() answers: NONE, UNTIL, or -2 less UNTIL of what was told. */
        final int[] codes = new int[CODES];
        final int[] bought = new int[TABLES];
        final int[] company = new int[TABLES];

        Minds() {
            for (int i = 0; i < CODES; i++) {
                codes[i] = NONE;
            }
        }

        void beginAnew(Tale tale) {
            today = 0;
            System.arraycopy(tale.purse, 0, purse, 0, MOST_PEOPLE);
            System.arraycopy(tale.table, 0, table, 0, MOST_PEOPLE);
            Arrays.fill(grains, 0);
            Arrays.fill(codes, NONE);
        }

        void copyAll(Minds other) {
            today = other.today;
            System.arraycopy(other.purse, 0, purse, 0, MOST_PEOPLE);
            System.arraycopy(other.table, 0, table, 0, MOST_PEOPLE);
            System.arraycopy(other.grains, 0, grains, 0, MOST_PEOPLE);
            System.arraycopy(other.codes, 0, codes, 0, CODES);
        }

        /** Enough for one who is ALONE. */
        void copyPerson(Minds other, int p) {
            today = other.today;
            for (int f = 0; f < MOST_FACTS; f++) {
                setCode(p, f, other.codeOf(p, f));
            }
        }

        void writeTo(int[] rows, int at) {
            if (at < 0 || at + SIZE > rows.length) {
                return;
            }
            rows[at] = today;
            System.arraycopy(purse, 0, rows, at + 1, MOST_PEOPLE);
            System.arraycopy(table, 0, rows, at + 1 + MOST_PEOPLE, MOST_PEOPLE);
            System.arraycopy(grains, 0, rows, at + 1 + 2 * MOST_PEOPLE, MOST_PEOPLE);
            System.arraycopy(codes, 0, rows, at + 1 + 3 * MOST_PEOPLE, CODES);
        }

        void readFrom(int[] rows, int at) {
            if (at < 0 || at + SIZE > rows.length) {
                return;
            }
            today = rows[at];
            System.arraycopy(rows, at + 1, purse, 0, MOST_PEOPLE);
            System.arraycopy(rows, at + 1 + MOST_PEOPLE, table, 0, MOST_PEOPLE);
            System.arraycopy(rows, at + 1 + 2 * MOST_PEOPLE, grains, 0, MOST_PEOPLE);
            System.arraycopy(rows, at + 1 + 3 * MOST_PEOPLE, codes, 0, CODES);
        }

        int codeOf(int p, int f) {
            int at = p * MOST_FACTS + f;
            return at >= 0 && at < CODES ? codes[at] : NONE;
        }

        private void setCode(int p, int f, int code) {
            int at = p * MOST_FACTS + f;
            if (at >= 0 && at < CODES) {
                codes[at] = code;
            }
        }

        private static boolean isTold(int code) {
            return code < NONE;
        }

        private static int lastDay(int code) {
            return isTold(code) ? -2 - code : code;
        }

        boolean recalls(int p, int f) {
            return codeOf(p, f) != NONE;
        }

        int factsOf(int p) {
            int bits = 0;
            for (int f = 0; f < MOST_FACTS; f++) {
                if (codeOf(p, f) != NONE) {
                    bits |= 1 << f;
                }
            }
            return bits;
        }

        int factsOfAll() {
            int bits = 0;
            for (int p = 0; p < MOST_PEOPLE; p++) {
                bits |= factsOf(p);
            }
            return bits;
        }

        int whoRecalls(int f) {
            int bits = 0;
            for (int p = 0; p < MOST_PEOPLE; p++) {
                if (codeOf(p, f) != NONE) {
                    bits |= 1 << p;
                }
            }
            return bits;
        }

        int recalledInAll() {
            int sum = 0;
            for (int p = 0; p < MOST_PEOPLE; p++) {
                sum += Integer.bitCount(factsOf(p));
            }
            return sum;
        }

        /** Whether somebody has all that he recalls UNTIL a DAY at least. */
        boolean isSure(int p, int day) {
            for (int f = 0; f < MOST_FACTS; f++) {
                if (recalls(p, f) && lastDay(codeOf(p, f)) < day) {
                    return false;
                }
            }
            return true;
        }

        void hear(int p, int f) {
            setCode(p, f, -2 - today);
        }

        void tellAll(int from, int to) {
            for (int f = 0; f < MOST_FACTS; f++) {
                if (recalls(from, f) && !recalls(to, f)) {
                    hear(to, f);
                }
            }
        }

        /** A DAY, on which a sick one (or NONE) has no GRAINS: how often a FACT was forgotten. */
        int passDay(Tale tale, int sickOne) {
            buyGrains(tale, sickOne);
            learnToday(tale);
            for (int p = 0; p < tale.people; p++) {
                int seat = seatOf(p);
                int share = company[seat] == 0 ? 0 : bought[seat] / company[seat];
                keepFacts(tale, p, p == sickOne ? 0 : share, company[seat]);
            }
            return passMidnight(tale);
        }

        private int seatOf(int p) {
            int seat = p >= 0 && p < MOST_PEOPLE ? table[p] : 0;
            return seat >= 0 && seat < TABLES ? seat : 0;
        }

        private void buyGrains(Tale tale, int sickOne) {
            Arrays.fill(bought, 0);
            Arrays.fill(company, 0);
            int price = tale.priceOn(today);
            for (int p = 0; p < tale.people; p++) {
                int many = grains[p];
                if (p == sickOne) {
                    many = 0;
                } else if (price > 0) {
                    many = Math.min(many, purse[p] / price);
                }
                purse[p] -= many * price;
                bought[seatOf(p)] += many;
                company[seatOf(p)]++;
            }
        }

        void learnToday(Tale tale) {
            for (int f = 0; f < tale.facts; f++) {
                if (tale.day[f] == today) {
                    for (int p = 0; p < tale.people; p++) {
                        if (has(tale.learners[f], p)) {
                            learn(p, f);
                        }
                    }
                }
            }
        }

        private void learn(int p, int f) {
            int code = codeOf(p, f);
            setCode(p, f, code == NONE ? today : lastDay(code));
        }

        /** KEEPS for each FACT of somebody who has eaten so much among so many. */
        void keepFacts(Tale tale, int p, int eaten, int many) {
            Rule rule = tale.rule;
            rule.setValue(Rule.SALT, eaten);
            rule.setValue(Rule.FACTS, Integer.bitCount(factsOf(p)));
            rule.setValue(Rule.TABLE, many);
            rule.setValue(Rule.DAY, today);
            for (int f = 0; f < tale.facts; f++) {
                int code = codeOf(p, f);
                if (code != NONE) {
                    int kept = 2 * eaten;
                    if (tale.ruled) {
                        rule.setValue(Rule.WEIGHT, tale.weight[f]);
                        rule.setValue(Rule.AGE, today - tale.day[f]);
                        rule.setValue(Rule.TOLD, isTold(code) ? 1 : 0);
                        kept = Math.max(0, Math.min(99, rule.result()));
                    }
                    int last = Math.max(lastDay(code), today + kept);
                    setCode(p, f, isTold(code) ? -2 - last : last);
                }
            }
        }

        int passMidnight(Tale tale) {
            today++;
            int forgotten = 0;
            for (int p = 0; p < tale.people; p++) {
                forgotten += loseFacts(p);
            }
            return forgotten;
        }

        private int loseFacts(int p) {
            int lost = 0;
            for (int f = 0; f < MOST_FACTS; f++) {
                if (recalls(p, f) && lastDay(codeOf(p, f)) < today) {
                    setCode(p, f, NONE);
                    lost++;
                }
            }
            return lost;
        }

        /** A DAY of somebody ALONE; nothing of the others is looked at. */
        void passAlone(Tale tale, int p, int eaten) {
            keepFacts(tale, p, eaten, 1);
            today++;
            loseFacts(p);
        }
    }

    /** How all was ahead of each ACT that is kept. */
    private static final class History {
        final int[] rows = new int[MOST_ACTS * Minds.SIZE];
        int kept;

        void push(Minds minds) {
            if (kept >= MOST_ACTS) {
                System.arraycopy(rows, Minds.SIZE, rows, 0, (MOST_ACTS - 1) * Minds.SIZE);
                kept = MOST_ACTS - 1;
            }
            minds.writeTo(rows, kept * Minds.SIZE);
            kept++;
        }

        void popInto(Minds minds) {
            if (kept > 0) {
                kept--;
                minds.readFrom(rows, kept * Minds.SIZE);
            }
        }

        void copyAll(History other) {
            System.arraycopy(other.rows, 0, rows, 0, MOST_ACTS * Minds.SIZE);
            kept = other.kept;
        }
    }

    /** What is SEEN. */
    private static final class Court {
        final int[] who = new int[MOST_SEEN];
        final int[] which = new int[MOST_SEEN];
        final boolean[] recalled = new boolean[MOST_SEEN];
        int seen;

        void add(int p, int f, boolean recalls) {
            if (seen >= 0 && seen < MOST_SEEN) {
                who[seen] = p;
                which[seen] = f;
                recalled[seen] = recalls;
                seen++;
            }
        }

        /** Whether all that is SEEN of somebody is so, if these FACTS are what he will recall. */
        boolean fits(int p, int facts) {
            for (int i = 0; i < seen && i < MOST_SEEN; i++) {
                if (who[i] == p && has(facts, which[i]) != recalled[i]) {
                    return false;
                }
            }
            return true;
        }

        void copyAll(Court other) {
            for (int i = 0; i < MOST_SEEN; i++) {
                who[i] = other.who[i];
                which[i] = other.which[i];
                recalled[i] = other.recalled[i];
            }
            seen = other.seen;
        }
    }

    /** The search for CHEAPEST, and its row that is kept. */
    private static final class Diet {
        final Minds[] levels = new Minds[MOST_DIET_DAYS + 1];
        final int[] tried = new int[MOST_DIET_DAYS];
        final int[] best = new int[MOST_DIET_DAYS];
        int bestCost;
        int length;

        Diet() {
            for (int i = 0; i <= MOST_DIET_DAYS; i++) {
                levels[i] = new Minds();
            }
        }

        int searchFor(Tale tale, Minds now, int p, int facts, int n) {
            bestCost = NONE;
            levels[0].copyPerson(now, p);
            tryDay(tale, p, facts, Math.min(n, MOST_DIET_DAYS), 0, 0);
            if (bestCost != NONE) {
                length = n;
            }
            return bestCost;
        }

        /** Rows come in their order, so one that costs as much as an earlier one is never better. */
        private void tryDay(Tale tale, int p, int facts, int n, int depth, int cost) {
            if (depth >= n) {
                bestCost = cost;
                System.arraycopy(tried, 0, best, 0, MOST_DIET_DAYS);
                return;
            }
            int price = tale.priceOn(levels[depth].today);
            for (int g = 0; g <= MOST_DIET_GRAINS; g++) {
                int paid = cost + g * price;
                if (bestCost != NONE && paid >= bestCost) {
                    break;
                }
                tried[depth] = g;
                levels[depth + 1].copyPerson(levels[depth], p);
                levels[depth + 1].passAlone(tale, p, g);
                if ((facts & ~levels[depth + 1].factsOf(p)) == 0) {
                    tryDay(tale, p, facts, n, depth + 1, paid);
                }
            }
        }
    }

    /** RATIONS: who is given how much, and the row that is kept. */
    private static final class Rations {
        /** By PERSON and GRAINS: the WEIGHTS that he recalls then. */
        final int[][] worth = new int[MOST_PEOPLE][MOST_GRAINS + 1];
        /** By the first of some last PEOPLE and just so many GRAINS: the most that they recall, or NONE. */
        final int[][] most = new int[MOST_PEOPLE + 1][MOST_RATIONS + 1];
        final int[] given = new int[MOST_PEOPLE];
        boolean kept;

        int divide(int people, int g) {
            for (int r = 0; r <= MOST_RATIONS; r++) {
                most[people][r] = r == 0 ? 0 : NONE;
            }
            for (int p = people - 1; p >= 0; p--) {
                for (int r = 0; r <= g; r++) {
                    most[p][r] = mostOf(p, r);
                }
            }
            int used = 0;
            for (int r = 1; r <= g; r++) {
                if (most[0][r] > most[0][used]) {
                    used = r;
                }
            }
            giveOut(people, used);
            kept = true;
            return most[0][used];
        }

        private int mostOf(int p, int r) {
            int best = NONE;
            for (int x = 0; x <= MOST_GRAINS && x <= r; x++) {
                best = Math.max(best, sumWith(p, r, x));
            }
            return best;
        }

        private int sumWith(int p, int r, int x) {
            int rest = most[p + 1][r - x];
            return rest == NONE ? NONE : worth[p][x] + rest;
        }

        private void giveOut(int people, int used) {
            int left = used;
            for (int p = 0; p < people; p++) {
                int x = 0;
                while (x < MOST_GRAINS && x < left && sumWith(p, left, x) != most[p][left]) {
                    x++;
                }
                given[p] = x;
                left -= x;
            }
        }
    }

    /** MERCHANTS who sell to PURSES. */
    private static final class Market {
        static final int MOST_EACH = 10;
        static final int MOST_ASKED = 9;
        static final int COST = 2;

        /** What a merchant gains by each PRICE, if all buy of him. */
        final int[] gain = new int[MOST_ASKED + 1];
        int resting;
        int first;

        int soldAt(int price, Minds minds, int people) {
            int sold = 0;
            for (int p = 0; p < people && p < MOST_PEOPLE; p++) {
                sold += price <= 0 ? MOST_EACH : Math.min(MOST_EACH, minds.purse[p] / price);
            }
            return sold;
        }

        void ask(Minds minds, int people) {
            for (int price = 1; price <= MOST_ASKED; price++) {
                gain[price] = (price - COST) * soldAt(price, minds, people);
            }
            resting = 0;
            first = NONE;
            for (int a = 1; a <= MOST_ASKED; a++) {
                for (int b = 1; b <= MOST_ASKED; b++) {
                    if (isResting(a, b)) {
                        resting++;
                        first = first == NONE ? 10 * a + b : first;
                    }
                }
            }
        }

        private boolean isResting(int a, int b) {
            for (int other = 1; other <= MOST_ASKED; other++) {
                if (firstGains(other, b) > firstGains(a, b) || secondGains(a, other) > secondGains(a, b)) {
                    return false;
                }
            }
            return true;
        }

        private int firstGains(int a, int b) {
            return a <= b ? gain[a] : 0;
        }

        private int secondGains(int a, int b) {
            return b < a ? gain[b] : 0;
        }
    }
}
