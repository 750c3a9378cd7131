import java.util.NoSuchElementException;
import java.util.Random;

/** Random runs of calls (always the same ones), answered by SaltMinds and by the Model alike. */
public final class ModelTest {
    private static final String[] NAMES = {"feed", "salt", "fault", "count", "person", "fact", "until", "grains", "sit", "tell",
        "days", "undo", "ahead", "blank", "enough", "cheapest", "row", "witnesses", "rations", "ration", "steps", "teller",
        "gathering", "holds", "owed", "profits", "see", "forget", "ate", "blamed", "merchants", "corner", "season", "feast",
        "sick", "spent", "image", "restore"};
    private static final Checks c = new Checks();

    public static void main(String[] args) {
        int runs = args.length > 0 ? Integer.parseInt(args[0]) : 400;
        int from = args.length > 1 ? Integer.parseInt(args[1]) : 0;
        for (int run = from; run < from + runs; run++) {
            new ModelTest(run).play();
        }
        for (int run = from; run < from + 10 * runs; run++) {
            new ModelTest(run).readTexts();
        }
        c.end();
    }

    private final int run;
    private final Random random;
    private final SaltMinds x = new SaltMinds();
    private final Model m = new Model();
    /** An object is used for at most 512 calls; what later ones answer is free. */
    private int calls = 0;

    private ModelTest(int run) {
        this.run = run;
        this.random = new Random(run);
    }

    private int up(int n) {
        return random.nextInt(n);
    }

    private String say() {
        StringBuilder b = new StringBuilder();
        int people = up(5) == 0 ? up(7) : 2 + up(4);
        for (int p = 0; p < people; p++) {
            b.append("person ").append(up(3) == 0 ? up(10000) : up(120)).append(' ').append(up(4)).append(';');
        }
        int facts = people == 0 ? 0 : up(9) + up(3);
        for (int f = 0; f < facts; f++) {
            b.append("fact ").append(up(5)).append(' ').append(1 + up(9));
            int from = up(people);
            for (int i = 0; i <= up(3) && i < people; i++) {
                b.append(' ').append((from + i) % people);
            }
            if (people > 1 && up(2) == 0) {
                int a = up(people);
                b.append(" debt ").append(a).append(' ').append((a + 1 + up(people - 1)) % people).append(' ').append(1 + up(60));
            }
            b.append(';');
        }
        for (int a = 0; a < people; a++) {
            for (int o = a + 1; o < people; o++) {
                if (up(3) == 0 && b.length() < 450) {
                    b.append("talk ").append(up(2) == 0 ? a + " " + o : o + " " + a).append(';');
                }
            }
        }
        for (int i = up(4); i > 0; i--) {
            b.append("price ").append(i * 2 + up(2)).append(' ').append(up(20)).append(';');
        }
        if (up(5) != 0) {
            b.append("keeps ").append(up(2) == 0 ? "salt*2+" : up(2) == 0 ? "salt+" : "").append(sayExpr(3)).append(';');
        }
        return b.toString();
    }

    private String sayExpr(int deep) {
        int kind = deep == 0 ? up(2) : up(9);
        switch (kind) {
            case 0:
                return "" + up(up(4) == 0 ? 10000 : 7);
            case 1:
            case 2:
                return Model.VALUES[up(7)];
            case 3:
                return "(" + sayExpr(deep - 1) + ")";
            case 4:
                return "(not " + sayExpr(deep - 1) + (up(2) == 0 ? " and " : " or ") + sayExpr(deep - 1) + ")";
            case 5:
                return "(" + sayExpr(deep - 1) + (up(2) == 0 ? "<" : "=") + sayExpr(deep - 1) + ")";
            default:
                return sayExpr(deep - 1) + "+-*/".charAt(up(4)) + sayExpr(deep - 1);
        }
    }

    /** A text with a place that is changed, so that some FAULT comes about (or none). */
    private String spoil(String text) {
        String[] bits = {";", "(", ")", "not ", " not not not ", "12345", " 9 ", "0", " salt ", " pepper ", "<", "=", "+", "and ", "or ",
            "person 5 0;", "fact 0 1 0;", "talk 0 1;", "price 2 2;", "keeps 1;", "debt 0 1 5", "%", "\n", "((((((", "A", "\u00e9"};
        StringBuilder b = new StringBuilder(text);
        for (int i = 1 + up(3); i > 0 && b.length() > 0; i--) {
            int at = up(b.length());
            if (up(3) != 0) {
                b.insert(at, bits[up(bits.length)]);
            } else {
                b.delete(at, Math.min(b.length(), at + 1 + up(4)));
            }
        }
        return b.toString();
    }

    private void feedBoth(String text) {
        for (int at = 0; at < text.length(); at += 20) {
            int[] words = new int[5];
            for (int i = 0; i < 20; i++) {
                words[i / 4] = words[i / 4] << 8 | (at + i < text.length() ? text.charAt(at + i) & 255 : ' ');
            }
            calls++;
            c.due("run " + run + " feed", x.feed(words[0], words[1], words[2], words[3], words[4]), m.feed(words));
        }
    }

    private void saltBoth(String text) {
        feedBoth(text);
        int n = Math.min(text.length(), m.tape.length());
        c.due("run " + run + " salt of " + text, x.salt(n), m.salt(n));
        c.due("run " + run + " fault of " + text, x.fault(), m.fault());
        calls += 2;
        if (calls > 512) {
            throw new IllegalStateException("run " + run + " has more than 512 calls");
        }
    }

    private void readTexts() {
        for (int i = 0; i < 4; i++) {
            saltBoth(spoil(say()));
            for (int f = 0; f < 3; f++) {
                both(10, 1 + up(2), 0, 0, true);
                both(3, 12, 0, 0, true);
                both(6, up(3), up(3), 0, true);
            }
        }
    }

    private void play() {
        saltBoth(say());
        for (int call = 0; call < 400 && calls < 440; call++) {
            int which = up(4) == 0 ? 7 + up(4) : 3 + up(35);
            // These would take long, or take too much away, if they came as often as the others.
            if (which == 15 && up(4) != 0 || which == 37 && up(3) != 0 || which == 27 && up(3) != 0) {
                continue;
            }
            if (up(6) == 0) {
                both(which, wild(), wild(), wild(), up(2) == 0);
            } else {
                int[] a = fitting(which);
                both(which, a[0], a[1], a[2], up(2) == 0);
            }
            if (up(150) == 0) {
                saltBoth(up(2) == 0 ? spoil(say()) : say());
            }
        }
    }

    private int wild() {
        int kind = up(20);
        return kind == 0 ? random.nextInt() : kind == 1 ? up(130) - 3 : kind < 5 ? up(22) - 1 : up(6);
    }

    private int who() {
        return up(Math.max(1, m.w.people.size()));
    }

    private int which() {
        return up(Math.max(1, m.w.facts.size()));
    }

    private int often(int most) {
        return up(4) == 0 ? up(most + 1) : up(Math.min(most, 12) + 1);
    }

    /** Arguments that mostly are as the call wants them. */
    private int[] fitting(int which) {
        int p = who();
        int f = which();
        int what = up(2);
        int set = up(1 << m.w.facts.size());
        switch (which) {
            case 3: return new int[] {up(13), 0, 0};
            case 4: return new int[] {p, up(4), 0};
            case 5: return new int[] {f, up(7), 0};
            case 7: return new int[] {p, up(8), 0};
            case 8: return new int[] {p, up(up(2) == 0 ? 2 : 4), 0};
            case 9: return new int[] {f, p, who()};
            case 10: return new int[] {1 + (up(12) == 0 ? up(100) : up(3)), 0, 0};
            case 12: return new int[] {f, often(100), 0};
            case 13: return new int[] {often(40), what, 0};
            case 14: return new int[] {p, f, 1 + often(99)};
            case 15: return new int[] {p, set & (m.w.people.isEmpty() ? 0 : m.s.bitsOf(p)), 1 + up(5)};
            case 17: return new int[] {set & up(1 << m.w.facts.size()), up(21), 1 + often(99)};
            case 18: return new int[] {up(31), 1 + often(99), 0};
            case 20: return new int[] {f, p, 0};
            case 21: case 23: return new int[] {f, 0, 0};
            case 22: return new int[] {up(4), 0, 0};
            case 25: case 35: return new int[] {often(100), 0, 0};
            case 28: return new int[] {p, what, 0};
            case 30: return new int[] {what, 0, 0};
            case 31: return new int[] {often(60), 0, 0};
            case 32: return new int[] {random.nextInt(), often(60), up(m.w.people.size() + 1)};
            case 33: return new int[] {up(121), 0, 0};
            case 34: return new int[] {p, 1 + often(99), 0};
            default: return new int[] {p, f, 0};
        }
    }

    private void both(int which, int first, int b, int d, boolean e) {
        // The Model tries all rows of rations, which are too many for more people or grains.
        int[] mostTried = {30, 30, 30, 30, 14, 9, 7};
        int a = which == 18 && first <= 30 ? Math.min(first, mostTried[m.w.people.size()]) : first;
        String what = "run " + run + " " + NAMES[which] + "(" + a + ", " + b + ", " + d + ", " + e + ")";
        c.due(what, ofProgram(which, a, b, d, e), ofModel(which, a, b, d, e));
        if (which == 15 || which == 18) {
            for (int i = 0; i < 6; i++) {
                c.due(what + " row " + i, ofProgram(which + 1, i, 0, 0, e), ofModel(which + 1, i, 0, 0, e));
            }
        }
    }

    private static final long NO_SUCH = 1L << 40;
    private static final long ILLEGAL = 1L << 41;

    private long ofProgram(int which, int a, int b, int d, boolean e) {
        try {
            return program(which, a, b, d, e);
        } catch (NoSuchElementException t) {
            return NO_SUCH;
        } catch (IllegalArgumentException t) {
            return ILLEGAL;
        }
    }

    private long ofModel(int which, int a, int b, int d, boolean e) {
        try {
            return model(which, a, b, d, e);
        } catch (NoSuchElementException t) {
            return NO_SUCH;
        } catch (IllegalArgumentException t) {
            return ILLEGAL;
        }
    }

    private long program(int which, int a, int b, int d, boolean e) {
        calls++;
        switch (which) {
            case 3: return x.count(a);
            case 4: return x.person(a, b);
            case 5: return x.fact(a, b);
            case 6: return x.until(a, b);
            case 7: return x.grains(a, b);
            case 8: return x.sit(a, b);
            case 9: return x.tell(a, b, d) ? 1 : 0;
            case 10: return x.days(a);
            case 11: return x.undo();
            case 12: return x.ahead(a, b);
            case 13: return x.blank(a, b);
            case 14: return x.enough(a, b, d);
            case 15: return x.cheapest(a, b, d);
            case 16: return x.row(a);
            case 17: return x.witnesses(a, b, d);
            case 18: return x.rations(a, b);
            case 19: return x.ration(a);
            case 20: return x.steps(a, b);
            case 21: return x.teller(a);
            case 22: return x.gathering(a);
            case 23: return x.holds(a) ? 1 : 0;
            case 24: return x.owed(a);
            case 25: return x.profits(a);
            case 26: return x.see(a, b, e);
            case 27: x.forget(); return 0;
            case 28: return x.ate(a, b);
            case 29: return x.blamed();
            case 30: return x.merchants(a);
            case 31: return x.corner(a);
            case 32: return x.season(a, b, d - 1);
            case 33: return x.feast(a);
            case 34: return x.sick(a, b);
            case 35: return x.spent(a);
            case 36: x.image(); return 0;
            default: return x.restore() ? 1 : 0;
        }
    }

    private long model(int which, int a, int b, int d, boolean e) {
        switch (which) {
            case 3: return m.count(a);
            case 4: return m.person(a, b);
            case 5: return m.fact(a, b);
            case 6: return m.until(a, b);
            case 7: return m.grains(a, b);
            case 8: return m.sit(a, b);
            case 9: return m.tell(a, b, d) ? 1 : 0;
            case 10: return m.days(a);
            case 11: return m.undo();
            case 12: return m.ahead(a, b);
            case 13: return m.blank(a, b);
            case 14: return m.enough(a, b, d);
            case 15: return m.cheapest(a, b, d);
            case 16: return m.row(a);
            case 17: return m.witnesses(a, b, d);
            case 18: return m.rations(a, b);
            case 19: return m.ration(a);
            case 20: return m.steps(a, b);
            case 21: return m.teller(a);
            case 22: return m.gathering(a);
            case 23: return m.holds(a) ? 1 : 0;
            case 24: return m.owed(a);
            case 25: return m.profits(a);
            case 26: return m.see(a, b, e);
            case 27: m.forget(); return 0;
            case 28: return m.ate(a, b);
            case 29: return m.blamed();
            case 30: return m.merchants(a);
            case 31: return m.corner(a);
            case 32: return m.season(a, b, d - 1);
            case 33: return m.feast(a);
            case 34: return m.sick(a, b);
            case 35: return m.spent(a);
            case 36: m.image(); return 0;
            default: return m.restore() ? 1 : 0;
        }
    }
}
