import java.util.NoSuchElementException;

/** What the tests share: answers that are due, exceptions that are due, texts that are fed. */
final class Checks {
    /** The ends of int, which no call but feed() and season()'s seed takes. */
    static final int LEAST = Integer.MIN_VALUE;
    static final int GREATEST = Integer.MAX_VALUE;

    interface Call {
        long answer();
    }

    interface CallOf {
        long answer(int n);
    }

    private int wrong = 0;
    private String sentence = "";

    /** The document's sentence that the checks behind this one are about. */
    void about(String sentence) {
        this.sentence = "'" + sentence + "': ";
    }

    void due(String what, long got, long want) {
        if (got != want) {
            wrong++;
            System.out.println(sentence + what + " answered " + got + ", due is " + want);
        }
    }

    void due(String what, boolean got, boolean want) {
        due(what, got ? 1 : 0, want ? 1 : 0);
    }

    void same(String what, String got, String want) {
        if (!got.equals(want)) {
            wrong++;
            System.out.println(sentence + what + ": " + got + ", due is " + want);
        }
    }

    void noSuch(String what, Call call) {
        due(what + " throws (1 NoSuchElementException, 2 IllegalArgumentException)", thrownBy(call), 1);
    }

    void illegal(String what, Call call) {
        due(what + " throws (1 NoSuchElementException, 2 IllegalArgumentException)", thrownBy(call), 2);
    }

    /** Throws NoSuchElementException for each of the numbers, and for both ends of int. */
    void noSuchOf(String what, CallOf call, int... numbers) {
        noSuch(what + " of the least int", () -> call.answer(LEAST));
        noSuch(what + " of the greatest int", () -> call.answer(GREATEST));
        for (int n : numbers) {
            noSuch(what + " of " + n, () -> call.answer(n));
        }
    }

    /** Throws IllegalArgumentException for each of the numbers, and for both ends of int. */
    void illegalOf(String what, CallOf call, int... numbers) {
        illegal(what + " of the least int", () -> call.answer(LEAST));
        illegal(what + " of the greatest int", () -> call.answer(GREATEST));
        for (int n : numbers) {
            illegal(what + " of " + n, () -> call.answer(n));
        }
    }

    /** Answers NONE for each of the numbers, and for both ends of int. */
    void noneOf(String what, CallOf call, int... numbers) {
        due(what + " of the least int", call.answer(LEAST), SaltMinds.NONE);
        due(what + " of the greatest int", call.answer(GREATEST), SaltMinds.NONE);
        for (int n : numbers) {
            due(what + " of " + n, call.answer(n), SaltMinds.NONE);
        }
    }

    static int thrownBy(Call call) {
        try {
            call.answer();
            return 0;
        } catch (NoSuchElementException e) {
            return 1;
        } catch (IllegalArgumentException e) {
            return 2;
        } catch (RuntimeException e) {
            System.out.println("thrown: " + e);
            return 3;
        }
    }

    static void feedText(SaltMinds x, String text) {
        for (int at = 0; at < text.length(); at += 20) {
            int[] words = new int[5];
            for (int i = 0; i < 20; i++) {
                int b = at + i < text.length() ? text.charAt(at + i) & 255 : ' ';
                words[i / 4] = words[i / 4] << 8 | b;
            }
            x.feed(words[0], words[1], words[2], words[3], words[4]);
        }
    }

    static int saltText(SaltMinds x, String text) {
        feedText(x, text);
        return x.salt(text.length());
    }

    static SaltMinds told(String text) {
        SaltMinds x = new SaltMinds();
        int fault = saltText(x, text);
        if (fault != 0) {
            throw new IllegalStateException("fault " + fault + " at " + x.fault() + " of: " + text);
        }
        return x;
    }

    /** A text with its FAULT and place; 0 and NONE for one without. */
    void fault(String text, int fault, int place) {
        SaltMinds x = new SaltMinds();
        due("salt of '" + text + "'", saltText(x, text), fault);
        due("fault of '" + text + "'", x.fault(), place);
    }

    /** All that can be looked at without asking what lies ahead; some 30 calls for two PEOPLE and two FACTS. */
    static String stateOf(SaltMinds x) {
        StringBuilder b = new StringBuilder();
        int[] counts = new int[13];
        for (int what = 0; what <= 12; what++) {
            counts[what] = x.count(what);
            b.append(counts[what]).append(' ');
        }
        b.append("fault ").append(x.fault());
        for (int p = 0; p < counts[0]; p++) {
            b.append(" person");
            for (int what = 0; what <= 2; what++) {
                b.append(' ').append(x.person(p, what));
            }
            for (int f = 0; f < counts[1]; f++) {
                b.append(' ').append(x.until(p, f));
            }
        }
        b.append(" rations").append(rowOf(p -> x.ration(p))).append(" row").append(rowOf(i -> x.row(i)));
        return b.append(" blamed ").append(x.blamed()).toString();
    }

    private static String rowOf(CallOf call) {
        StringBuilder b = new StringBuilder();
        for (int i = 0; i < 7; i++) {
            try {
                long answer = call.answer(i);
                b.append(' ').append(answer);
            } catch (NoSuchElementException e) {
                return b.toString();
            }
        }
        return b.toString();
    }

    void end() {
        System.out.println(wrong == 0 ? "all answers are as due" : wrong + " answers are not as due");
        if (wrong != 0) {
            System.exit(1);
        }
    }
}
