import java.util.NoSuchElementException;

/** What the tests share: answers that are due, exceptions that are due, texts that are fed. */
final class Checks {
    interface Call {
        long answer();
    }

    private int wrong = 0;

    void due(String what, long got, long want) {
        if (got != want) {
            wrong++;
            System.out.println(what + " answered " + got + ", due is " + want);
        }
    }

    void due(String what, boolean got, boolean want) {
        due(what, got ? 1 : 0, want ? 1 : 0);
    }

    void noSuch(String what, Call call) {
        due(what + " throws (1 NoSuchElementException, 2 IllegalArgumentException)", thrownBy(call), 1);
    }

    void illegal(String what, Call call) {
        due(what + " throws (1 NoSuchElementException, 2 IllegalArgumentException)", thrownBy(call), 2);
    }

    static int thrownBy(Call call) {
        try {
            call.answer();
            return 0;
        } catch (NoSuchElementException e) {
            return 1;
        } catch (IllegalArgumentException e) {
            return 2;
        } catch (RuntimeException e) {
            System.out.println("thrown: " + e);
            return 3;
        }
    }

    static void feedText(SaltMinds x, String text) {
        for (int at = 0; at < text.length(); at += 20) {
            int[] words = new int[5];
            for (int i = 0; i < 20; i++) {
                int b = at + i < text.length() ? text.charAt(at + i) & 255 : ' ';
                words[i / 4] = words[i / 4] << 8 | b;
            }
            x.feed(words[0], words[1], words[2], words[3], words[4]);
        }
    }

    static int saltText(SaltMinds x, String text) {
        feedText(x, text);
        return x.salt(text.length());
    }

    static SaltMinds told(String text) {
        SaltMinds x = new SaltMinds();
        int fault = saltText(x, text);
        if (fault != 0) {
            throw new IllegalStateException("fault " + fault + " at " + x.fault() + " of: " + text);
        }
        return x;
    }

    /** A text with its FAULT and place; 0 and NONE for one without. */
    void fault(String text, int fault, int place) {
        SaltMinds x = new SaltMinds();
        due("salt of '" + text + "'", saltText(x, text), fault);
        due("fault of '" + text + "'", x.fault(), place);
    }

    void end() {
        System.out.println(wrong == 0 ? "all answers are as due" : wrong + " answers are not as due");
        if (wrong != 0) {
            System.exit(1);
        }
    }
}
