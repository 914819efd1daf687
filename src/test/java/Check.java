/** What the tests have in common: counting wrong answers, and loading a plant from a text. */
final class Check {
    private static int wrong;
    private static int made;

    private Check() {
    }

    static void due(String what, int got, int want) {
        made++;
        if (got != want) {
            wrong++;
            System.out.println(what + " answered " + got + ", due is " + want);
        }
    }

    /** Ends the test: exit code 1 if an answer was wrong. */
    static void end() {
        System.out.println(made + " answers, " + wrong + " of them wrong");
        if (wrong != 0) {
            System.exit(1);
        }
    }

    static int wrongAnswers() {
        return wrong;
    }

    /** Feeds the bytes of a text (a character of 0 to 255 each), filled up with "a" to a multiple of 20. */
    static void feed(SmokeControl x, String text) {
        for (int i = 0; i < text.length(); i += 20) {
            x.feed(word(text, i), word(text, i + 4), word(text, i + 8), word(text, i + 12), word(text, i + 16));
        }
    }

    static int word(String text, int from) {
        int word = 0;
        for (int i = from; i < from + 4; i++) {
            word = word << 8 | (i < text.length() ? text.charAt(i) & 255 : 'a');
        }
        return word;
    }

    static int load(SmokeControl x, String text) {
        feed(x, text);
        return x.load(text.length());
    }

    /** A text without an error, and how many items it has. */
    static void sound(String text, int items) {
        SmokeControl x = new SmokeControl();
        due("load of: " + text, load(x, text), items);
        due("errorCode of: " + text, x.errorCode(), 0);
        due("errorPosition of: " + text, x.errorPosition(), -1);
    }

    /** A text with an error. */
    static void bad(String text, int code, int position) {
        SmokeControl x = new SmokeControl();
        due("load of: " + text, load(x, text), -4);
        due("errorCode of: " + text, x.errorCode(), code);
        due("errorPosition of: " + text, x.errorPosition(), position);
    }

    /** A text in two parts with an error at the first byte of the second one. */
    static void badFrom(int code, String before, String from) {
        bad(before + from, code, before.length());
    }

    /** The latest n events, the oldest of them first, each as time:code/number. */
    static void dueEvents(String when, SmokeControl x, int n, String want) {
        StringBuilder found = new StringBuilder();
        for (int e = n - 1; e >= 0; e--) {
            found.append(x.event(e, 0)).append(':').append(x.event(e, 1)).append('/').append(x.event(e, 2)).append(' ');
        }
        String got = found.toString().trim();
        due(when + ": events " + got + ", due are " + want + ": same", got.equals(want) ? 1 : 0, 1);
    }

    /** A new object with the plant of a text that has no error. */
    static SmokeControl plant(String text) {
        SmokeControl x = new SmokeControl();
        if (load(x, text) < 0) {
            due("load of: " + text + ": error " + x.errorCode() + " at " + x.errorPosition() + ": load", -4, 0);
        }
        return x;
    }

    /** Lets any number of ticks pass. */
    static void pass(SmokeControl x, int ticks) {
        int left = ticks;
        while (left > 0) {
            int part = Math.min(200, left);
            x.tick(part);
            left -= part;
        }
    }
}
