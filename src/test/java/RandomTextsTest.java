import java.util.Random;

/** Loads texts written at random, sound and spoilt, and compares the answers with those of Model. */
final class RandomTextsTest {
    public static void main(String[] args) {
        int[] codes = new int[4];
        for (int seed = 1; seed <= 2000 && Check.wrongAnswers() < 20; seed++) {
            Random random = new Random(seed);
            RandomPlant plants = new RandomPlant(random);
            SmokeControl x = new SmokeControl();
            Model m = new Model();
            for (int n = 0; n < 10; n++) {
                codes[load(x, m, random.nextInt(5) == 0 ? plants.text() : plants.spoilt(), random)]++;
            }
        }
        for (int code = 0; code < codes.length; code++) {
            Check.due("(texts of code " + code + " are tried)", codes[code] > 100 ? 1 : 0, 1);
        }
        Check.end();
    }

    /** The error code. */
    private static int load(SmokeControl x, Model m, String text, Random random) {
        String what = "text:\n" + text + "\n";
        for (int i = 0; i < text.length(); i += 20) {
            int[] w = new int[5];
            for (int k = 0; k < 5; k++) {
                w[k] = Check.word(text, i + 4 * k);
            }
            Check.due(what + "feed", x.feed(w[0], w[1], w[2], w[3], w[4]), m.feed(w));
        }
        int length = random.nextInt(20) == 0 ? text.length() + random.nextInt(60) : text.length();
        Check.due(what + "load(" + length + ")", x.load(length), m.load(length));
        Check.due(what + "load(" + text.length() + ")", x.load(text.length()), m.load(text.length()));
        Check.due(what + "errorCode", x.errorCode(), m.errorCode());
        Check.due(what + "errorPosition", x.errorPosition(), m.errorPosition());
        for (int k = 0; k < 8; k++) {
            Check.due(what + "count(" + k + ")", x.count(k), m.count(k));
        }
        int code = m.errorCode();
        x.load(0);
        m.load(0);
        return code;
    }
}
