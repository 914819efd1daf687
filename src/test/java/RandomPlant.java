import java.util.ArrayList;
import java.util.List;
import java.util.Random;

/** Writes plants at random in the grammar of the document, of at most 900 bytes; and spoils them. */
final class RandomPlant {
    private static final String[] WORDS = {"zones", "damper", "supply", "exhaust", "open", "fan", "stair", "door",
        "target", "proof", "rule", "or", "and", "not", "(", ")", "alarm", "first", "ajar", "after", "running",
        "trouble", "do", "shut", "start", "stop", "extract", "press", "close", "purge", ";", ",", "0", "1", "2", "5",
        "8", "9", "16", "30", "31", "50", "51", "200", "201", "500", "501", "999", "1000", "007", "zone", "x", "doo"};

    private final Random random;
    private List<String> tokens;
    private int zones;
    private List<Boolean> dampers;
    private int fans;
    private int doors;
    private int beyond; // 1 while the limits of section 3 may be passed by one

    RandomPlant(Random random) {
        this.random = random;
    }

    /** A text without an error. */
    String text() {
        while (true) {
            String text = spaced(writePlant(), false);
            if (text.length() <= 900) {
                return text;
            }
        }
    }

    /** A text that mostly has an error. */
    String spoilt() {
        while (true) {
            beyond = random.nextInt(3) == 0 ? 1 : 0;
            List<String> written = new ArrayList<>(writePlant());
            beyond = 0;
            for (int n = random.nextInt(3); n > 0 && !written.isEmpty(); n--) {
                int i = random.nextInt(written.size());
                switch (random.nextInt(4)) {
                    case 0 -> written.remove(i);
                    case 1 -> written.add(i, WORDS[random.nextInt(WORDS.length)]);
                    case 2 -> written.set(i, WORDS[random.nextInt(WORDS.length)]);
                    default -> written.add(i, written.get(random.nextInt(written.size())));
                }
            }
            StringBuilder text = new StringBuilder(spaced(written, random.nextInt(8) == 0));
            if (random.nextInt(4) == 0 && text.length() > 0) {
                text.setCharAt(random.nextInt(text.length()), (char) random.nextInt(256));
            }
            if (random.nextInt(6) == 0) {
                text.setLength(random.nextInt(text.length() + 1));
            }
            if (text.length() <= 900) {
                return text.toString();
            }
        }
    }

    private String spaced(List<String> written, boolean careless) {
        StringBuilder text = new StringBuilder();
        boolean behindRun = false;
        for (String token : written) {
            boolean run = Character.isLetterOrDigit(token.charAt(0));
            boolean needed = behindRun && run && !(careless && random.nextInt(10) == 0);
            for (int n = (needed ? 1 : 0) + (random.nextInt(10) == 0 ? random.nextInt(3) : 0); n > 0; n--) {
                text.append(random.nextInt(8) == 0 ? '\n' : ' ');
            }
            text.append(token);
            behindRun = run;
        }
        for (int n = random.nextInt(10) == 0 ? 2 : 0; n > 0; n--) {
            text.append(' ');
        }
        return text.toString();
    }

    private void put(Object... some) {
        for (Object token : some) {
            tokens.add(token.toString());
        }
    }

    private List<String> writePlant() {
        tokens = new ArrayList<>();
        zones = 1;
        dampers = new ArrayList<>();
        fans = 0;
        doors = 0;
        if (random.nextInt(4) > 0) {
            zones = 1 + random.nextInt(random.nextInt(3) == 0 ? 8 : 4);
            put("zones", zones, ";");
        }
        int big = random.nextInt(6);
        int wantedDampers = big == 0 ? 14 + random.nextInt(4) : random.nextInt(8);
        int wantedFans = big == 1 ? 5 + random.nextInt(3) : random.nextInt(5);
        int wantedDoors = big == 2 ? 9 + random.nextInt(3) : random.nextInt(4);
        int wantedRules = big == 3 ? 10 + random.nextInt(4) : random.nextInt(6);
        if (random.nextBoolean()) {
            put("proof", random.nextInt(3) == 0 ? random.nextInt(1000) : random.nextInt(6), ";");
        }
        for (int n = 0; n < wantedDampers && n < 16 + beyond; n++) {
            writeDamper();
        }
        for (int n = 0; n < wantedFans && n < 6 + beyond; n++) {
            writeFan();
        }
        for (int n = 0; n < wantedDoors && n < 10 + beyond; n++) {
            put("door", random.nextInt(zones), 1 + random.nextInt(50), 51 + random.nextInt(random.nextBoolean() ? 60 : 450),
                ";");
            doors++;
        }
        if (random.nextBoolean()) {
            put("target", 1 + random.nextInt(200), ";");
        }
        for (int n = 0; n < wantedRules && n < 12 + beyond; n++) {
            writeRule(big == 4);
        }
        if (random.nextInt(3) == 0 && dampers.size() < 16) {
            writeDamper();
        }
        return tokens;
    }

    private int span() {
        return random.nextInt(8) == 0 ? 30 : 1 + random.nextInt(6);
    }

    private void writeDamper() {
        boolean supply = random.nextBoolean();
        put("damper", supply ? "supply" : "exhaust", random.nextInt(zones), span());
        if (random.nextInt(3) == 0) {
            put("open");
        }
        put(";");
        dampers.add(supply);
    }

    private void writeFan() {
        int kind = random.nextInt(3);
        put("fan", kind == 0 ? "supply" : kind == 1 ? "exhaust" : "stair");
        put(random.nextInt(4) == 0 ? 999 : 1 + random.nextInt(600), span());
        for (int d = dampers.size() - 1; d >= 0; d--) {
            if (kind < 2 && dampers.get(d) == (kind == 0) && random.nextInt(3) > 0) {
                put(d);
            }
        }
        put(";");
        fans++;
    }

    private void writeRule(boolean deep) {
        put("rule");
        writeCondition(0, deep);
        put("do");
        int actions = random.nextInt(8) == 0 ? 8 + beyond : 1 + random.nextInt(4);
        for (int n = 0; n < actions; n++) {
            if (n > 0) {
                put(",");
            }
            writeAction();
        }
        put(";");
    }

    private void writeCondition(int open, boolean deep) {
        writeTest(open, deep);
        while (random.nextInt(4) == 0) {
            put(random.nextBoolean() ? "or" : "and");
            writeTest(open, deep);
        }
    }

    private void writeTest(int open, boolean deep) {
        if (open < 6 + beyond && random.nextInt(deep ? 2 : 4) == 0) {
            if (random.nextBoolean()) {
                put("not");
                writeTest(open + 1, deep);
            } else {
                put("(");
                writeCondition(open + 1, deep);
                put(")");
            }
            return;
        }
        int which = random.nextInt(7);
        if (which == 0 && doors > 0) {
            put("ajar", random.nextInt(doors));
        } else if (which == 1 && fans > 0) {
            put("running", random.nextInt(fans));
        } else if (which == 2) {
            put("after", random.nextInt(5) == 0 ? random.nextInt(1000) : random.nextInt(30));
        } else if (which == 3) {
            put("trouble");
        } else if (which == 4) {
            put("first", random.nextInt(zones));
        } else {
            put("alarm", random.nextInt(zones));
        }
    }

    private void writeAction() {
        int which = random.nextInt(8);
        if (which < 2 && !dampers.isEmpty()) {
            put(which == 0 ? "open" : "shut", random.nextInt(dampers.size()));
        } else if (which < 5 && fans > 0) {
            put(which == 4 ? "stop" : "start", random.nextInt(fans));
        } else {
            String[] verbs = {"extract", "press", "close", "purge"};
            put(verbs[random.nextInt(4)], random.nextInt(zones));
        }
    }
}
