import java.util.Random;

/**
 * Runs of at most 512 calls at random on a new object, each answer compared with that of Model. The arguments are
 * mostly sound, some at and beyond the edges.
 */
final class RandomRunsTest {
    private static final int[] ODD = {Integer.MIN_VALUE, -2, -1, 3, 4, 6, 7, 8, 9, 10, 12, 16, 50, 51, 60, 61, 200, 201,
        1000, 1001, 1023, 1024, Integer.MAX_VALUE};

    private final Random random;
    private final SmokeControl x = new SmokeControl();
    private final Model m = new Model();
    private final StringBuilder told = new StringBuilder();
    private int calls;

    private RandomRunsTest(long seed) {
        random = new Random(seed);
    }

    public static void main(String[] args) {
        int runs = args.length > 0 ? Integer.parseInt(args[0]) : 800;
        int start = args.length > 1 ? Integer.parseInt(args[1]) : 1;
        for (int seed = start; seed < start + runs && Check.wrongAnswers() == 0; seed++) {
            new RandomRunsTest(seed).run();
        }
        Check.end();
    }

    private void run() {
        int loads = 1 + random.nextInt(2);
        for (int n = 0; n < loads && calls < 400; n++) {
            loadPlant();
            int steps = random.nextInt(10) == 0 ? 10 : 400;
            for (int i = 0; i < steps && calls < 500 && Check.wrongAnswers() == 0; i++) {
                step();
            }
        }
        if (Check.wrongAnswers() > 0) {
            System.out.println("the run:\n" + told);
        }
    }

    private void due(String call, int got, int want) {
        calls++;
        told.append(call).append(" = ").append(want).append('\n');
        Check.due(call, got, want);
    }

    private void loadPlant() {
        String text = new RandomPlant(random).text();
        told.append("plant: ").append(text).append('\n');
        due("load(0)", x.load(0), m.load(0));
        for (int i = 0; i < text.length(); i += 20) {
            int[] w = new int[5];
            for (int k = 0; k < 5; k++) {
                w[k] = Check.word(text, i + 4 * k);
            }
            due("feed", x.feed(w[0], w[1], w[2], w[3], w[4]), m.feed(w));
        }
        due("load", x.load(text.length()), m.load(text.length()));
    }

    /** A number from 0 below size, now and then another one. */
    private int number(int size) {
        if (size <= 0 || random.nextInt(40) == 0) {
            return random.nextInt(6) == 0 ? random.nextInt() : random.nextInt(2) == 0 ? size : ODD[random.nextInt(ODD.length)];
        }
        return random.nextInt(size);
    }

    private int zone() {
        return number(m.zones.size());
    }

    private int damper() {
        return number(m.dampers.size());
    }

    private int fan() {
        return number(m.fans.size());
    }

    private int door() {
        return number(m.doors.size());
    }

    private int ticks() {
        return random.nextInt(3) == 0 ? number(201) : 1 + number(12);
    }

    private void step() {
        int kind = random.nextInt(100);
        if (kind < 35) {
            change();
        } else if (kind < 50) {
            pass();
        } else if (kind < 90) {
            ask();
        } else if (kind < 96) {
            tryOut();
        } else {
            slot();
        }
    }

    private void pass() {
        int n = random.nextInt(60) == 0 ? ODD[random.nextInt(ODD.length)] : ticks();
        due("tick(" + n + ")", x.tick(n), m.tick(n));
        if (random.nextInt(25) == 0) {
            due("reset()", x.reset(), m.reset());
        }
    }

    private void change() {
        boolean on = random.nextBoolean();
        int z = zone();
        int d = damper();
        int f = fan();
        int o = door();
        int c = random.nextInt(3) == 0 ? number(3) : 1;
        int rate = random.nextInt(3) == 0 ? number(51) : random.nextInt(15);
        switch (random.nextInt(11)) {
            case 0 -> due("setSource(" + z + ", " + rate + ")", x.setSource(z, rate), m.setSource(z, rate));
            case 1 -> due("setDetector(" + z + ", " + on + ")", x.setDetector(z, on), m.setDetector(z, on));
            case 2 -> due("setDoor(" + o + ", " + on + ")", x.setDoor(o, on), m.setDoor(o, on));
            case 3 -> {
                boolean jammed = on && random.nextBoolean();
                due("jam(" + d + ", " + jammed + ")", x.jam(d, jammed), m.jam(d, jammed));
            }
            case 4 -> {
                boolean broken = on && random.nextBoolean();
                due("breakFan(" + f + ", " + broken + ")", x.breakFan(f, broken), m.breakFan(f, broken));
            }
            case 5 -> due("turnKey(" + on + ")", x.turnKey(on), m.turnKey(on));
            case 6 -> due("switchDamper(" + d + ", " + c + ")", x.switchDamper(d, c), m.switchDamper(d, c));
            case 7 -> due("switchFan(" + f + ", " + c + ")", x.switchFan(f, c), m.switchFan(f, c));
            case 8 -> due("operateDamper(" + d + ", " + c + ")", x.operateDamper(d, c), m.operateDamper(d, c));
            case 9 -> due("operateFan(" + f + ", " + c + ")", x.operateFan(f, c), m.operateFan(f, c));
            default -> due("setSource(" + z + ", 0)", x.setSource(z, 0), m.setSource(z, 0));
        }
    }

    private void ask() {
        int z = zone();
        int w = number(8);
        switch (random.nextInt(16)) {
            case 0 -> due("time()", x.time(), m.time());
            case 1 -> due("smoke(" + z + ")", x.smoke(z), m.smoke(z));
            case 2, 3 -> due("stair(" + w + ")", x.stair(w), m.stair(w));
            case 4 -> due("alarm(" + z + ")", x.alarm(z), m.alarm(z));
            case 5 -> due("firstAlarm()", x.firstAlarm(), m.firstAlarm());
            case 6 -> due("supply(" + z + ")", x.supply(z), m.supply(z));
            case 7 -> due("exhaust(" + z + ")", x.exhaust(z), m.exhaust(z));
            case 8, 9 -> {
                int d = damper();
                due("damper(" + d + ", " + w + ")", x.damper(d, w), m.damper(d, w));
            }
            case 10, 11 -> {
                int f = fan();
                due("fan(" + f + ", " + w + ")", x.fan(f, w), m.fan(f, w));
            }
            case 12 -> {
                int r = number(m.rules.size());
                due("ruleHolds(" + r + ")", x.ruleHolds(r), m.ruleHolds(r));
            }
            case 13 -> {
                int s = number(4);
                due("commandsBy(" + s + ")", x.commandsBy(s), m.commandsBy(s));
            }
            case 14 -> due("events()", x.events(), m.events());
            default -> {
                int e = number(m.log.size());
                int what = number(3);
                due("event(" + e + ", " + what + ")", x.event(e, what), m.event(e, what));
            }
        }
    }

    private void tryOut() {
        int n = ticks();
        int z = zone();
        switch (random.nextInt(9)) {
            case 0 -> due("smokeAfter(" + z + ", " + n + ")", x.smokeAfter(z, n), m.smokeAfter(z, n));
            case 1 -> due("allSmokeAfter(" + n + ")", x.allSmokeAfter(n), m.allSmokeAfter(n));
            case 2 -> due("pressureAfter(" + n + ")", x.pressureAfter(n), m.pressureAfter(n));
            case 3 -> {
                int limit = random.nextBoolean() ? number(1001) : 1 + number(200);
                due("clearAfter(" + limit + ")", x.clearAfter(limit), m.clearAfter(limit));
            }
            case 4 -> {
                int some = random.nextInt(4) == 0 ? number(61) : 1 + number(8);
                due("bestSwitch(" + some + ")", x.bestSwitch(some), m.bestSwitch(some));
            }
            case 5 -> due("purgeTime(" + z + ")", x.purgeTime(z), m.purgeTime(z));
            case 6 -> {
                int set = number(1 << m.doors.size());
                due("pressureWith(" + set + ")", x.pressureWith(set), m.pressureWith(set));
            }
            case 7 -> due("mostOpenDoors()", x.mostOpenDoors(), m.mostOpenDoors());
            default -> due("worstDoor()", x.worstDoor(), m.worstDoor());
        }
    }

    private void slot() {
        int s = number(3);
        if (random.nextBoolean()) {
            due("keep(" + s + ")", x.keep(s), m.keep(s));
        } else {
            due("restore(" + s + ")", x.restore(s), m.restore(s));
        }
    }
}
