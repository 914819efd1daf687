/** Promises 19 to 31: the present state. */
final class StateTest {
    private static final int[] NO_NUMBERS = {-1, Integer.MIN_VALUE, Integer.MAX_VALUE};
    private static final String PLANT = "zones 2;proof 1;damper supply 0 2 open;damper supply 0 2;damper supply 1 5 open;"
        + "damper exhaust 1 4;fan supply 301 2 0 1 2;fan exhaust 400 2 3;fan stair 77 3;fan stair 100 4;"
        + "door 0 5 100;door 1 6 60;rule alarm 0 do open 3,start 1;";

    public static void main(String[] args) {
        timeAndSmoke();
        stair();
        alarms();
        air();
        dampers();
        fans();
        rules();
        commandsBy();
        log();
        Check.end();
    }

    private static void due(String call, int got, int want) {
        Check.due(call, got, want);
    }

    private static void timeAndSmoke() {
        SmokeControl x = Check.plant("zones 2;");
        x.setSource(1, 20);
        due("time", x.time(), 0);
        x.tick(5);
        due("time", x.time(), 5);
        due("smoke(0): 1 in each tick from 60 on", x.smoke(0), 3);
        due("smoke(1)", x.smoke(1), 97);
        due("smoke(2)", x.smoke(2), -1);
        for (int zone : NO_NUMBERS) {
            due("smoke(" + zone + ")", x.smoke(zone), -1);
        }
    }

    private static void stair() {
        SmokeControl x = Check.plant(PLANT);
        due("areas", x.stair(3), 11);
        x.setDoor(1, true);
        due("areas", x.stair(3), 65);
        x.operateFan(2, 1);
        x.operateFan(3, 1);
        x.tick(2);
        due("airs: 77 * 2 / 3 + 100 * 2 / 4", x.stair(4), 101);
        due("pressure: 101 * 101 / (65 * 65)", x.stair(0), 2);
        x.setSource(1, 50);
        x.tick(1);
        due("pressure: 152 * 152 / (65 * 65)", x.stair(0), 5);
        due("stair smoke: 50 * 7 * 20 / 2400", x.stair(2), 2);
        due("throttle", x.stair(1), 100);
        x.setDoor(1, false);
        due("the pressure is that of the last tick", x.stair(0), 5);
        x.tick(1);
        due("pressure: 177 * 177 / (11 * 11)", x.stair(0), 258);
        due("throttle", x.stair(1), 95);
        due("pressure trouble", x.stair(5), 0);
        due("stair(6)", x.stair(6), -2);
        due("stair(-1)", x.stair(-1), -2);
        due("stair(MIN)", x.stair(Integer.MIN_VALUE), -2);
        due("stair(MAX)", x.stair(Integer.MAX_VALUE), -2);
    }

    private static void alarms() {
        SmokeControl x = Check.plant("zones 3;");
        due("firstAlarm", x.firstAlarm(), -4);
        x.setSource(1, 50);
        x.setSource(2, 50);
        x.tick(2);
        due("smoke below 100", x.smoke(1) < 100 ? 1 : 0, 1);
        due("alarm(1)", x.alarm(1), 0);
        x.tick(1);
        due("alarm(0)", x.alarm(0), 0);
        due("alarm(1)", x.alarm(1), 1);
        due("alarm(2)", x.alarm(2), 1);
        due("the lowest is the first", x.firstAlarm(), 1);
        x.setSource(0, 50);
        x.tick(5);
        due("alarm(0)", x.alarm(0), 1);
        due("the first stays", x.firstAlarm(), 1);
        due("alarm(3)", x.alarm(3), -1);
        for (int zone : NO_NUMBERS) {
            due("alarm(" + zone + ")", x.alarm(zone), -1);
        }
        SmokeControl y = Check.plant("zones 2;");
        y.setDetector(0, true);
        y.setSource(0, 50);
        y.setSource(1, 50);
        y.tick(3);
        due("a disabled detector is passed over", y.firstAlarm(), 1);
    }

    private static void air() {
        SmokeControl x = Check.plant(PLANT);
        x.operateFan(0, 1);
        x.tick(1);
        due("half speed: 301 * 1 / 2 = 150 for two dampers", x.supply(0), 75);
        due("in zone 1", x.supply(1), 75);
        x.tick(1);
        due("301 for two dampers, rounded down", x.supply(0), 150);
        due("no exhaust", x.exhaust(0), 0);
        x.operateDamper(1, 1);
        x.tick(1);
        due("not yet proven open", x.supply(0), 150);
        x.tick(1);
        due("301 for three, two of them here", x.supply(0), 200);
        due("and one there", x.supply(1), 100);
        x.operateDamper(2, 2);
        x.tick(1);
        due("a closing damper gets nothing", x.supply(1), 0);
        due("the others more", x.supply(0), 300);
        x.operateFan(1, 1);
        x.operateDamper(3, 1);
        x.tick(6);
        due("exhaust(1)", x.exhaust(1), 400);
        due("exhaust(0)", x.exhaust(0), 0);
        due("supply(2)", x.supply(2), -1);
        due("exhaust(2)", x.exhaust(2), -1);
        for (int zone : NO_NUMBERS) {
            due("supply(" + zone + ")", x.supply(zone), -1);
            due("exhaust(" + zone + ")", x.exhaust(zone), -1);
        }
        SmokeControl y = Check.plant("damper exhaust 0 1 open;damper supply 0 1 open;fan exhaust 10 1 0;"
            + "fan exhaust 25 1 0;fan supply 7 1 1;");
        for (int fan = 0; fan < 3; fan++) {
            y.operateFan(fan, 1);
        }
        y.tick(1);
        due("a damper of two fans gets both airs", y.exhaust(0), 35);
        due("and the supply is apart", y.supply(0), 7);
    }

    private static void dampers() {
        SmokeControl x = Check.plant(PLANT);
        int[][] at = {{2, 1, 0, 0, 0, 0, 2}, {0, 0, 0, 0, 0, 0, 2}, {5, 1, 0, 0, 0, 1, 5}, {0, 0, 0, 0, 0, 1, 4}};
        for (int d = 0; d < 4; d++) {
            for (int what = 0; what < 7; what++) {
                due("damper(" + d + ", " + what + ")", x.damper(d, what), at[d][what]);
            }
            due("damper(" + d + ", 7)", x.damper(d, 7), -2);
            due("damper(" + d + ", -1)", x.damper(d, -1), -2);
            due("damper(" + d + ", MIN)", x.damper(d, Integer.MIN_VALUE), -2);
            due("damper(" + d + ", MAX)", x.damper(d, Integer.MAX_VALUE), -2);
        }
        due("damper(4, 0)", x.damper(4, 0), -1);
        due("damper(4, 7)", x.damper(4, 7), -1);
        for (int damper : NO_NUMBERS) {
            due("damper(" + damper + ", 0)", x.damper(damper, 0), -1);
        }
        x.operateDamper(3, 1);
        due("the command is that of the present", x.damper(3, 1), 1);
        x.tick(3);
        due("position", x.damper(3, 0), 3);
        due("timer", x.damper(3, 4), 2);
        x.jam(3, true);
        x.tick(3);
        due("timer", x.damper(3, 4), 5);
        due("trouble at 4 + 1", x.damper(3, 3), 1);
        x.tick(1);
        due("the timer goes on", x.damper(3, 4), 6);
    }

    private static void fans() {
        SmokeControl x = Check.plant(PLANT);
        x.operateFan(1, 1);
        x.operateFan(2, 1);
        due("waits for a damper", x.fan(1, 6), 1);
        due("stair fan", x.fan(2, 6), 0);
        due("fan without start", x.fan(0, 6), 0);
        x.tick(2);
        due("level", x.fan(1, 0), 0);
        due("no damper: timer", x.fan(1, 4), 0);
        due("level", x.fan(2, 0), 2);
        due("timer", x.fan(2, 4), 2);
        due("air", x.fan(2, 5), 51);
        due("command", x.fan(2, 1), 1);
        due("source", x.fan(2, 2), 1);
        due("trouble", x.fan(2, 3), 0);
        x.breakFan(2, true);
        x.tick(2);
        due("trouble at 3 + 1", x.fan(2, 3), 1);
        due("timer", x.fan(2, 4), 4);
        due("level", x.fan(2, 0), 0);
        x.operateDamper(3, 1);
        x.tick(3);
        due("still waits", x.fan(1, 6), 1);
        x.tick(1);
        due("waits no more", x.fan(1, 6), 0);
        due("runs in the same tick", x.fan(1, 0), 1);
        due("stop does not wait", x.fan(0, 6), 0);
        SmokeControl y = Check.plant("fan supply 9 1;");
        y.operateFan(0, 1);
        due("a fan without dampers waits for ever", y.fan(0, 6), 1);
        y.tick(50);
        due("its level", y.fan(0, 0), 0);
        due("its trouble", y.fan(0, 3), 0);
        due("fan(0, 7)", y.fan(0, 7), -2);
        due("fan(0, -1)", y.fan(0, -1), -2);
        due("fan(0, MAX)", y.fan(0, Integer.MAX_VALUE), -2);
        due("fan(1, 0)", y.fan(1, 0), -1);
        due("fan(1, 7)", y.fan(1, 7), -1);
        for (int fan : NO_NUMBERS) {
            due("fan(" + fan + ", 0)", y.fan(fan, 0), -1);
        }
    }

    private static void rules() {
        SmokeControl x = Check.plant("zones 2;proof 0;damper supply 0 1;fan stair 9 2;door 0 1 51;door 1 1 51;"
            + "rule alarm 0 do open 0;rule first 1 do open 0;rule ajar 1 do open 0;rule after 2 do open 0;"
            + "rule running 0 do open 0;rule trouble do open 0;rule not alarm 1 do open 0;"
            + "rule ajar 0 or ajar 1 and alarm 0 do open 0;rule (ajar 0 or ajar 1) and alarm 0 do open 0;"
            + "rule not ajar 0 and not ajar 1 do open 0;rule not (ajar 0 and ajar 1) do open 0;"
            + "rule not not ajar 0 do open 0;");
        holds(x, "at first", "000000100110");
        x.setDoor(1, true);
        holds(x, "ajar 1", "001000100010");
        x.setDoor(0, true);
        holds(x, "ajar 0, 1", "001000110001");
        x.setDoor(1, false);
        holds(x, "ajar 0", "000000110011");
        x.operateFan(0, 1);
        x.tick(1);
        holds(x, "not yet running", "000000110011");
        x.tick(1);
        holds(x, "running", "000010110011");
        x.setSource(1, 50);
        x.tick(3);
        holds(x, "alarm 1", "010010010011");
        x.tick(1);
        holds(x, "after 1", "010010010011");
        x.tick(1);
        holds(x, "after 2", "010110010011");
        x.setSource(0, 50);
        x.tick(2);
        holds(x, "alarm 0", "110110011011");
        x.jam(0, true);
        x.switchDamper(0, 2);
        x.turnKey(true);
        x.tick(2);
        holds(x, "trouble", "110111011011");
        due("ruleHolds(12)", x.ruleHolds(12), -1);
        for (int rule : NO_NUMBERS) {
            due("ruleHolds(" + rule + ")", x.ruleHolds(rule), -1);
        }
    }

    private static void holds(SmokeControl x, String when, String answers) {
        for (int rule = 0; rule < answers.length(); rule++) {
            due(when + ": ruleHolds(" + rule + ")", x.ruleHolds(rule), answers.charAt(rule) - '0');
        }
    }

    private static void commandsBy() {
        SmokeControl x = Check.plant(PLANT);
        sources(x, "at first", 8, 0, 0, 0);
        x.operateDamper(0, 1);
        x.operateFan(3, 2);
        sources(x, "operator", 6, 2, 0, 0);
        x.setSource(0, 50);
        x.tick(3);
        sources(x, "rules", 4, 2, 2, 0);
        x.switchDamper(0, 1);
        x.switchFan(1, 2);
        sources(x, "switches without key", 4, 2, 2, 0);
        x.turnKey(true);
        sources(x, "panel", 4, 1, 1, 2);
        due("commandsBy(-1)", x.commandsBy(-1), -2);
        due("commandsBy(4)", x.commandsBy(4), -2);
        due("commandsBy(MIN)", x.commandsBy(Integer.MIN_VALUE), -2);
        due("commandsBy(MAX)", x.commandsBy(Integer.MAX_VALUE), -2);
    }

    private static void sources(SmokeControl x, String when, int normal, int operator, int rules, int panel) {
        due(when + ": commandsBy(0)", x.commandsBy(0), normal);
        due(when + ": commandsBy(1)", x.commandsBy(1), operator);
        due(when + ": commandsBy(2)", x.commandsBy(2), rules);
        due(when + ": commandsBy(3)", x.commandsBy(3), panel);
    }

    private static void log() {
        SmokeControl x = new SmokeControl();
        due("events", x.events(), 0);
        due("event(0, 0)", x.event(0, 0), -1);
        for (int n = 1; n <= 53; n++) {
            x.tick(1);
            x.turnKey(n % 2 == 1);
            due("events", x.events(), Math.min(n, 50));
        }
        for (int n = 0; n < 50; n++) {
            due("event(" + n + ", 0)", x.event(n, 0), 53 - n);
            due("event(" + n + ", 1)", x.event(n, 1), n % 2 == 0 ? 6 : 7);
            due("event(" + n + ", 2)", x.event(n, 2), 0);
        }
        due("event(50, 0)", x.event(50, 0), -1);
        due("event(50, 3)", x.event(50, 3), -1);
        due("event(0, 3)", x.event(0, 3), -2);
        due("event(0, -1)", x.event(0, -1), -2);
        due("event(0, MAX)", x.event(0, Integer.MAX_VALUE), -2);
        for (int event : NO_NUMBERS) {
            due("event(" + event + ", 0)", x.event(event, 0), -1);
        }
    }
}
