/**
 * The boundary cases of sections 1 to 3: the plant, which source wins, and when a test holds. Each method stands for
 * one sentence of the document, which is told above it.
 */
final class PlantEdgesTest {
    public static void main(String[] args) {
        newPlant();
        firstPositions();
        airRoundedDown();
        airOfNoDamper();
        damperOfSeveralFans();
        panelNeedsBoth();
        panelWins();
        rulesWin();
        operatorWins();
        rulesNeedAnAlarm();
        firstActionWins();
        conditions();
        runningFans();
        troubles();
        Check.end();
    }

    private static void due(String call, int got, int want) {
        Check.due(call, got, want);
    }

    // ---- section 1

    /**
     * All that is "at first": one zone, a shut door, level 0, target 50, throttle 100, no pressure, smoke, source,
     * alarm.
     */
    private static void newPlant() {
        SmokeControl x = Check.plant("door 0 50 500;fan stair 1 1;");
        int[] stair = {0, 100, 0, 50, 0, 0};
        for (int what = 0; what < 6; what++) {
            due("stair(" + what + ")", x.stair(what), stair[what]);
        }
        due("zones", x.count(0), 1);
        due("target", x.count(5), 50);
        due("proof", x.count(6), 10);
        due("the door is shut", x.setDoor(0, false), 0);
        due("the fan is whole", x.breakFan(0, false), 0);
        due("its level", x.fan(0, 0), 0);
        due("no source", x.setSource(0, 0), 0);
        due("no smoke", x.smoke(0), 0);
        due("no alarm", x.alarm(0), 0);
        due("the detector is enabled", x.setDetector(0, false), 0);
        due("the key is off", x.turnKey(false), 0);
    }

    /** "Its position is 0 (shut) to T (open). ... At first its position is that of its normal state." */
    private static void firstPositions() {
        SmokeControl x = Check.plant("damper supply 0 1;damper supply 0 1 open;damper supply 0 30;"
            + "damper supply 0 30 open;");
        int[] positions = {0, 1, 0, 30};
        for (int d = 0; d < 4; d++) {
            due("position of damper " + d, x.damper(d, 0), positions[d]);
        }
        x.tick(2);
        for (int d = 0; d < 4; d++) {
            due("it stays there", x.damper(d, 0), positions[d]);
            due("and is not late", x.damper(d, 4), 0);
        }
    }

    /** "with n of them each gets air / n", "flow * level / ramp time": both rounded down */
    private static void airRoundedDown() {
        SmokeControl x = Check.plant("damper supply 0 1 open;damper supply 0 1 open;damper supply 0 1 open;"
            + "fan supply 17 3 0 1 2;");
        x.operateFan(0, 1);
        x.tick(1);
        due("17 * 1 / 3", x.fan(0, 5), 5);
        due("3 * (5 / 3)", x.supply(0), 3);
        x.tick(1);
        due("17 * 2 / 3", x.fan(0, 5), 11);
        due("3 * (11 / 3)", x.supply(0), 9);
        x.tick(1);
        due("17", x.fan(0, 5), 17);
        due("3 * (17 / 3)", x.supply(0), 15);
        x.operateDamper(2, 2);
        x.tick(1);
        due("2 * (17 / 2)", x.supply(0), 16);
    }

    /** n is 0: nothing gets the air of a fan whose dampers are not proven open. */
    private static void airOfNoDamper() {
        SmokeControl x = Check.plant("damper exhaust 0 1 open;fan exhaust 100 9 0;fan supply 100 1;");
        x.operateFan(0, 1);
        x.operateFan(1, 1);
        x.tick(9);
        due("exhaust", x.exhaust(0), 100);
        x.operateDamper(0, 2);
        x.tick(1);
        due("the fan still turns", x.fan(0, 5), 88);
        due("but the zone has no exhaust", x.exhaust(0), 0);
        due("nor any supply", x.supply(0), 0);
    }

    /** "A damper may be in the lists of several fans": it gets its part of each. */
    private static void damperOfSeveralFans() {
        SmokeControl x = Check.plant("zones 2;damper exhaust 0 1 open;damper exhaust 1 1 open;fan exhaust 11 1 0 1;"
            + "fan exhaust 20 1 0;fan exhaust 31 1 1 0;");
        for (int f = 0; f < 3; f++) {
            x.operateFan(f, 1);
        }
        x.tick(1);
        due("11 / 2 + 20 + 31 / 2", x.exhaust(0), 40);
        due("11 / 2 + 31 / 2", x.exhaust(1), 20);
    }

    // ---- section 2

    /** "It gives a command if the key is on and the switch is not in position 0." */
    private static void panelNeedsBoth() {
        SmokeControl x = Check.plant("damper supply 0 1 open;fan stair 1 1;");
        int[][] cases = {{0, 0, 0}, {0, 1, 0}, {0, 2, 0}, {1, 0, 0}, {1, 1, 3}, {1, 2, 3}};
        for (int[] c : cases) {
            x.turnKey(c[0] == 1);
            x.switchDamper(0, c[1]);
            x.switchFan(0, c[1]);
            String when = "key " + c[0] + ", switch " + c[1];
            due(when + ": source of the damper", x.damper(0, 2), c[2]);
            due(when + ": source of the fan", x.fan(0, 2), c[2]);
            due(when + ": command of the damper", x.damper(0, 1), c[2] == 3 && c[1] == 2 ? 0 : 1);
            due(when + ": command of the fan", x.fan(0, 1), c[2] == 3 && c[1] == 1 ? 1 : 0);
        }
    }

    /** A plant with an alarm whose rules open damper 0 and start fan 0; smoke 100 at time 2. */
    private static SmokeControl ruled() {
        SmokeControl x = Check.plant("damper exhaust 0 1;damper supply 0 1;fan exhaust 999 1 0;fan stair 1 1;"
            + "rule alarm 0 do open 0,start 0;");
        x.setSource(0, 50);
        x.tick(2);
        x.setSource(0, 0);
        due("alarm", x.alarm(0), 1);
        return x;
    }

    private static int damper(SmokeControl x, int damper) {
        return x.damper(damper, 1) * 10 + x.damper(damper, 2);
    }

    private static int fan(SmokeControl x, int fan) {
        return x.fan(fan, 1) * 10 + x.fan(fan, 2);
    }

    /** 3 the panel wins over 2 the rules and 1 the operator. */
    private static void panelWins() {
        SmokeControl x = ruled();
        x.turnKey(true);
        x.switchDamper(0, 2);
        x.switchFan(0, 2);
        x.switchDamper(1, 2);
        x.operateDamper(1, 1);
        x.switchFan(1, 2);
        x.operateFan(1, 1);
        due("damper 0: panel over rules", damper(x, 0), 3);
        due("fan 0: panel over rules", fan(x, 0), 3);
        due("damper 1: panel over operator", damper(x, 1), 3);
        due("fan 1: panel over operator", fan(x, 1), 3);
    }

    /** 2 the rules win over 1 the operator. */
    private static void rulesWin() {
        SmokeControl x = ruled();
        x.operateDamper(0, 2);
        x.operateFan(0, 2);
        x.operateDamper(1, 1);
        x.operateFan(1, 1);
        due("damper 0: rules over operator", damper(x, 0), 12);
        due("fan 0: rules over operator", fan(x, 0), 12);
        due("damper 1: no rule for it", damper(x, 1), 11);
        due("fan 1: no rule for it", fan(x, 1), 11);
    }

    /** 1 the operator wins over 0 the normal state; an order that says what is so anyhow is an order too. */
    private static void operatorWins() {
        SmokeControl x = Check.plant("damper supply 0 1 open;damper supply 0 1;fan stair 1 1;");
        due("normally open", damper(x, 0), 10);
        due("normally shut", damper(x, 1), 0);
        due("a fan stands", fan(x, 0), 0);
        x.operateDamper(0, 1);
        x.operateDamper(1, 2);
        x.operateFan(0, 2);
        due("open by the operator", damper(x, 0), 11);
        due("shut by the operator", damper(x, 1), 1);
        due("stopped by the operator", fan(x, 0), 1);
    }

    /** The rules "give commands only while an alarm of some zone is on". */
    private static void rulesNeedAnAlarm() {
        SmokeControl x = Check.plant("zones 8;damper exhaust 7 1 open;damper supply 0 1;fan exhaust 999 1 0;"
            + "rule not trouble do open 1;");
        due("the rule holds", x.ruleHolds(0), 1);
        due("without an alarm", damper(x, 1), 0);
        x.setSource(7, 50);
        x.tick(3);
        due("alarm of the last zone", x.firstAlarm(), 7);
        due("with an alarm", damper(x, 1), 12);
        x.setSource(7, 0);
        x.operateFan(0, 1);
        x.tick(2);
        due("smoke", x.smoke(7) < 100 ? 1 : 0, 1);
        due("the alarm is still on", damper(x, 1), 12);
        due("reset", x.reset(), 0);
        due("the alarm is off", damper(x, 1), 0);
    }

    /** "The first action for a damper or fan gives its command by the rules; later actions for it do not count." */
    private static void firstActionWins() {
        SmokeControl x = Check.plant("damper exhaust 0 1;damper supply 0 1;fan stair 1 1;fan stair 1 1;"
            + "rule trouble do purge 0,start 0;rule alarm 0 do shut 1,extract 0,stop 1,start 1;"
            + "rule not trouble do open 1,close 0,start 1,start 0,stop 0;");
        x.setSource(0, 50);
        x.tick(2);
        due("damper 0: extract, not close", damper(x, 0), 12);
        due("damper 1: shut, not open", damper(x, 1), 2);
        due("fan 1: stop, not start", fan(x, 1), 2);
        due("fan 0: start of the third rule", fan(x, 0), 12);
    }

    // ---- section 3: tests

    /** Conditions of doors 0, 1 and 2: "and" before "or", "not" before both, "(" before all. */
    private static void conditions() {
        String[] texts = {"a", "not a", "a and b", "a or b", "a and (b)", "a or (b)", "(a) and (b)", "a and b or c",
            "a or b and c",
            "a and (b or c)", "(a or b) and c", "not a and b", "not (a and b)", "not a or b", "not (a or b)",
                "a and not b",
            "a or not (b and c)", "a and (b and (c))", "a or (b or (c))", "a and b and c", "a or b or c", "not not a",
            "not (not (a or b) or c)", "(a and b) or (b and c)", "(a or b) and (b or c)",
                "a and (not b or c) and not c"};
        for (int from = 0; from < texts.length; from += 9) {
            StringBuilder plant = new StringBuilder("door 0 1 51;".repeat(3));
            int end = Math.min(texts.length, from + 9);
            for (int n = from; n < end; n++) {
                String text = texts[n].replaceAll("\\ba\\b", "ajar 0").replaceAll("\\bb\\b",
                    "ajar 1").replaceAll("\\bc\\b", "ajar 2");
                plant.append("rule ").append(text).append(" do close 0;");
            }
            SmokeControl x = Check.plant(plant.toString());
            for (int set = 0; set < 8; set++) {
                for (int door = 0; door < 3; door++) {
                    x.setDoor(door, (set >> door & 1) != 0);
                }
                for (int n = from; n < end; n++) {
                    due("\"" + texts[n] + "\" with doors " + set, x.ruleHolds(n - from), truth(n, set));
                }
            }
        }
    }

    private static int truth(int text, int set) {
        boolean a = (set & 1) != 0;
        boolean b = (set & 2) != 0;
        boolean c = (set & 4) != 0;
        boolean[] truths = {a, !a, a && b, a || b, a && b, a || b, a && b, a && b || c, a || b && c, a && (b || c),
            (a || b) && c,
            !a && b, !(a && b), !a || b, !(a || b), a && !b, a || !(b && c), a && b && c, a || b || c, a && b && c,
            a || b || c, a, (a || b) && !c, a && b || b && c, (a || b) && (b || c), a && (!b || c) && !c};
        return truths[text] ? 1 : 0;
    }

    /** running: "the fan's level is its ramp time", of each of six fans; one below it is not enough. */
    private static void runningFans() {
        StringBuilder text = new StringBuilder();
        for (int f = 0; f < 6; f++) {
            text.append("fan stair 9 ").append(f + 2).append(';');
        }
        for (int f = 0; f < 6; f++) {
            text.append("rule running ").append(f).append(" do close 0;");
        }
        SmokeControl x = Check.plant(text.toString());
        for (int f = 0; f < 6; f++) {
            due("a fan that stands", x.ruleHolds(f), 0);
            x.operateFan(f, 1);
        }
        for (int time = 1; time <= 8; time++) {
            x.tick(1);
            for (int f = 0; f < 6; f++) {
                due("fan " + f + " at time " + time, x.ruleHolds(f), time >= f + 2 ? 1 : 0);
            }
        }
        x.operateFan(3, 2);
        x.tick(1);
        due("one below its ramp time", x.ruleHolds(3), 0);
    }

    /**
     * trouble: "some damper or fan has trouble, or there is pressure trouble": the last damper, the last fan, the
     * pressure.
     */
    private static void troubles() {
        String rule = "rule trouble do close 0;proof 5;";
        SmokeControl x = Check.plant("damper supply 0 1;".repeat(16) + rule);
        x.jam(15, true);
        x.operateDamper(15, 1);
        x.tick(6);
        due("damper 15: not yet", x.ruleHolds(0), 0);
        x.tick(1);
        due("damper 15", x.ruleHolds(0), 1);
        x.reset();
        due("none after reset", x.ruleHolds(0), 0);
        SmokeControl y = Check.plant("fan stair 9 1;".repeat(6) + "door 0 1 51;target 1;" + rule);
        y.breakFan(5, true);
        y.operateFan(5, 1);
        y.operateFan(4, 1);
        y.tick(5);
        due("fan 5: not yet", y.ruleHolds(0), 0);
        y.tick(1);
        due("fan 5", y.ruleHolds(0), 1);
        y.reset();
        due("none after reset", y.ruleHolds(0), 0);
        SmokeControl z = Check.plant("fan stair 9 1;" + rule);
        z.operateFan(0, 1);
        z.tick(29);
        due("pressure: not yet", z.ruleHolds(0), 0);
        z.tick(1);
        due("pressure", z.ruleHolds(0), 1);
        z.reset();
        due("none after reset", z.ruleHolds(0), 0);
    }
}
