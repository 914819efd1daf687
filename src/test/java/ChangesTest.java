/** Promises 7 to 18: the changes from outside. */
final class ChangesTest {
    private static final int[] NO_NUMBERS = {-1, Integer.MIN_VALUE, Integer.MAX_VALUE};

    public static void main(String[] args) {
        sources();
        detectors();
        doors();
        jams();
        brokenFans();
        key();
        switches();
        operators();
        priorities();
        ticks();
        endOfTime();
        resetTrouble();
        resetPressure();
        resetAlarms();
        resetFirstAlarm();
        Check.end();
    }

    private static void due(String call, int got, int want) {
        Check.due(call, got, want);
    }

    private static void sources() {
        SmokeControl x = Check.plant("zones 3;");
        due("setSource(2, 50)", x.setSource(2, 50), 0);
        due("setSource(2, 7)", x.setSource(2, 7), 50);
        due("setSource(0, 1)", x.setSource(0, 1), 0);
        due("setSource(2, 51)", x.setSource(2, 51), -2);
        due("setSource(2, -1)", x.setSource(2, -1), -2);
        due("setSource(3, 5)", x.setSource(3, 5), -1);
        due("setSource(3, 51): -1 first", x.setSource(3, 51), -1);
        for (int zone : NO_NUMBERS) {
            due("setSource(" + zone + ", 0)", x.setSource(zone, 0), -1);
        }
        due("the errors changed nothing", x.setSource(2, 0), 7);
        due("each zone has its own", x.setSource(0, 0), 1);
        x.setSource(1, 50);
        x.tick(1);
        due("smoke comes of a source", x.smoke(1), 48);
    }

    private static void detectors() {
        SmokeControl x = Check.plant("zones 2;");
        due("setDetector(0, false)", x.setDetector(0, false), 0);
        due("setDetector(0, true)", x.setDetector(0, true), 1);
        due("setDetector(0, true)", x.setDetector(0, true), 0);
        due("setDetector(2, true)", x.setDetector(2, true), -1);
        for (int zone : NO_NUMBERS) {
            due("setDetector(" + zone + ")", x.setDetector(zone, true), -1);
        }
        x.setSource(0, 50);
        x.tick(4);
        due("no alarm of a disabled detector", x.alarm(0), 0);
        due("no first alarm", x.firstAlarm(), -4);
        due("setDetector(0, false)", x.setDetector(0, false), 1);
        due("not before the next tick", x.alarm(0), 0);
        x.tick(1);
        due("alarm of the enabled detector", x.alarm(0), 1);
        due("its time", x.event(0, 0), 5);
        due("setDetector(0, true)", x.setDetector(0, true), 1);
        x.tick(1);
        due("an alarm that is on stays on", x.alarm(0), 1);
        due("reset", x.reset(), 1);
    }

    private static void doors() {
        SmokeControl x = Check.plant("door 0 1 100;door 0 2 200;");
        due("setDoor(1, false)", x.setDoor(1, false), 0);
        due("setDoor(1, true)", x.setDoor(1, true), 1);
        due("setDoor(1, true)", x.setDoor(1, true), 0);
        due("areas", x.stair(3), 201);
        due("setDoor(0, true)", x.setDoor(0, true), 1);
        due("areas", x.stair(3), 300);
        due("setDoor(1, false)", x.setDoor(1, false), 1);
        due("areas", x.stair(3), 102);
        due("setDoor(2, true)", x.setDoor(2, true), -1);
        for (int door : NO_NUMBERS) {
            due("setDoor(" + door + ")", x.setDoor(door, true), -1);
        }
    }

    private static void jams() {
        SmokeControl x = Check.plant("damper supply 0 3;damper supply 0 3;");
        due("jam(0, false)", x.jam(0, false), 0);
        due("jam(0, true)", x.jam(0, true), 1);
        due("jam(0, true)", x.jam(0, true), 0);
        due("jam(2, true)", x.jam(2, true), -1);
        for (int damper : NO_NUMBERS) {
            due("jam(" + damper + ")", x.jam(damper, true), -1);
        }
        x.operateDamper(0, 1);
        x.operateDamper(1, 1);
        x.tick(2);
        due("a jammed damper stands", x.damper(0, 0), 0);
        due("the other one moves", x.damper(1, 0), 2);
        due("jam(0, false)", x.jam(0, false), 1);
        due("jam(1, true)", x.jam(1, true), 1);
        x.tick(1);
        due("the freed damper moves", x.damper(0, 0), 1);
        due("the jammed one stays half open", x.damper(1, 0), 2);
    }

    private static void brokenFans() {
        SmokeControl x = Check.plant("fan stair 100 4;fan stair 100 4;");
        due("breakFan(1, false)", x.breakFan(1, false), 0);
        due("breakFan(1, true)", x.breakFan(1, true), 1);
        due("breakFan(1, true)", x.breakFan(1, true), 0);
        due("breakFan(2, true)", x.breakFan(2, true), -1);
        for (int fan : NO_NUMBERS) {
            due("breakFan(" + fan + ")", x.breakFan(fan, true), -1);
        }
        x.operateFan(0, 1);
        x.operateFan(1, 1);
        x.tick(3);
        due("fan 0 runs up", x.fan(0, 0), 3);
        due("the broken fan stands", x.fan(1, 0), 0);
        due("breakFan(1, false)", x.breakFan(1, false), 1);
        due("breakFan(0, true)", x.breakFan(0, true), 1);
        x.tick(1);
        due("the broken fan runs down", x.fan(0, 0), 2);
        due("the repaired one runs up", x.fan(1, 0), 1);
    }

    private static void key() {
        SmokeControl x = new SmokeControl();
        due("turnKey(false)", x.turnKey(false), 0);
        due("no event", x.events(), 0);
        due("turnKey(true)", x.turnKey(true), 1);
        due("event", x.events(), 1);
        due("time", x.event(0, 0), 0);
        due("code", x.event(0, 1), 6);
        due("number", x.event(0, 2), 0);
        due("turnKey(true)", x.turnKey(true), 0);
        due("no event", x.events(), 1);
        x.tick(7);
        due("turnKey(false)", x.turnKey(false), 1);
        due("events", x.events(), 2);
        due("time", x.event(0, 0), 7);
        due("code", x.event(0, 1), 7);
        due("number", x.event(0, 2), 0);
    }

    private static void switches() {
        SmokeControl x = Check.plant("damper supply 0 3;damper supply 0 3 open;fan stair 1 1;fan stair 1 1;");
        due("switchDamper(1, 2)", x.switchDamper(1, 2), 0);
        due("switchDamper(1, 1)", x.switchDamper(1, 1), 2);
        due("switchDamper(1, 2)", x.switchDamper(1, 2), 1);
        due("switchDamper(1, 3)", x.switchDamper(1, 3), -2);
        due("switchDamper(1, -1)", x.switchDamper(1, -1), -2);
        due("switchDamper(2, 1)", x.switchDamper(2, 1), -1);
        due("switchDamper(2, 3)", x.switchDamper(2, 3), -1);
        due("switchFan(0, 1)", x.switchFan(0, 1), 0);
        due("switchFan(0, 2)", x.switchFan(0, 2), 1);
        due("switchFan(0, 1)", x.switchFan(0, 1), 2);
        due("switchFan(0, 3)", x.switchFan(0, 3), -2);
        due("switchFan(0, -1)", x.switchFan(0, -1), -2);
        due("switchFan(2, 1)", x.switchFan(2, 1), -1);
        due("switchFan(-1, 9)", x.switchFan(-1, 9), -1);
        for (int number : NO_NUMBERS) {
            due("switchDamper(" + number + ")", x.switchDamper(number, 1), -1);
            due("switchFan(" + number + ")", x.switchFan(number, 1), -1);
        }
        due("the key is off: command", x.damper(1, 1), 1);
        due("the key is off: source", x.damper(1, 2), 0);
        due("the key is off: fan", x.fan(0, 1), 0);
        x.turnKey(true);
        due("key on: command", x.damper(1, 1), 0);
        due("key on: source", x.damper(1, 2), 3);
        due("key on: fan", x.fan(0, 1), 1);
        due("key on: source", x.fan(0, 2), 3);
        due("auto: damper", x.damper(0, 2), 0);
        due("auto: fan", x.fan(1, 2), 0);
        due("switchFan(0, 0) with the key on", x.switchFan(0, 0), 1);
        due("then: fan", x.fan(0, 2), 0);
        x.turnKey(false);
        due("the switch stays without the key", x.switchDamper(1, 0), 2);
    }

    private static void operators() {
        SmokeControl x = Check.plant("damper supply 0 3 open;damper supply 0 3;fan stair 1 1;fan stair 1 1;");
        due("operateDamper(0, 2)", x.operateDamper(0, 2), 0);
        due("command", x.damper(0, 1), 0);
        due("source", x.damper(0, 2), 1);
        due("operateDamper(0, 0)", x.operateDamper(0, 0), 2);
        due("command", x.damper(0, 1), 1);
        due("source", x.damper(0, 2), 0);
        due("operateDamper(1, 1)", x.operateDamper(1, 1), 0);
        due("operateDamper(1, 3)", x.operateDamper(1, 3), -2);
        due("operateDamper(1, -1)", x.operateDamper(1, -1), -2);
        due("operateDamper(2, 0)", x.operateDamper(2, 0), -1);
        due("operateDamper(2, 5)", x.operateDamper(2, 5), -1);
        due("operateFan(1, 1)", x.operateFan(1, 1), 0);
        due("command", x.fan(1, 1), 1);
        due("source", x.fan(1, 2), 1);
        due("operateFan(1, 2)", x.operateFan(1, 2), 1);
        due("command", x.fan(1, 1), 0);
        due("source", x.fan(1, 2), 1);
        due("operateFan(1, 0)", x.operateFan(1, 0), 2);
        due("source", x.fan(1, 2), 0);
        due("operateFan(1, 3)", x.operateFan(1, 3), -2);
        due("operateFan(1, -1)", x.operateFan(1, -1), -2);
        due("operateFan(2, 1)", x.operateFan(2, 1), -1);
        for (int number : NO_NUMBERS) {
            due("operateDamper(" + number + ")", x.operateDamper(number, 1), -1);
            due("operateFan(" + number + ")", x.operateFan(number, 1), -1);
        }
    }

    private static void priorities() {
        SmokeControl x = Check.plant("damper supply 0 3;fan stair 1 1;rule alarm 0 do shut 0,stop 0;");
        x.operateDamper(0, 1);
        x.operateFan(0, 1);
        x.setSource(0, 50);
        x.tick(1);
        due("operator: damper", x.damper(0, 1) * 10 + x.damper(0, 2), 11);
        due("operator: fan", x.fan(0, 1) * 10 + x.fan(0, 2), 11);
        x.tick(1);
        due("rules: damper", x.damper(0, 1) * 10 + x.damper(0, 2), 2);
        due("rules: fan", x.fan(0, 1) * 10 + x.fan(0, 2), 2);
        x.switchDamper(0, 1);
        x.switchFan(0, 1);
        due("switch without key", x.damper(0, 2), 2);
        x.turnKey(true);
        due("panel: damper", x.damper(0, 1) * 10 + x.damper(0, 2), 13);
        due("panel: fan", x.fan(0, 1) * 10 + x.fan(0, 2), 13);
        x.switchDamper(0, 0);
        due("auto: damper", x.damper(0, 2), 2);
        due("panel: fan", x.fan(0, 2), 3);
    }

    private static void ticks() {
        SmokeControl x = new SmokeControl();
        due("tick(0)", x.tick(0), -2);
        due("tick(-1)", x.tick(-1), -2);
        due("tick(201)", x.tick(201), -2);
        due("tick(MIN)", x.tick(Integer.MIN_VALUE), -2);
        due("tick(MAX)", x.tick(Integer.MAX_VALUE), -2);
        due("time", x.time(), 0);
        due("tick(1)", x.tick(1), 1);
        due("tick(200)", x.tick(200), 200);
        due("time", x.time(), 201);
    }

    private static void endOfTime() {
        SmokeControl x = Check.plant("damper supply 0 3;");
        Check.pass(x, 9900);
        due("time", x.time(), 9900);
        due("tick(200)", x.tick(200), 99);
        due("time", x.time(), 9999);
        x.setSource(0, 9);
        x.operateDamper(0, 1);
        due("tick(1) at the end", x.tick(1), 0);
        due("tick(0) at the end", x.tick(0), -2);
        due("nothing passed: smoke", x.smoke(0), 0);
        due("nothing passed: damper", x.damper(0, 0), 0);
        due("nothing passes in a trial", x.smokeAfter(0, 200), 0);
        due("time", x.time(), 9999);
    }

    private static void resetTrouble() {
        SmokeControl x = Check.plant("proof 2;damper supply 0 3;damper supply 0 9 open;fan supply 5 3 1;");
        x.jam(0, true);
        x.breakFan(0, true);
        x.operateDamper(0, 1);
        x.operateFan(0, 1);
        x.tick(6);
        due("damper trouble", x.damper(0, 3), 1);
        due("damper timer", x.damper(0, 4), 5);
        due("fan trouble", x.fan(0, 3), 1);
        due("fan timer", x.fan(0, 4), 6);
        due("events", x.events(), 2);
        due("reset", x.reset(), 0);
        due("damper trouble ended", x.damper(0, 3), 0);
        due("damper timer", x.damper(0, 4), 0);
        due("fan trouble ended", x.fan(0, 3), 0);
        due("fan timer", x.fan(0, 4), 0);
        due("the log stays", x.events(), 2);
        due("the jam stays", x.jam(0, true), 0);
        due("the fan stays broken", x.breakFan(0, true), 0);
        x.tick(4);
        due("no change of the command, so the timer goes on from 0", x.damper(0, 4), 4);
        due("no trouble yet", x.damper(0, 3) + x.fan(0, 3), 0);
        x.tick(1);
        due("damper trouble again", x.damper(0, 3), 1);
        due("fan trouble again", x.fan(0, 3), 1);
        due("two more events", x.events(), 4);
        due("time", x.event(1, 0), 11);
        due("code", x.event(1, 1), 1);
        due("code", x.event(0, 1), 2);
    }

    private static void resetPressure() {
        SmokeControl x = Check.plant("fan stair 1 1;door 0 50 500;");
        x.operateFan(0, 1);
        x.tick(29);
        due("reset", x.reset(), 0);
        x.tick(29);
        due("the timer began again", x.stair(5), 0);
        x.tick(1);
        due("pressure trouble", x.stair(5), 1);
        due("code", x.event(0, 1), 3);
        due("time", x.event(0, 0), 59);
        x.reset();
        due("pressure trouble ended", x.stair(5), 0);
        x.tick(30);
        due("pressure trouble again", x.stair(5), 1);
        due("time", x.event(0, 0), 89);
    }

    private static void resetAlarms() {
        // One tick of 999 exhaust brings 100 to 51.
        SmokeControl x = Check.plant("damper exhaust 0 1 open;fan exhaust 999 1 0;");
        x.setSource(0, 50);
        x.tick(2);
        due("smoke", x.smoke(0), 100);
        due("alarm", x.alarm(0), 1);
        due("reset with smoke 100", x.reset(), 1);
        due("alarm", x.alarm(0), 1);
        due("firstAlarm", x.firstAlarm(), 0);
        x.setSource(0, 0);
        x.operateFan(0, 1);
        x.tick(1);
        due("smoke", x.smoke(0), 51);
        due("alarm stays until reset", x.alarm(0), 1);
        due("reset with smoke 51", x.reset(), 0);
        due("alarm", x.alarm(0), 0);
        due("firstAlarm", x.firstAlarm(), -4);
        x.operateFan(0, 2);
        x.setSource(0, 50);
        x.tick(1);
        due("smoke without exhaust", x.smoke(0), 101);
        due("alarm again", x.alarm(0), 1);
        due("time", x.event(0, 0), 4);
        due("code", x.event(0, 1), 0);
    }

    private static void resetFirstAlarm() {
        // Zones 0 and 3 are too far from zone 2 to get much of its smoke; zone 2 is cleared by its exhaust.
        SmokeControl x = Check.plant("zones 4;damper exhaust 2 1 open;fan exhaust 999 1 0;rule after 4 do close 0;");
        x.setSource(2, 50);
        x.tick(3);
        due("first alarm", x.firstAlarm(), 2);
        x.setSource(2, 0);
        x.setSource(0, 50);
        x.setSource(3, 50);
        x.tick(4);
        due("alarms", x.alarm(0) + x.alarm(1) + x.alarm(2) + x.alarm(3), 3);
        due("the first one stays first", x.firstAlarm(), 2);
        due("after 4", x.ruleHolds(0), 1);
        due("reset changes nothing", x.reset(), 3);
        due("the first one stays first", x.firstAlarm(), 2);
        due("its alarm time stays", x.ruleHolds(0), 1);
        x.operateFan(0, 1);
        x.tick(3);
        due("zone 2 is cleared", x.smoke(2) < 100 ? 1 : 0, 1);
        due("reset", x.reset(), 2);
        due("the lowest becomes the first", x.firstAlarm(), 0);
        due("with the present time", x.ruleHolds(0), 0);
        x.tick(3);
        due("after 3 ticks", x.ruleHolds(0), 0);
        x.tick(1);
        due("after 4 ticks", x.ruleHolds(0), 1);
    }
}
