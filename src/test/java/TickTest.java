/** Sections 2 and 4 of the document, by way of promise 17 (tick): commands by rules, and the steps of a tick. */
final class TickTest {
    public static void main(String[] args) {
        zoneActions();
        firstActionCounts();
        commandsBeforeTheTick();
        damperMoves();
        damperTimer();
        damperWithoutProofTime();
        fanLevels();
        fanTrouble();
        orderOfEvents();
        pressure();
        throttle();
        throttleEdges();
        pressureTimer();
        sources();
        clearing();
        clearingLimit();
        flows();
        flowLimits();
        doorSmoke();
        stairClearing();
        Check.end();
    }

    private static void due(String call, int got, int want) {
        Check.due(call, got, want);
    }

    private static int commands(SmokeControl x, int dampers) {
        int found = 0;
        for (int d = 0; d < dampers; d++) {
            found = found * 10 + x.damper(d, 1);
        }
        return found;
    }

    private static SmokeControl withAlarm(String text) {
        SmokeControl x = Check.plant(text);
        x.setSource(0, 50);
        x.tick(3);
        x.setSource(0, 0);
        due("alarm", x.alarm(0), 1);
        return x;
    }

    private static void zoneActions() {
        String dampers = "zones 2;damper supply 0 1 open;damper supply 0 1;damper exhaust 0 1 open;damper exhaust 0 1;"
            + "damper supply 1 1 open;damper exhaust 1 1;";
        due("none", commands(withAlarm(dampers), 6), 101010);
        due("extract", commands(withAlarm(dampers + "rule alarm 0 do extract 0;"), 6), 1110);
        due("press", commands(withAlarm(dampers + "rule alarm 0 do press 0;"), 6), 110010);
        due("close", commands(withAlarm(dampers + "rule alarm 0 do close 0;"), 6), 10);
        due("purge", commands(withAlarm(dampers + "rule alarm 0 do purge 0;"), 6), 111110);
        due("purge 1", commands(withAlarm(dampers + "rule alarm 0 do purge 1;"), 6), 101011);
        due("open 3", commands(withAlarm(dampers + "rule alarm 0 do open 3;"), 6), 101110);
        due("shut 0", commands(withAlarm(dampers + "rule alarm 0 do shut 0;"), 6), 1010);
        due("no rule that holds", commands(withAlarm(dampers + "rule alarm 1 do shut 0;"), 6), 101010);
    }

    private static void firstActionCounts() {
        SmokeControl x = withAlarm("zones 2;damper supply 0 1;damper supply 0 1;fan stair 1 1;fan stair 1 1;"
            + "rule alarm 1 do close 0,stop 1;rule alarm 0 do open 0,close 0,start 0,stop 0;"
            + "rule alarm 0 do purge 0,start 1,stop 1,stop 0;");
        due("dampers", commands(x, 2), 10);
        due("source", x.damper(1, 2), 2);
        due("fan 0", x.fan(0, 1), 1);
        due("fan 1", x.fan(1, 1), 1);
        SmokeControl y = Check.plant("damper supply 0 1;rule not alarm 0 do open 0;rule trouble or not trouble do open 0;");
        y.setDetector(0, true);
        y.setSource(0, 50);
        y.tick(10);
        due("the rule holds", y.ruleHolds(0), 1);
        due("but without an alarm rules give no commands", y.damper(0, 2), 0);
        y.setDetector(0, false);
        y.tick(1);
        due("with an alarm they do", y.damper(0, 2), 2);
    }

    private static void commandsBeforeTheTick() {
        SmokeControl x = Check.plant("damper supply 0 9;damper supply 0 9;rule alarm 0 do open 0;rule after 2 do open 1;");
        x.setSource(0, 50);
        x.tick(2);
        due("alarm", x.alarm(0), 1);
        due("the alarm comes after the dampers", x.damper(0, 0), 0);
        x.tick(1);
        due("damper 0", x.damper(0, 0), 1);
        x.tick(1);
        due("after 2", x.damper(1, 1), 1);
        due("the time before the tick counts", x.damper(1, 0), 0);
        x.tick(1);
        due("damper 1", x.damper(1, 0), 1);
    }

    private static void damperMoves() {
        SmokeControl x = Check.plant("damper exhaust 0 3;damper exhaust 0 2 open;");
        x.operateDamper(0, 1);
        x.operateDamper(1, 2);
        int[] up = {1, 2, 3, 3};
        int[] down = {1, 0, 0, 0};
        for (int n = 0; n < 4; n++) {
            x.tick(1);
            due("opens", x.damper(0, 0), up[n]);
            due("shuts", x.damper(1, 0), down[n]);
        }
        x.operateDamper(0, 0);
        x.operateDamper(1, 0);
        x.tick(1);
        due("back", x.damper(0, 0), 2);
        due("back", x.damper(1, 0), 1);
        x.operateDamper(0, 1);
        x.tick(1);
        due("and again", x.damper(0, 0), 3);
    }

    private static void damperTimer() {
        SmokeControl x = Check.plant("proof 4;damper supply 0 3;");
        timers(x, "normal", 0, 0);
        x.operateDamper(0, 1);
        timers(x, "opening", 0, 1, 0, 0);
        x.jam(0, true);
        x.operateDamper(0, 2);
        timers(x, "jammed open", 0, 1, 2);
        x.operateDamper(0, 1);
        timers(x, "proven where it is wanted", 0, 0);
        x.operateDamper(0, 2);
        timers(x, "again", 0, 1, 2, 3, 4, 5, 6);
        due("no trouble", x.damper(0, 3), 0);
        timers(x, "at 3 + 4", 7);
        due("trouble", x.damper(0, 3), 1);
        due("events", x.events(), 1);
        due("time", x.event(0, 0), x.time());
        due("code", x.event(0, 1), 1);
        due("number", x.event(0, 2), 0);
        timers(x, "on", 8);
        x.operateDamper(0, 1);
        timers(x, "wanted open", 0);
        due("trouble stays", x.damper(0, 3), 1);
        x.operateDamper(0, 2);
        timers(x, "once more", 0, 1, 2, 3, 4, 5, 6, 7, 8);
        due("no second event", x.events(), 1);
    }

    private static void timers(SmokeControl x, String when, int... values) {
        for (int value : values) {
            x.tick(1);
            due(when + ": timer", x.damper(0, 4), value);
        }
    }

    private static void damperWithoutProofTime() {
        SmokeControl x = Check.plant("proof 0;damper supply 0 1;damper supply 0 2;");
        x.operateDamper(0, 1);
        x.operateDamper(1, 1);
        x.tick(5);
        due("moving in time is no trouble", x.damper(0, 3) + x.damper(1, 3), 0);
        x.jam(0, true);
        x.operateDamper(0, 2);
        x.tick(1);
        due("the change", x.damper(0, 3), 0);
        x.tick(1);
        due("trouble at 1 + 0", x.damper(0, 3), 1);
    }

    private static void fanLevels() {
        SmokeControl x = Check.plant("damper supply 0 2;fan supply 500 2 0;fan stair 7 3;");
        x.operateFan(0, 1);
        x.operateFan(1, 1);
        x.tick(3);
        due("no damper, no air", x.fan(0, 0), 0);
        due("a stair fan needs none", x.fan(1, 0), 3);
        due("event", x.event(0, 1) * 10 + x.event(0, 2), 41);
        x.operateDamper(0, 1);
        x.tick(1);
        due("a moving damper is not enough", x.fan(0, 0), 0);
        x.tick(1);
        due("a proven one is, in the same tick", x.fan(0, 0), 1);
        due("air", x.fan(0, 5), 250);
        x.tick(3);
        due("at most the ramp time", x.fan(0, 0), 2);
        due("events", x.events(), 2);
        due("event", x.event(0, 1) * 10 + x.event(0, 2), 40);
        due("time", x.event(0, 0), 6);
        x.operateDamper(0, 2);
        x.tick(1);
        due("without a damper it runs down", x.fan(0, 0), 1);
        x.tick(3);
        due("to 0", x.fan(0, 0), 0);
        due("events", x.events(), 3);
        due("event", x.event(0, 1) * 10 + x.event(0, 2), 50);
        due("time", x.event(0, 0), 10);
        x.operateFan(1, 0);
        x.tick(1);
        due("a stopped fan runs down", x.fan(1, 0), 2);
    }

    private static void fanTrouble() {
        SmokeControl x = Check.plant("proof 3;damper supply 0 1 open;fan supply 9 4 0;");
        x.operateFan(0, 1);
        int[] up = {1, 2, 3, 0, 0};
        for (int timer : up) {
            x.tick(1);
            due("running up: timer", x.fan(0, 4), timer);
        }
        x.breakFan(0, true);
        x.tick(6);
        due("timer", x.fan(0, 4), 6);
        due("no trouble", x.fan(0, 3), 0);
        x.tick(1);
        due("at 4 + 3: timer", x.fan(0, 4), 7);
        due("trouble", x.fan(0, 3), 1);
        due("event", x.event(0, 1) * 10 + x.event(0, 2), 20);
        due("time", x.event(0, 0), 12);
        x.operateFan(0, 2);
        x.tick(1);
        due("stop: timer", x.fan(0, 4), 0);
        due("trouble stays", x.fan(0, 3), 1);
        x.operateFan(0, 1);
        x.tick(1);
        due("timer", x.fan(0, 4), 1);
        x.operateDamper(0, 2);
        x.tick(1);
        due("no damper: timer", x.fan(0, 4), 0);
        x.operateDamper(0, 1);
        x.tick(9);
        due("timer", x.fan(0, 4), 9);
        due("no second event of trouble", x.events(), 3);
        x.breakFan(0, false);
        x.tick(4);
        due("but one of the level", x.event(0, 1), 4);
    }

    private static void orderOfEvents() {
        SmokeControl x = Check.plant("zones 3;proof 0;damper supply 0 2;damper supply 0 2;damper exhaust 0 2 open;"
            + "fan stair 9 3;fan exhaust 9 3 2;fan stair 9 3;");
        x.operateFan(0, 1);
        x.operateFan(1, 1);
        x.operateFan(2, 1);
        x.tick(3);
        due("levels reach the ramp time", codes(x, 3), 404142);
        x.operateFan(1, 2);
        x.breakFan(0, true);
        x.breakFan(2, true);
        x.jam(0, true);
        x.jam(1, true);
        x.operateDamper(0, 1);
        x.operateDamper(1, 1);
        x.setSource(0, 49);
        x.setSource(1, 49);
        x.tick(3);
        due("events", x.events(), 12);
        int[][] last = {{1, 0}, {1, 1}, {5, 0}, {2, 0}, {5, 1}, {5, 2}, {2, 2}, {0, 0}, {0, 1}};
        for (int n = 0; n < 9; n++) {
            due("event " + n + ": time", x.event(8 - n, 0), 6);
            due("event " + n + ": code", x.event(8 - n, 1), last[n][0]);
            due("event " + n + ": number", x.event(8 - n, 2), last[n][1]);
        }
    }

    /** Codes and numbers of the events, the oldest first, if there are n of them; else 0. */
    private static int codes(SmokeControl x, int n) {
        int found = 0;
        for (int e = n - 1; e >= 0 && x.events() == n; e--) {
            found = found * 100 + x.event(e, 1) * 10 + x.event(e, 2);
        }
        return found;
    }

    private static void pressure() {
        SmokeControl x = Check.plant("fan stair 999 3;door 0 1 51;target 200;");
        due("at first", x.stair(0), 0);
        x.operateFan(0, 1);
        x.tick(1);
        due("at most 999", x.stair(0), 999);
        x.setDoor(0, true);
        x.tick(1);
        due("666 * 95 / 100 = 632 on 51", x.stair(0), 153);
        SmokeControl y = Check.plant("fan stair 999 1;");
        y.operateFan(0, 1);
        y.tick(3);
        due("no doors, no pressure", y.stair(0), 0);
        due("throttle", y.stair(1), 100);
    }

    private static void throttle() {
        SmokeControl x = Check.plant("fan stair 300 1;door 0 10 300;target 36;");
        x.operateFan(0, 1);
        x.tick(1);
        due("pressure", x.stair(0), 900);
        due("throttle", x.stair(1), 95);
        x.tick(1);
        due("285 * 285 / 100", x.stair(0), 812);
        due("throttle", x.stair(1), 90);
        x.tick(13);
        due("throttle", x.stair(1), 25);
        x.tick(1);
        due("pressure", x.stair(0), 56);
        due("throttle", x.stair(1), 20);
        x.tick(3);
        due("pressure at the target", x.stair(0), 36);
        due("throttle stays", x.stair(1), 20);
        x.setDoor(0, true);
        x.tick(1);
        due("pressure", x.stair(0), 0);
        due("throttle", x.stair(1), 25);
        x.tick(30);
        due("throttle", x.stair(1), 100);
    }

    private static void throttleEdges() {
        SmokeControl x = Check.plant("fan stair 74 1;door 0 10 300;target 49;");
        x.operateFan(0, 1);
        x.tick(2);
        due("74 * 74 / 100 is the target + 5", x.stair(0), 54);
        due("throttle stays", x.stair(1), 100);
        SmokeControl y = Check.plant("fan stair 74 1;door 0 10 300;target 48;");
        y.operateFan(0, 1);
        y.tick(1);
        due("above the target + 5", y.stair(1), 95);
        SmokeControl z = Check.plant("fan stair 999 1;door 0 1 51;target 1;");
        z.operateFan(0, 1);
        z.tick(40);
        due("at least 20", z.stair(1), 20);
    }

    private static void pressureTimer() {
        SmokeControl x = Check.plant("fan stair 1 1;fan stair 10 1;door 0 1 51;target 90;");
        x.tick(100);
        due("no command, no trouble", x.stair(5), 0);
        x.operateFan(0, 1);
        x.tick(29);
        x.operateFan(0, 2);
        x.tick(1);
        due("a tick without start", x.stair(5), 0);
        x.operateFan(0, 1);
        x.tick(29);
        x.operateFan(1, 1);
        x.tick(1);
        due("pressure", x.stair(0), 121);
        due("a tick with pressure", x.stair(5), 0);
        x.operateFan(1, 2);
        x.tick(29);
        due("29 ticks", x.stair(5), 0);
        x.tick(1);
        due("30 ticks", x.stair(5), 1);
        due("time", x.event(0, 0), 190);
        due("code", x.event(0, 1), 3);
        due("number", x.event(0, 2), 0);
        int events = x.events();
        x.operateFan(0, 2);
        x.tick(1);
        due("pressure trouble stays", x.stair(5), 1);
        due("the level's event", x.events(), events + 1);
        x.operateFan(0, 1);
        x.tick(40);
        due("no second event of trouble", x.events(), events + 2);
        due("code", x.event(0, 1), 4);
        SmokeControl y = Check.plant("fan stair 9 1;");
        y.operateFan(0, 1);
        y.tick(30);
        due("without doors the pressure is 0", y.stair(5), 1);
        SmokeControl z = Check.plant("fan stair 9 1;door 0 3 51;target 9;");
        z.operateFan(0, 1);
        z.tick(60);
        due("the target is enough", z.stair(5), 0);
        SmokeControl w = Check.plant("damper supply 0 1 open;fan supply 9 1 0;door 0 3 51;target 9;");
        w.operateFan(0, 1);
        w.tick(60);
        due("a supply fan is no stair fan", w.stair(5), 0);
    }

    private static void sources() {
        SmokeControl x = new SmokeControl();
        x.setSource(0, 49);
        x.tick(2);
        due("smoke", x.smoke(0), 98);
        due("alarm", x.alarm(0), 0);
        x.setSource(0, 2);
        x.tick(1);
        due("smoke", x.smoke(0), 100);
        due("alarm at 100", x.alarm(0), 1);
        due("event", x.event(0, 0) * 100 + x.event(0, 1) * 10 + x.event(0, 2), 300);
        x.setSource(0, 50);
        x.tick(30);
        due("at most 1000", x.smoke(0), 1000);
        due("one event", x.events(), 1);
    }

    private static void clearing() {
        SmokeControl x = Check.plant("damper exhaust 0 1 open;fan exhaust 400 1 0;");
        x.operateFan(0, 1);
        x.setSource(0, 50);
        x.tick(1);
        due("50 - 50 * 400 / 2000", x.smoke(0), 40);
        x.tick(1);
        due("90 - 90 * 400 / 2000", x.smoke(0), 72);
        SmokeControl y = Check.plant("damper supply 0 1 open;fan supply 401 1 0;");
        y.operateFan(0, 1);
        y.setSource(0, 50);
        y.tick(1);
        due("50 - 50 * (401 / 2) / 2000", y.smoke(0), 45);
        SmokeControl z = Check.plant("damper supply 0 1 open;damper exhaust 0 1 open;fan supply 401 1 0;fan exhaust 199 1 1;");
        z.operateFan(0, 1);
        z.operateFan(1, 1);
        z.setSource(0, 50);
        z.tick(1);
        due("50 - 50 * (199 + 200) / 2000", z.smoke(0), 41);
    }

    private static void clearingLimit() {
        SmokeControl x = Check.plant("damper exhaust 0 1 open;fan exhaust 999 1 0;fan exhaust 999 1 0;");
        x.operateFan(0, 1);
        x.operateFan(1, 1);
        x.setSource(0, 50);
        x.tick(1);
        due("exhaust", x.exhaust(0), 1998);
        due("M is at most 1000", x.smoke(0), 25);
    }

    private static void flows() {
        SmokeControl x = Check.plant("zones 3;");
        x.setSource(1, 50);
        x.tick(1);
        due("50 * 100 / 5000 down", x.smoke(0), 1);
        due("50 - 1 - 1", x.smoke(1), 48);
        due("and up", x.smoke(2), 1);
        x.tick(10);
        due("all of it is there", x.smoke(0) + x.smoke(1) + x.smoke(2), 550);
        SmokeControl y = Check.plant("zones 2;damper supply 0 1 open;fan supply 300 1 0;");
        y.operateFan(0, 1);
        y.setSource(0, 50);
        y.tick(1);
        due("47 - 47 * 400 / 5000", y.smoke(0), 44);
        due("gained", y.smoke(1), 3);
        SmokeControl z = Check.plant("zones 2;damper exhaust 1 1 open;fan exhaust 300 1 0;");
        z.operateFan(0, 1);
        z.setSource(0, 50);
        z.tick(1);
        due("50 - 50 * 400 / 5000", z.smoke(0), 46);
        due("gained", z.smoke(1), 4);
    }

    private static void flowLimits() {
        SmokeControl x = Check.plant("zones 2;damper supply 0 1 open;fan supply 999 1 0;");
        x.operateFan(0, 1);
        x.setSource(0, 50);
        x.setSource(1, 50);
        x.tick(1);
        due("38 - 38 * 500 / 5000", x.smoke(0), 35);
        due("50 + 3, nothing moves against the net", x.smoke(1), 53);
        SmokeControl y = Check.plant("zones 2;");
        y.setSource(0, 50);
        y.setSource(1, 50);
        y.tick(40);
        due("both are full", y.smoke(0), 1000);
        due("both are full", y.smoke(1), 1000);
        SmokeControl z = Check.plant("zones 2;damper supply 1 1 open;fan supply 200 1 0;");
        z.setSource(0, 50);
        z.setSource(1, 50);
        z.tick(40);
        z.operateFan(0, 1);
        z.tick(1);
        due("1000 - 0 + 950 * 300 / 5000 is limited", z.smoke(0), 1000);
        due("950 - 57", z.smoke(1), 893);
    }

    private static void doorSmoke() {
        SmokeControl x = Check.plant("zones 2;door 0 1 51;door 1 1 51;");
        x.setDoor(0, true);
        x.setSource(0, 50);
        x.tick(1);
        due("50 * 12 * 20 / 2400, from the smoke before it moves", x.stair(2), 5);
        due("the smoke of the zone stays", x.smoke(0), 49);
        x.tick(1);
        due("99 * 12 * 20 / 2400 more", x.stair(2), 14);
        x.tick(60);
        due("at most 1000", x.stair(2), 1000);
        SmokeControl y = Check.plant("door 0 1 51;");
        y.setSource(0, 50);
        y.tick(3);
        due("a shut door: 150 * 12 / 2400", y.stair(2), 0);
        y.tick(1);
        due("200 * 12 / 2400", y.stair(2), 1);
        SmokeControl z = Check.plant("fan stair 11 1;door 0 3 51;");
        z.operateFan(0, 1);
        z.setSource(0, 50);
        z.tick(40);
        due("pressure", z.stair(0), 13);
        due("no smoke against the pressure", z.stair(2), 0);
        SmokeControl w = Check.plant("fan stair 10 1;door 0 3 51;");
        w.operateFan(0, 1);
        w.setSource(0, 50);
        w.tick(20);
        due("pressure", w.stair(0), 11);
        due("smoke", w.smoke(0), 1000);
        due("1000 * 1 / 2400", w.stair(2), 0);
        w.setDoor(0, true);
        w.tick(1);
        due("open: 100 / 2601", w.stair(0), 0);
        due("1000 * 12 * 20 / 2400", w.stair(2), 100);
    }

    private static void stairClearing() {
        SmokeControl x = Check.plant("fan stair 400 1;door 0 50 500;");
        x.setDoor(0, true);
        x.setSource(0, 50);
        x.tick(20);
        x.setDoor(0, false);
        int smoke = x.stair(2);
        x.operateFan(0, 1);
        x.tick(1);
        due("pressure", x.stair(0), 64);
        due("smoke * 400 / 4000 leaves", x.stair(2), smoke - smoke / 10);
        due("throttle", x.stair(1), 95);
        int then = x.stair(2);
        x.tick(1);
        due("smoke * 380 / 4000 leaves", x.stair(2), then - then * 380 / 4000);
        SmokeControl y = Check.plant("fan stair 999 1;fan stair 999 1;door 0 1 51;");
        y.setDoor(0, true);
        y.setSource(0, 50);
        y.tick(20);
        int much = y.stair(2);
        y.operateFan(0, 1);
        y.operateFan(1, 1);
        y.tick(1);
        due("Q counts up to 1000", y.stair(2), much - much / 4);
    }
}
