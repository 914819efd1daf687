/** Promises 32 to 42: trials and slots. */
final class TrialsTest {
    private static final int[] NO_NUMBERS = {-1, Integer.MIN_VALUE, Integer.MAX_VALUE};

    public static void main(String[] args) {
        afterTicks();
        nothingChanges();
        clearAfter();
        bestSwitch();
        bestSwitchOrder();
        bestSwitchTies();
        purgeTime();
        purgeTimeSwitches();
        pressureWith();
        mostOpenDoors();
        worstDoor();
        keepAndRestore();
        slotsHoldAll();
        Check.end();
    }

    private static void due(String call, int got, int want) {
        Check.due(call, got, want);
    }

    /** A zone with smoke 150 and no source at time 3; a damper and a fan for its exhaust, both still. */
    private static SmokeControl smoky(String more) {
        SmokeControl x = Check.plant("damper exhaust 0 1;fan exhaust 999 1 0;" + more);
        x.setSource(0, 50);
        x.tick(3);
        x.setSource(0, 0);
        due("smoke", x.smoke(0), 150);
        return x;
    }

    private static void afterTicks() {
        SmokeControl x = Check.plant("zones 2;fan stair 30 2;door 0 3 60;");
        x.setDoor(0, true);
        x.setSource(0, 50);
        x.operateFan(0, 1);
        due("smokeAfter(0, 0)", x.smokeAfter(0, 0), 0);
        due("smokeAfter(0, 1)", x.smokeAfter(0, 1), 49);
        due("smokeAfter(1, 1)", x.smokeAfter(1, 1), 1);
        due("smokeAfter(0, 201)", x.smokeAfter(0, 201), -2);
        due("smokeAfter(0, -1)", x.smokeAfter(0, -1), -2);
        due("smokeAfter(2, 0)", x.smokeAfter(2, 0), -1);
        due("smokeAfter(2, 201)", x.smokeAfter(2, 201), -1);
        due("allSmokeAfter(0)", x.allSmokeAfter(0), 0);
        due("allSmokeAfter(1): 49 + 1 + 5", x.allSmokeAfter(1), 55);
        due("allSmokeAfter(201)", x.allSmokeAfter(201), -2);
        due("allSmokeAfter(-1)", x.allSmokeAfter(-1), -2);
        due("pressureAfter(0)", x.pressureAfter(0), 0);
        due("pressureAfter(2): 30 / 60", x.pressureAfter(2), 0);
        x.setDoor(0, false);
        due("pressureAfter(0)", x.pressureAfter(0), 0);
        due("pressureAfter(1): 15 / 3", x.pressureAfter(1), 25);
        due("pressureAfter(2): 30 / 3", x.pressureAfter(2), 100);
        due("pressureAfter(201)", x.pressureAfter(201), -2);
        due("pressureAfter(-1)", x.pressureAfter(-1), -2);
        for (int number : NO_NUMBERS) {
            due("smokeAfter(" + number + ", 1)", x.smokeAfter(number, 1), -1);
            due("allSmokeAfter(" + number + ")", x.allSmokeAfter(number), -2);
            due("pressureAfter(" + number + ")", x.pressureAfter(number), -2);
        }
        int smoke = x.smokeAfter(0, 200);
        int all = x.allSmokeAfter(200);
        int pressure = x.pressureAfter(200);
        x.tick(200);
        due("pressureAfter(0)", x.pressureAfter(0), x.stair(0));
        due("the pressure is not 0", x.stair(0) > 0 ? 1 : 0, 1);
        due("smokeAfter(0, 200)", smoke, x.smoke(0));
        due("allSmokeAfter(200)", all, x.smoke(0) + x.smoke(1) + x.stair(2));
        due("pressureAfter(200)", pressure, x.stair(0));
        Check.pass(x, 9790);
        int nearEnd = x.smokeAfter(1, 200);
        x.tick(9);
        due("time", x.time(), 9999);
        due("no ticks beyond 9999", nearEnd, x.smoke(1));
    }

    private static void nothingChanges() {
        SmokeControl x = smoky("damper supply 0 2;door 0 5 60;proof 0;");
        x.turnKey(true);
        x.switchDamper(0, 1);
        x.turnKey(false);
        int[] before = seen(x);
        x.smokeAfter(0, 50);
        x.allSmokeAfter(50);
        x.pressureAfter(50);
        x.clearAfter(1);
        x.bestSwitch(5);
        x.purgeTime(0);
        x.pressureWith(1);
        x.mostOpenDoors();
        x.worstDoor();
        int[] after = seen(x);
        for (int n = 0; n < before.length; n++) {
            due("trials change nothing: " + n, after[n], before[n]);
        }
        due("the key stays off", x.turnKey(false), 0);
        due("the switch stays", x.switchDamper(0, 0), 1);
        due("the other switch stays", x.switchDamper(1, 0), 0);
        due("the fan's switch stays", x.switchFan(0, 0), 0);
        due("the door stays", x.setDoor(0, false), 0);
    }

    private static int[] seen(SmokeControl x) {
        return new int[] {x.time(), x.smoke(0), x.stair(0), x.stair(1), x.stair(2), x.alarm(0), x.firstAlarm(),
            x.damper(0, 0), x.damper(0, 2), x.damper(0, 3), x.damper(0, 4), x.fan(0, 0), x.fan(0, 4), x.events(),
            x.event(0, 0), x.event(0, 1)};
    }

    private static void clearAfter() {
        SmokeControl x = smoky("");
        due("clearAfter(151)", x.clearAfter(151), 0);
        due("clearAfter(150)", x.clearAfter(150), -4);
        x.operateDamper(0, 1);
        x.operateFan(0, 1);
        due("clearAfter(150): 150, 76", x.clearAfter(150), 1);
        due("clearAfter(77)", x.clearAfter(77), 1);
        due("clearAfter(76)", x.clearAfter(76), 2);
        due("clearAfter(1)", x.clearAfter(1), -4);
        due("clearAfter(0)", x.clearAfter(0), -2);
        due("clearAfter(-1)", x.clearAfter(-1), -2);
        due("clearAfter(1000)", x.clearAfter(1000), 0);
        due("clearAfter(1001)", x.clearAfter(1001), -2);
        due("clearAfter(MIN)", x.clearAfter(Integer.MIN_VALUE), -2);
        due("clearAfter(MAX)", x.clearAfter(Integer.MAX_VALUE), -2);
        SmokeControl y = Check.plant("zones 2;");
        y.setSource(1, 50);
        y.tick(1);
        due("every zone counts", y.clearAfter(49), -4);
        due("clearAfter(50)", y.clearAfter(50), 0);
        SmokeControl z = Check.plant("damper exhaust 0 30;fan exhaust 999 30 0;");
        z.setSource(0, 50);
        z.tick(20);
        z.setSource(0, 0);
        z.operateDamper(0, 1);
        z.operateFan(0, 1);
        due("1000 - 1000 * 33 / 2000 when the fan begins", z.clearAfter(1000), 30);
        z.jam(0, true);
        due("never", z.clearAfter(1000), -4);
        SmokeControl w = Check.plant("damper exhaust 0 1 open;fan exhaust 5 1 0;");
        w.setSource(0, 50);
        w.tick(30);
        w.setSource(0, 0);
        w.operateFan(0, 1);
        due("101 ticks of 2 and 99 of 1", w.clearAfter(700), 200);
        due("not in 200 ticks", w.clearAfter(699), -4);
    }

    private static void bestSwitch() {
        SmokeControl x = smoky("");
        due("bestSwitch(0)", x.bestSwitch(0), -2);
        due("bestSwitch(61)", x.bestSwitch(61), -2);
        due("bestSwitch(-1)", x.bestSwitch(-1), -2);
        due("bestSwitch(MIN)", x.bestSwitch(Integer.MIN_VALUE), -2);
        due("bestSwitch(MAX)", x.bestSwitch(Integer.MAX_VALUE), -2);
        due("one switch alone does not help", x.bestSwitch(60), 0);
        x.operateFan(0, 1);
        due("damper 0 open", x.bestSwitch(1), 11);
        x.operateFan(0, 0);
        x.operateDamper(0, 1);
        due("fan 0 start", x.bestSwitch(1), 21);
        x.operateFan(0, 1);
        due("no change is the best", x.bestSwitch(5), 0);
        x.switchFan(0, 2);
        due("the key is on in every trial", x.bestSwitch(5), 21);
        x.switchDamper(0, 1);
        x.switchFan(0, 1);
        x.operateFan(0, 0);
        due("the switches already stand best", x.bestSwitch(5), 0);
    }

    private static void bestSwitchOrder() {
        // Smoke in zone 0 alone; the second damper of the fan takes half of the air to zone 7.
        SmokeControl x = Check.plant("zones 8;damper exhaust 0 1 open;damper exhaust 7 1 open;fan exhaust 999 1 0 1;");
        x.setSource(0, 50);
        x.operateFan(0, 1);
        x.tick(10);
        due("damper 1 shut", x.bestSwitch(1), 22);
        SmokeControl y = Check.plant("damper exhaust 0 1 open;fan exhaust 100 1 0;fan exhaust 500 1 0;fan exhaust 500 1 0;");
        y.setSource(0, 50);
        y.tick(10);
        due("fan 1 before fan 2", y.bestSwitch(1), 31);
        SmokeControl z = Check.plant("fan stair 50 1;fan stair 60 1;door 0 1 500;target 1;");
        z.setDoor(0, true);
        z.setSource(0, 50);
        z.tick(20);
        z.setSource(0, 0);
        due("the smoke of the staircase counts", z.bestSwitch(30), 21);
    }

    private static void bestSwitchTies() {
        SmokeControl x = Check.plant("damper exhaust 0 1;damper exhaust 0 1;fan exhaust 100 1 0 1;");
        x.setSource(0, 50);
        x.tick(10);
        x.operateFan(0, 1);
        due("the first of two dampers", x.bestSwitch(1), 11);
        SmokeControl y = new SmokeControl();
        due("nothing to switch", y.bestSwitch(60), 0);
        SmokeControl z = Check.plant("damper exhaust 0 1;fan stair 1 1;");
        due("no smoke at all", z.bestSwitch(60), 0);
    }

    private static void purgeTime() {
        SmokeControl x = smoky("");
        due("purgeTime(0)", x.purgeTime(0), 1);
        due("purgeTime(1)", x.purgeTime(1), -1);
        for (int zone : NO_NUMBERS) {
            due("purgeTime(" + zone + ")", x.purgeTime(zone), -1);
        }
        x.switchDamper(0, 2);
        x.switchFan(0, 2);
        due("the switches are set", x.purgeTime(0), 1);
        x.jam(0, true);
        due("a jammed damper", x.purgeTime(0), -4);
        SmokeControl y = new SmokeControl();
        y.setSource(0, 33);
        y.tick(3);
        due("smoke 99", y.purgeTime(0), 0);
        y.setSource(0, 1);
        y.tick(1);
        due("smoke 100", y.purgeTime(0), -4);
        SmokeControl z = Check.plant("damper exhaust 0 30;fan exhaust 999 30 0;");
        z.setSource(0, 50);
        z.tick(3);
        z.setSource(0, 0);
        int time = z.purgeTime(0);
        z.turnKey(true);
        z.switchDamper(0, 1);
        z.switchFan(0, 1);
        z.tick(time - 1);
        due("not before", z.smoke(0) < 100 ? 1 : 0, 0);
        z.tick(1);
        due("but then", z.smoke(0) < 100 ? 1 : 0, 1);
        due("the longest time", slowly(1).purgeTime(0), 200);
        due("one tick more is too much", slowly(2).purgeTime(0), -4);
    }

    private static SmokeControl slowly(int travel) {
        SmokeControl x = Check.plant("damper exhaust 0 " + travel + ";fan exhaust 25 1 0;");
        x.setSource(0, 50);
        x.tick(15);
        x.setSource(0, 0);
        due("smoke", x.smoke(0), 750);
        return x;
    }

    private static void purgeTimeSwitches() {
        // Zone 0 has a supply and an exhaust damper; the damper and the fan of zone 1 are left alone.
        SmokeControl x = Check.plant("zones 2;damper supply 0 1;damper exhaust 0 1;damper exhaust 1 1;"
            + "fan supply 400 2 0;fan exhaust 100 2 2 1;fan exhaust 900 2 2;");
        x.setSource(0, 50);
        x.setSource(1, 50);
        x.tick(6);
        x.setSource(0, 0);
        x.setSource(1, 0);
        int time = x.purgeTime(0);
        x.turnKey(true);
        x.switchDamper(0, 1);
        x.switchDamper(1, 1);
        x.switchFan(0, 1);
        x.switchFan(1, 1);
        int ticks = 0;
        while (ticks < 200 && x.smoke(0) >= 100) {
            x.tick(1);
            ticks++;
        }
        due("purgeTime(0)", time, ticks);
        due("which takes some ticks", ticks > 2 ? 1 : 0, 1);
        due("damper 2 stays shut", x.damper(2, 0), 0);
        SmokeControl y = Check.plant("fan stair 900 1;door 0 1 51;");
        y.setSource(0, 50);
        y.tick(3);
        due("no fan has a damper of the zone", y.purgeTime(0), -4);
    }

    private static void pressureWith() {
        SmokeControl x = Check.plant("fan stair 300 9;fan stair 50 9;damper supply 0 1 open;fan supply 999 1 0;"
            + "door 0 10 60;door 0 5 300;");
        due("350 / 15", x.pressureWith(0), 544);
        due("350 / 65", x.pressureWith(1), 28);
        due("350 / 310", x.pressureWith(2), 1);
        due("350 / 360", x.pressureWith(3), 0);
        due("pressureWith(4)", x.pressureWith(4), -2);
        due("pressureWith(5)", x.pressureWith(5), -2);
        due("pressureWith(-1)", x.pressureWith(-1), -2);
        due("pressureWith(MIN)", x.pressureWith(Integer.MIN_VALUE), -2);
        due("pressureWith(MAX)", x.pressureWith(Integer.MAX_VALUE), -2);
        x.setDoor(0, true);
        x.operateFan(0, 1);
        x.tick(20);
        due("whatever the state", x.pressureWith(0), 544);
        SmokeControl y = Check.plant("fan stair 999 1;");
        due("no doors", y.pressureWith(0), 0);
        due("no doors: pressureWith(1)", y.pressureWith(1), -2);
        SmokeControl z = Check.plant("fan stair 999 1;door 0 1 51;");
        due("at most 999", z.pressureWith(0), 999);
        SmokeControl w = Check.plant("fan stair 999 1;" + "door 0 1 51;".repeat(10));
        due("all of ten", w.pressureWith(1023), 3);
        due("an eleventh", w.pressureWith(1024), -2);
    }

    private static void mostOpenDoors() {
        SmokeControl x = Check.plant("fan stair 300 1;door 0 1 500;door 0 1 51;door 0 1 61;door 0 5 90;target 6;");
        due("doors 1 and 2: 300 / 118", x.pressureWith(6), 6);
        due("mostOpenDoors", x.mostOpenDoors(), 2);
        x.setDoor(0, true);
        due("whatever is open", x.mostOpenDoors(), 2);
        due("target 7", Check.plant("fan stair 300 1;door 0 1 500;door 0 1 51;door 0 1 61;door 0 5 90;target 7;")
            .mostOpenDoors(), 1);
        due("all", Check.plant("fan stair 999 1;fan stair 999 1;door 0 1 51;door 0 1 60;").mostOpenDoors(), 2);
        due("none, but all shut will do", Check.plant("fan stair 70 1;door 0 1 51;").mostOpenDoors(), 0);
        due("not even shut", Check.plant("fan stair 7 1;door 0 1 51;").mostOpenDoors(), -4);
        due("at the target", Check.plant("fan stair 7 1;door 0 1 51;target 49;").mostOpenDoors(), 0);
        due("no doors", Check.plant("fan stair 999 1;").mostOpenDoors(), -4);
        // The open area alone does not tell: a door that leaks more when shut adds less when opened.
        due("what a door adds counts", Check.plant("fan stair 300 1;door 0 1 80;door 0 50 82;target 9;").mostOpenDoors(), 1);
    }

    private static void worstDoor() {
        SmokeControl x = Check.plant("fan stair 999 1;door 0 1 80;door 0 50 120;door 0 2 90;door 0 2 90;");
        due("the one that adds most", x.worstDoor(), 2);
        x.setDoor(2, true);
        due("besides those open now", x.worstDoor(), 3);
        x.setDoor(3, true);
        due("then", x.worstDoor(), 0);
        x.setDoor(0, true);
        due("the last", x.worstDoor(), 1);
        x.setDoor(1, true);
        due("all open", x.worstDoor(), -4);
        due("none", new SmokeControl().worstDoor(), -4);
        due("ties at 999", Check.plant("fan stair 999 1;fan stair 999 1;door 0 1 51;door 0 1 52;").worstDoor(), 0);
        due("ties", Check.plant("door 0 1 60;door 0 1 500;").worstDoor(), 0);
        SmokeControl y = Check.plant("door 0 1 60;door 0 1 500;");
        y.setDoor(0, true);
        due("ties among the shut ones", y.worstDoor(), 1);
    }

    private static void keepAndRestore() {
        SmokeControl x = smoky("");
        for (int slot = 0; slot < 3; slot++) {
            due("restore of an empty slot", x.restore(slot), -4);
        }
        due("keep(1)", x.keep(1), 3);
        due("the others stay empty", x.restore(0), -4);
        due("the others stay empty", x.restore(2), -4);
        x.turnKey(true);
        x.tick(4);
        due("keep(2)", x.keep(2), 7);
        x.tick(1);
        due("restore(1)", x.restore(1), 3);
        due("time", x.time(), 3);
        due("key", x.turnKey(false), 0);
        due("log", x.events(), 1);
        due("restore(2)", x.restore(2), 7);
        due("key", x.turnKey(true), 0);
        due("log", x.events(), 2);
        due("event", x.event(0, 1), 6);
        due("event", x.event(0, 0), 3);
        due("the copy stays", x.restore(1), 3);
        due("keep(2) again", x.keep(2), 3);
        due("it has replaced the copy", x.restore(2), 3);
        due("keep(3)", x.keep(3), -1);
        due("restore(3)", x.restore(3), -1);
        for (int slot : NO_NUMBERS) {
            due("keep(" + slot + ")", x.keep(slot), -1);
            due("restore(" + slot + ")", x.restore(slot), -1);
        }
        due("a bad text leaves the slots", Check.load(x, "zones;"), -4);
        due("restore(1)", x.restore(1), 3);
        due("a sound text empties them", Check.load(x, "zones 2;"), 1);
        for (int slot = 0; slot < 3; slot++) {
            due("restore", x.restore(slot), -4);
        }
        SmokeControl y = new SmokeControl();
        due("keep of a new object", y.keep(0), 0);
        due("restore of it", y.restore(0), 0);
    }

    private static void slotsHoldAll() {
        SmokeControl x = Check.plant("zones 2;proof 0;damper supply 0 2;damper exhaust 1 3 open;fan stair 20 4;"
            + "fan exhaust 90 2 1;door 0 3 60;rule after 3 do open 0;");
        x.setSource(0, 50);
        x.setDetector(1, true);
        x.setDoor(0, true);
        x.jam(0, true);
        x.breakFan(1, true);
        x.turnKey(true);
        x.switchDamper(0, 1);
        x.switchFan(1, 1);
        x.operateDamper(1, 1);
        x.operateFan(0, 1);
        x.tick(7);
        x.keep(0);
        int[] then = future(x);
        x.restore(0);
        x.setSource(0, 3);
        x.setSource(1, 4);
        x.setDetector(1, false);
        x.setDetector(0, true);
        x.setDoor(0, false);
        x.jam(0, false);
        x.jam(1, true);
        x.breakFan(1, false);
        x.breakFan(0, true);
        x.turnKey(false);
        x.switchDamper(0, 2);
        x.switchFan(1, 0);
        x.operateDamper(1, 2);
        x.operateFan(0, 0);
        x.reset();
        x.tick(40);
        due("restore(0)", x.restore(0), 7);
        due("source", x.setSource(0, 50), 50);
        due("detector", x.setDetector(1, true), 0);
        due("door", x.setDoor(0, true), 0);
        due("jam", x.jam(0, true), 0);
        due("jam", x.jam(1, false), 0);
        due("breakFan", x.breakFan(1, true), 0);
        due("breakFan", x.breakFan(0, false), 0);
        int[] again = future(x);
        for (int n = 0; n < then.length; n++) {
            due("after restore: " + n, again[n], then[n]);
        }
    }

    /** What is to be seen now and in the ticks that follow. */
    private static int[] future(SmokeControl x) {
        int[] found = new int[15 * 18];
        for (int n = 0; n < 15; n++) {
            int[] seen = {x.time(), x.smoke(0), x.smoke(1), x.stair(0), x.stair(1), x.stair(2), x.firstAlarm(),
                x.ruleHolds(0), x.damper(0, 1), x.damper(0, 2), x.damper(0, 3), x.damper(0, 4), x.damper(1, 0),
                x.fan(0, 0), x.fan(1, 3), x.fan(1, 4), x.events(), x.event(0, 0)};
            System.arraycopy(seen, 0, found, 18 * n, 18);
            x.tick(n == 10 ? 20 : 1);
        }
        return found;
    }
}
