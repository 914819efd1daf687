/**
 * The boundary cases of section 5 and of promises 32 to 42: trials and slots. Each method stands for one sentence of
 * the
 * document, which is told above it.
 */
final class TrialEdgesTest {
    private static final String EXHAUST = "damper exhaust 0 1;fan exhaust 999 1 0;";

    public static void main(String[] args) {
        noTicks();
        mostTicks();
        ticksBeyondTheEnd();
        clearAtTheEnd();
        purgeAtTheEnd();
        bestSwitchAtTheEnd();
        clearBelowLimit();
        clearInEveryZone();
        clearWithoutTheStaircase();
        clearFirstTime();
        clearAtMost200();
        bestSwitchOfOneTick();
        bestSwitchOfSixty();
        bestSwitchTies();
        bestSwitchLastFan();
        bestSwitchWithKey();
        purgeBelowHundred();
        purgeAtMost200();
        purgeSwitchesOfTheZone();
        fullFlow();
        mostDoorsAtTheTarget();
        mostDoorsOfTen();
        worstDoorTies();
        worstDoorBesidesOpenOnes();
        worstDoorAtTheEnds();
        questionsAfterTrials();
        emptySlots();
        slotsAreApart();
        restoreAll();
        restoreCommandBefore();
        slotsAfterLoad();
        slotsAtTheEnds();
        Check.end();
    }

    private static void due(String call, int got, int want) {
        Check.due(call, got, want);
    }

    // ---- section 5

    /** After 0 ticks of a trial all is as it is now. */
    private static void noTicks() {
        SmokeControl x = Check.plant("zones 2;fan stair 90 1;door 0 10 51;");
        x.setSource(0, 50);
        x.setDoor(0, true);
        x.tick(5);
        x.operateFan(0, 1);
        x.setDoor(0, false);
        x.setSource(1, 50);
        due("smokeAfter(0, 0)", x.smokeAfter(0, 0), x.smoke(0));
        due("smokeAfter(1, 0)", x.smokeAfter(1, 0), x.smoke(1));
        due("allSmokeAfter(0)", x.allSmokeAfter(0), x.smoke(0) + x.smoke(1) + x.stair(2));
        due("pressureAfter(0)", x.pressureAfter(0), 0);
        due("pressureAfter(1)", x.pressureAfter(1), 81);
    }

    /** 200 ticks of a trial are those that tick(200) lets pass. */
    private static void mostTicks() {
        SmokeControl x = Check.plant("zones 2;fan stair 90 30;door 0 10 51;door 1 3 99;rule after 100 do start 0;");
        x.setSource(0, 3);
        x.setSource(1, 1);
        x.setDoor(0, true);
        int one = x.smokeAfter(1, 200);
        int all = x.allSmokeAfter(200);
        int pressure = x.pressureAfter(200);
        due("the fan runs before the end", pressure > 0 ? 1 : 0, 1);
        x.tick(200);
        due("smokeAfter(1, 200)", one, x.smoke(1));
        due("allSmokeAfter(200)", all, x.smoke(0) + x.smoke(1) + x.stair(2));
        due("pressureAfter(200)", pressure, x.stair(0));
    }

    private static SmokeControl late(int time, String text) {
        SmokeControl x = Check.plant(text);
        Check.pass(x, time);
        due("time", x.time(), time);
        return x;
    }

    /** "Ticks beyond time 9999 do not pass." */
    private static void ticksBeyondTheEnd() {
        for (int time = 9997; time <= 9999; time++) {
            SmokeControl x = late(time, "fan stair 10 9;door 0 1 51;");
            x.setSource(0, 7);
            x.operateFan(0, 1);
            for (int n : new int[] {0, 1, 2, 3, 200}) {
                int passing = Math.min(n, 9999 - time);
                due("smokeAfter(0, " + n + ") at " + time, x.smokeAfter(0, n), 7 * passing);
                due("allSmokeAfter(" + n + ") at " + time, x.allSmokeAfter(n), 7 * passing);
                // 10 * level / 9 is 1 and 2.
                due("pressureAfter(" + n + ") at " + time, x.pressureAfter(n), passing * passing);
            }
        }
    }

    /** Ticks that do not pass do not clear a zone either. */
    private static void clearAtTheEnd() {
        // 1000, then 500 and 250 by an exhaust of 1000.
        for (int time = 9997; time <= 9999; time++) {
            SmokeControl x = late(time - 20, "damper exhaust 0 1 open;fan exhaust 999 1 0;fan exhaust 1 1 0;");
            x.setSource(0, 50);
            x.tick(20);
            x.setSource(0, 0);
            x.operateFan(0, 1);
            x.operateFan(1, 1);
            due("clearAfter(1000) at " + time, x.clearAfter(1000), time < 9999 ? 1 : -4);
            due("clearAfter(501) at " + time, x.clearAfter(501), time < 9999 ? 1 : -4);
            due("clearAfter(500) at " + time, x.clearAfter(500), time < 9998 ? 2 : -4);
            due("clearAfter(250) at " + time, x.clearAfter(250), -4);
        }
        due("clear already", late(9999, "").clearAfter(1), 0);
    }

    /** purgeTime has no tick beyond the end: 200, 100, 50 takes two, and 198, 99 takes one. */
    private static void purgeAtTheEnd() {
        for (int time = 9997; time <= 9999; time++) {
            due("of 200 at " + time, smokyAt(time, 50).purgeTime(0), time < 9998 ? 2 : -4);
            due("of 198 at " + time, smokyAt(time, 48).purgeTime(0), time < 9999 ? 1 : -4);
        }
        due("less than 100 already", late(9999, "").purgeTime(0), 0);
    }

    private static SmokeControl smokyAt(int time, int lastSource) {
        SmokeControl x = late(time - 4, EXHAUST + "fan exhaust 1 1 0;");
        x.setSource(0, 50);
        x.tick(3);
        x.setSource(0, lastSource);
        x.tick(1);
        x.setSource(0, 0);
        due("smoke", x.smoke(0), 150 + lastSource);
        return x;
    }

    /** At the end of time no switch makes a difference, one tick before it does. */
    private static void bestSwitchAtTheEnd() {
        SmokeControl x = late(9990, "damper exhaust 0 1 open;fan exhaust 999 1 0;");
        x.setSource(0, 50);
        x.tick(8);
        due("one tick is left", x.bestSwitch(60), 21);
        x.tick(1);
        due("none is left", x.bestSwitch(60), 0);
    }

    // ---- promise 35: clearAfter

    /** "after which the smoke of every zone is less than limit" */
    private static void clearBelowLimit() {
        SmokeControl x = new SmokeControl();
        due("0 is less than 1", x.clearAfter(1), 0);
        x.setSource(0, 50);
        x.tick(19);
        x.setSource(0, 49);
        x.tick(1);
        x.setSource(0, 0);
        due("999 is less than 1000", x.clearAfter(1000), 0);
        due("999 is not less than 999", x.clearAfter(999), -4);
        x.setSource(0, 1);
        x.tick(1);
        due("1000 is not less than 1000", x.clearAfter(1000), -4);
    }

    /** "every zone": the first, one between, and the last one. */
    private static void clearInEveryZone() {
        for (int zone : new int[] {0, 3, 7}) {
            SmokeControl x = Check.plant("zones 8;");
            x.setSource(zone, 40);
            x.tick(1);
            x.setSource(zone, 0);
            due("40 in zone " + zone, x.smoke(zone), 40);
            due("clearAfter(41)", x.clearAfter(41), 0);
            due("clearAfter(40)", x.clearAfter(40), -4);
        }
    }

    /** The smoke of the staircase is not that of a zone. */
    private static void clearWithoutTheStaircase() {
        SmokeControl x = Check.plant("door 0 1 51;" + EXHAUST);
        x.setDoor(0, true);
        x.setSource(0, 50);
        x.tick(20);
        x.setSource(0, 0);
        due("the staircase is full", x.stair(2), 1000);
        due("the zone is full", x.clearAfter(1000), -4);
        x.operateDamper(0, 1);
        x.operateFan(0, 1);
        due("the zone alone is cleared", x.clearAfter(1000), 1);
        x.tick(1);
        due("the staircase is full yet", x.stair(2), 1000);
        due("the zone is clear", x.clearAfter(1000), 0);
    }

    /** "the least number of ticks": smoke that comes back later does not matter. */
    private static void clearFirstTime() {
        SmokeControl x = Check.plant("damper exhaust 0 1 open;fan exhaust 999 1 0;rule after 5 do stop 0;");
        x.setSource(0, 50);
        x.tick(4);
        x.operateFan(0, 1);
        // 200, 126, 89 and on; the rule stops the fan 5 ticks after the alarm at time 2.
        due("clearAfter(127)", x.clearAfter(127), 1);
        due("clearAfter(126)", x.clearAfter(126), 2);
        due("clearAfter(100)", x.clearAfter(100), 2);
        due("but it comes back", x.smokeAfter(0, 100), 1000);
    }

    /** "0 to 200" */
    private static void clearAtMost200() {
        // The rule holds from time 221 on, so in the tick to time 222 the damper is open and the fan runs.
        SmokeControl x = Check.plant(EXHAUST + "rule after 219 do open 0;");
        x.setSource(0, 50);
        x.tick(20);
        x.setSource(0, 0);
        x.operateFan(0, 1);
        due("in 202 ticks", x.clearAfter(1000), -4);
        x.tick(1);
        due("in 201 ticks", x.clearAfter(1000), -4);
        x.tick(1);
        due("in 200 ticks", x.clearAfter(1000), 200);
        x.tick(1);
        due("in 199 ticks", x.clearAfter(1000), 199);
    }

    // ---- promise 36: bestSwitch

    /** "n: 1 to 60": what helps in the second tick is nothing for the first. */
    private static void bestSwitchOfOneTick() {
        SmokeControl x = Check.plant("damper exhaust 0 2;fan exhaust 999 1 0;");
        x.setSource(0, 50);
        x.operateFan(0, 1);
        x.tick(5);
        due("bestSwitch(1)", x.bestSwitch(1), 0);
        due("bestSwitch(2)", x.bestSwitch(2), 11);
    }

    /** The 60th tick counts: at time 20 the fan has a damper in the tick to time 80, by the rule that holds at 79. */
    private static void bestSwitchOfSixty() {
        SmokeControl x = Check.plant(EXHAUST + "rule after 77 do open 0;");
        x.setSource(0, 50);
        x.tick(20);
        due("bestSwitch(59)", x.bestSwitch(59), 0);
        due("bestSwitch(60)", x.bestSwitch(60), 21);
        due("bestSwitch(61)", x.bestSwitch(61), -2);
    }

    /** "ties go to the trial without a change, then to the first in this order": dampers, then fans. */
    private static void bestSwitchTies() {
        String two = "damper exhaust 0 1;damper exhaust 0 1;fan exhaust 500 1 0;fan exhaust ";
        int[] flows = {499, 500, 502};
        int[] best = {11, 11, 41};
        for (int n = 0; n < flows.length; n++) {
            // Either damper 0 may be opened, whose fan is started, or fan 1 be started, whose damper is open.
            SmokeControl x = Check.plant(two + flows[n] + " 1 1;");
            x.setSource(0, 50);
            x.tick(20);
            x.operateFan(0, 1);
            x.operateDamper(1, 1);
            due("500 of damper 0, " + flows[n] + " of fan 1", x.bestSwitch(1), best[n]);
        }
        SmokeControl y = Check.plant("damper exhaust 0 1 open;fan exhaust 500 1 0;");
        y.setSource(0, 50);
        y.operateFan(0, 1);
        y.tick(20);
        due("what is open already is no change", y.bestSwitch(30), 0);
        due("nothing to switch", new SmokeControl().bestSwitch(1), 0);
        SmokeControl z = Check.plant("damper exhaust 0 1;damper exhaust 0 1;damper exhaust 0 1;fan exhaust 500 1 2 1;");
        z.setSource(0, 50);
        z.operateFan(0, 1);
        z.tick(20);
        due("the first of the two that help", z.bestSwitch(1), 21);
    }

    /** "10 * (1 + ... the number of dampers + the number of the fan) + the position" at its greatest. */
    private static void bestSwitchLastFan() {
        String most = "damper exhaust 0 1 open;" + "damper supply 0 1;".repeat(15) + "fan stair 1 1;".repeat(4);
        SmokeControl x = Check.plant(most + "fan stair 1 1;fan exhaust 9 1 0;");
        x.setSource(0, 50);
        x.tick(20);
        due("start of fan 5", x.bestSwitch(1), 221);
        x.operateFan(5, 1);
        due("is no change then", x.bestSwitch(1), 0);
        x.operateDamper(0, 2);
        due("open of damper 0", x.bestSwitch(1), 11);
        // While fan 5 runs, the rule stops fan 4 and shuts its damper; one of both alone does not help.
        SmokeControl y = Check.plant(most + "fan exhaust 9 1 0;fan stair 1 1;rule running 5 do stop 4,shut 0;");
        y.setSource(0, 50);
        y.operateFan(4, 1);
        y.operateFan(5, 1);
        y.tick(20);
        due("stop of fan 5", y.bestSwitch(9), 222);
        SmokeControl z = Check.plant("zones 8;" + "damper exhaust 0 1;".repeat(15)
            + "damper exhaust 7 1 open;fan exhaust 99 1 15 0;");
        z.setSource(7, 50);
        z.operateFan(0, 1);
        z.operateDamper(0, 1);
        z.tick(20);
        due("shut of damper 0", z.bestSwitch(1), 12);
        SmokeControl w = Check.plant("zones 8;" + "damper exhaust 7 1;".repeat(14)
            + "damper exhaust 7 1 open;damper exhaust 0 1 open;fan exhaust 99 1 15 14;");
        w.setSource(7, 50);
        w.operateFan(0, 1);
        w.tick(20);
        due("shut of damper 15", w.bestSwitch(1), 162);
    }

    /** "a trial of n ticks begins with the key on", also "one trial with the key on and no switch changed" */
    private static void bestSwitchWithKey() {
        SmokeControl x = Check.plant("damper exhaust 0 1 open;fan exhaust 99 1 0;");
        x.setSource(0, 50);
        x.tick(20);
        x.switchFan(0, 1);
        due("the key alone starts fan 0", x.bestSwitch(1), 0);
        x.operateFan(0, 1);
        x.switchFan(0, 2);
        due("the key would stop it", x.bestSwitch(1), 21);
        x.switchFan(0, 0);
        x.turnKey(true);
        due("the key is on already", x.bestSwitch(1), 0);
        // Without a change damper 0 too stays as its switch says, though it would be open in auto.
        SmokeControl y = Check.plant("damper exhaust 0 1;fan exhaust 99 1 0;");
        y.setSource(0, 50);
        y.operateDamper(0, 1);
        y.operateFan(0, 1);
        y.tick(20);
        y.switchDamper(0, 2);
        due("the key shuts damper 0", y.bestSwitch(1), 11);
        y.switchDamper(0, 1);
        due("the key leaves it open", y.bestSwitch(1), 0);
    }

    // ---- promise 37: purgeTime

    /** "after which the smoke of a zone is less than 100" */
    private static void purgeBelowHundred() {
        SmokeControl x = new SmokeControl();
        due("no smoke", x.purgeTime(0), 0);
        x.setSource(0, 33);
        x.tick(3);
        due("99", x.purgeTime(0), 0);
        x.setSource(0, 1);
        x.tick(1);
        due("100", x.purgeTime(0), -4);
        // Only this zone counts.
        SmokeControl y = Check.plant("zones 8;");
        y.setSource(7, 50);
        y.tick(9);
        due("zone 7", y.purgeTime(7), -4);
        due("zone 0", y.purgeTime(0), 0);
    }

    /** "0 to 200": the same in ticks that really pass tells how long it takes. */
    private static void purgeAtMost200() {
        int[] due = {200, -4};
        for (int travel = 1; travel <= 2; travel++) {
            SmokeControl x = Check.plant("damper exhaust 0 " + travel + ";fan exhaust 25 1 0;");
            x.setSource(0, 50);
            x.tick(15);
            x.setSource(0, 0);
            due("purgeTime", x.purgeTime(0), due[travel - 1]);
            x.turnKey(true);
            x.switchDamper(0, 1);
            x.switchFan(0, 1);
            x.tick(198 + travel);
            due("not yet", x.smoke(0), 100);
            x.tick(1);
            due("but in " + (199 + travel) + " ticks", x.smoke(0), 99);
        }
    }

    /** "the switches of all dampers of this zone, and of all fans that have one of these in their lists" */
    private static void purgeSwitchesOfTheZone() {
        // Fan 1 has a damper of each zone, of which that of zone 1 stays as it is; fan 2 has none of zone 0, and fan 3
        // none of zone 1, so that each would draw the smoke the other way.
        String text = "zones 2;damper supply 0 1;damper exhaust 0 2;damper exhaust 1 1 open;damper exhaust 0 1 open;"
            + "fan supply 60 1 0;fan exhaust 200 1 2 1;fan exhaust 900 1 2;fan exhaust 900 1 3;";
        purgeLikeSwitches(text, 0, new int[] {0, 1, 3}, new int[] {0, 1, 3});
        purgeLikeSwitches(text, 1, new int[] {2}, new int[] {1, 2});
        // Damper 0 and fan 0 are of the other zone.
        purgeLikeSwitches("zones 2;damper exhaust 0 1 open;damper exhaust 1 9;fan exhaust 900 1 0;"
            + "fan exhaust 70 9 1;", 1,
            new int[] {1}, new int[] {1});
        purgeLastOnes();
    }

    /** Compares purgeTime with the ticks that really pass when these dampers and fans are switched on. */
    private static void purgeLikeSwitches(String text, int zone, int[] dampers, int[] fans) {
        SmokeControl x = Check.plant(text);
        x.setSource(0, 50);
        x.setSource(1, 50);
        x.tick(12);
        x.setSource(0, 0);
        x.setSource(1, 0);
        for (int d : dampers) {
            x.switchDamper(d, 2);
        }
        for (int f : fans) {
            x.switchFan(f, 2);
        }
        int time = x.purgeTime(zone);
        x.turnKey(true);
        for (int d : dampers) {
            due("the switch stayed", x.switchDamper(d, 1), 2);
        }
        for (int f : fans) {
            due("the switch stayed", x.switchFan(f, 1), 2);
        }
        int ticks = 0;
        while (ticks < 201 && x.smoke(zone) >= 100) {
            x.tick(1);
            ticks++;
        }
        due("purgeTime(" + zone + ") of " + text, time, ticks);
        due("that takes some time", ticks > 3 && ticks < 200 ? 1 : 0, 1);
    }

    private static void purgeLastOnes() {
        // The last damper and the last fan of a plant as large as may be.
        SmokeControl y = Check.plant("zones 8;" + "damper supply 0 1;".repeat(15) + "damper exhaust 7 1;"
            + "fan stair 1 1;".repeat(5) + "fan exhaust 999 1 15;");
        y.setSource(7, 50);
        y.tick(3);
        y.setSource(7, 0);
        due("damper 15 and fan 5", y.purgeTime(7), 1);
        y.turnKey(true);
        due("neither was switched", y.switchDamper(15, 0) + y.switchFan(5, 0), 0);
    }

    // ---- promises 38 to 40: doors

    /** pressureWith: "with the full flow of all stair fans and throttle 100", whatever they do now */
    private static void fullFlow() {
        SmokeControl x = Check.plant("fan stair 30 9;fan supply 999 1;fan stair 40 9;door 0 10 60;");
        due("nothing runs", x.pressureWith(0), 49);
        x.breakFan(0, true);
        x.setDoor(0, true);
        due("broken, and the door open", x.pressureWith(0), 49);
        due("door 0", x.pressureWith(1), 1);
        SmokeControl y = Check.plant("fan stair 999 1;door 0 31 500;target 1;");
        y.operateFan(0, 1);
        y.tick(20);
        due("throttle", y.stair(1), 20);
        due("999 at any throttle: 999 * 999 / (31 * 31)", y.pressureWith(0), 999);
        due("999 * 999 / (500 * 500)", y.pressureWith(1), 3);
        due("without a fan", Check.plant("door 0 1 51;").pressureWith(0), 0);
        due("and without a door", new SmokeControl().pressureWith(0), 0);
    }

    /** mostOpenDoors: "at least the target", "-4 if it is less even with all doors shut" */
    private static void mostDoorsAtTheTarget() {
        // 70 on 10 is 49 with the door shut, 0 with it open; 102 on 51 is 4 with the door open.
        due("49 for 49", doors("fan stair 70 1;door 0 10 500;target 49;"), 0);
        due("49 for 50", doors("fan stair 70 1;door 0 10 500;target 50;"), -4);
        due("4 for 4", doors("fan stair 102 1;door 0 1 51;target 4;"), 1);
        due("4 for 5", doors("fan stair 102 1;door 0 1 51;target 5;"), 0);
        due("1 for 1", doors("fan stair 51 1;door 0 1 51;target 1;"), 1);
        due("0 for 1", doors("fan stair 50 1;door 0 1 51;target 1;"), 0);
        due("999 for 200", doors("fan stair 999 1;door 0 1 51;target 200;"), 1);
        due("no fan", doors("door 0 1 51;target 1;"), -4);
        due("no door", doors("fan stair 999 1;target 1;"), -4);
        due("neither", doors(""), -4);
    }

    private static int doors(String text) {
        return Check.plant(text).mostOpenDoors();
    }

    /** The greatest number from 2 to all ten, on both sides of each pressure. */
    private static void mostDoorsOfTen() {
        // 1998 on 10 + 50 * k, for k of 2 to 10.
        int[] pressures = {329, 155, 90, 59, 41, 30, 23, 18, 15};
        String ten = "fan stair 999 1;fan stair 999 1;" + "door 0 1 51;".repeat(10);
        SmokeControl x = Check.plant(ten);
        for (int k = 2; k <= 10; k++) {
            int pressure = pressures[k - 2];
            due(k + " doors", x.pressureWith((1 << k) - 1), pressure);
            if (pressure <= 200) {
                due("target " + pressure, doors(ten + "target " + pressure + ";"), k);
                due("target " + (pressure + 1), doors(ten + "target " + (pressure + 1) + ";"), k - 1);
            }
        }
        due("target 1", doors(ten + "target 1;"), 10);
        due("target 200", doors(ten + "target 200;"), 2);
        // Doors that are open now do not count.
        for (int door = 0; door < 10; door++) {
            x.setDoor(door, true);
        }
        due("all open: target 50", x.mostOpenDoors(), 5);
        // The narrow ones may stand anywhere, and door 0 adds as much as a door can: 499.
        String mixed = "door 0 1 500;door 0 1 61;door 0 50 51;door 0 1 71;";
        due("368 on 1 + 61 + 51 + 71", doors("fan stair 368 1;" + mixed + "target 4;"), 3);
        due("367 on that", doors("fan stair 367 1;" + mixed + "target 4;"), 2);
        // 102 on 52 is 3, on 501 it is 0: which of both is narrow does not matter.
        due("door 0 is the narrow one", doors("fan stair 102 1;door 0 1 51;door 0 1 500;target 3;"), 1);
        due("door 1 is the narrow one", doors("fan stair 102 1;door 0 1 500;door 0 1 51;target 3;"), 1);
        due("one that adds 499 and no other", doors("fan stair 500 1;door 0 1 500;target 1;"), 1);
        due("two that add 499", doors("fan stair 999 1;fan stair 1 1;door 0 1 500;door 0 1 500;target 1;"), 2);
    }

    /** worstDoor: "ties go to the lowest number" */
    private static void worstDoorTies() {
        due("equal doors", Check.plant("fan stair 999 1;door 0 1 200;door 0 1 200;").worstDoor(), 0);
        due("the second is worse", Check.plant("fan stair 999 1;door 0 1 200;door 0 1 210;").worstDoor(), 1);
        due("the first is worse", Check.plant("fan stair 999 1;door 0 1 210;door 0 1 200;").worstDoor(), 0);
        due("another area, the same pressure", Check.plant("fan stair 9 1;door 0 1 200;door 0 1 300;").worstDoor(), 0);
        due("both at 999",
            Check.plant("fan stair 999 1;fan stair 999 1;fan stair 999 1;door 0 1 51;door 0 1 80;").worstDoor(), 0);
        due("no fan at all", Check.plant("door 0 1 51;door 0 1 500;").worstDoor(), 0);
        SmokeControl x = Check.plant("fan stair 999 1;door 0 1 500;door 0 1 200;door 0 1 200;");
        x.setDoor(0, true);
        due("the lowest of those shut", x.worstDoor(), 1);
    }

    /** worstDoor: the pressure is that with "those that are open now": they can make a tie, or part one. */
    private static void worstDoorBesidesOpenOnes() {
        SmokeControl x = Check.plant("fan stair 999 1;door 0 1 500;door 0 1 200;door 0 1 205;");
        x.setDoor(0, true);
        due("a tie beside an open door", x.worstDoor(), 1);
        x.setDoor(0, false);
        x.setDoor(1, true);
        due("none beside a smaller open door", x.worstDoor(), 0);
        String fans = "fan stair 999 1;".repeat(3);
        SmokeControl y = Check.plant(fans + "door 0 1 51;door 0 1 60;door 0 1 80;");
        due("all at 999", y.worstDoor(), 0);
        y.setDoor(0, true);
        due("below 999 beside an open door", y.worstDoor(), 2);
    }

    /** worstDoor: "-4 if all doors are open or there are none" */
    private static void worstDoorAtTheEnds() {
        due("none", new SmokeControl().worstDoor(), -4);
        SmokeControl x = Check.plant("fan stair 999 1;" + "door 0 1 51;".repeat(9) + "door 0 1 500;");
        due("the last of ten", x.worstDoor(), 9);
        for (int door = 9; door >= 0; door--) {
            x.setDoor(door, true);
            due("the first of those shut", x.worstDoor(), door == 0 ? -4 : 0);
        }
        x.setDoor(9, false);
        due("the last one shut", x.worstDoor(), 9);
    }

    // ---- the present state between trials

    /** What is asked behind a trial or a restore is told of the present state. */
    private static void questionsAfterTrials() {
        SmokeControl x = Check.plant("damper exhaust 0 1 open;damper supply 0 1 open;fan exhaust 90 9 0;"
            + "fan supply 90 9 1;rule after 3 do stop 0;");
        x.operateFan(0, 1);
        x.operateFan(1, 1);
        x.setSource(0, 50);
        x.tick(3);
        x.keep(0);
        x.smokeAfter(0, 9);
        due("exhaust", x.exhaust(0), 30);
        x.smokeAfter(0, 9);
        due("supply", x.supply(0), 30);
        x.bestSwitch(2);
        due("command", x.fan(0, 1), 1);
        x.purgeTime(0);
        due("source", x.fan(0, 2), 1);
        x.smokeAfter(0, 9);
        due("rule", x.ruleHolds(0), 0);
        x.smokeAfter(0, 9);
        due("commands of the operator", x.commandsBy(1), 2);
        x.tick(4);
        x.restore(0);
        due("exhaust restored", x.exhaust(0), 30);
        x.tick(4);
        due("supply", x.supply(0), 70);
        x.restore(0);
        due("supply restored", x.supply(0), 30);
    }

    // ---- promises 41 and 42: slots

    /** restore: "-4 if the slot is empty" */
    private static void emptySlots() {
        for (int kept = 0; kept < 3; kept++) {
            SmokeControl x = new SmokeControl();
            for (int slot = 0; slot < 3; slot++) {
                due("at first", x.restore(slot), -4);
            }
            due("keep", x.keep(kept), 0);
            for (int slot = 0; slot < 3; slot++) {
                due("slot " + slot + " with " + kept + " kept", x.restore(slot), slot == kept ? 0 : -4);
            }
        }
    }

    /** "the copy in a slot, which stays there"; a copy is replaced by the next one. */
    private static void slotsAreApart() {
        SmokeControl x = new SmokeControl();
        x.setSource(0, 10);
        for (int slot = 0; slot < 3; slot++) {
            x.tick(1);
            due("keep(" + slot + ")", x.keep(slot), slot + 1);
        }
        for (int n = 0; n < 2; n++) {
            for (int slot = 2; slot >= 0; slot--) {
                due("restore(" + slot + ")", x.restore(slot), slot + 1);
                due("smoke", x.smoke(0), 10 * (slot + 1));
                x.tick(20);
            }
        }
        due("time", x.time(), 21);
        due("keep(1)", x.keep(1), 21);
        due("restore(0)", x.restore(0), 1);
        due("restore(1)", x.restore(1), 21);
        due("restore(2)", x.restore(2), 3);
    }

    private static final String PLANT = "zones 2;proof 3;damper exhaust 0 2;damper supply 0 3 open;fan exhaust 90 2 0;"
        + "fan stair 60 3;fan supply 80 4 1;door 0 5 90;door 1 6 70;target 9;rule after 13 do start 0,open 0;"
        + "rule first 0 do start 2;";

    /** Pressure and throttle, smoke, an alarm of zone 0, timers, trouble and a log of six events. */
    private static SmokeControl busy() {
        SmokeControl x = Check.plant(PLANT);
        x.setSource(0, 40);
        x.setSource(1, 3);
        x.setDetector(1, true);
        x.jam(0, true);
        x.breakFan(2, true);
        x.switchDamper(0, 1);
        x.switchFan(1, 1);
        x.operateDamper(1, 2);
        x.operateFan(0, 1);
        x.tick(6);
        x.turnKey(true);
        x.setDoor(0, true);
        x.tick(6);
        x.setDoor(0, false);
        x.tick(2);
        x.keep(2);
        return x;
    }

    /** Brings all that a state consists of to another value. */
    private static void disturb(SmokeControl x) {
        for (int n = 0; n < 56; n++) {
            x.turnKey(n % 2 == 1);
        }
        x.turnKey(false);
        x.setSource(0, 0);
        x.setSource(1, 50);
        x.setDetector(0, true);
        x.setDetector(1, false);
        x.jam(0, false);
        x.jam(1, true);
        x.breakFan(0, true);
        x.breakFan(2, false);
        x.switchDamper(0, 2);
        x.switchDamper(1, 1);
        x.switchFan(1, 2);
        x.switchFan(2, 1);
        x.operateDamper(0, 1);
        x.operateDamper(1, 1);
        x.operateFan(0, 2);
        x.operateFan(2, 1);
        x.setDoor(0, true);
        x.setDoor(1, true);
        x.tick(60);
        x.reset();
        x.tick(7);
    }

    /** keep: "Copies the whole state, the log included"; restore: "Replaces the whole state" */
    private static void restoreAll() {
        SmokeControl x = busy();
        SmokeControl y = busy();
        due("an alarm", y.firstAlarm(), 0);
        due("a pressure", y.stair(0) > 0 ? 1 : 0, 1);
        due("a throttle", y.stair(1) < 100 ? 1 : 0, 1);
        due("trouble of a damper", y.damper(0, 3), 1);
        disturb(x);
        due("restore", x.restore(2), 14);
        Seen.due("restored", Seen.now(x), Seen.now(y));
        x.tick(3);
        y.tick(3);
        Seen.due("some ticks on", Seen.now(x), Seen.now(y));
        Seen.due("what is set", Seen.set(x), Seen.set(y));
        // The first alarm of another zone, and none at all.
        SmokeControl z = Check.plant("zones 3;rule after 4 do close 0;");
        z.keep(0);
        z.setSource(2, 50);
        z.tick(3);
        z.keep(1);
        z.tick(20);
        due("restore(0)", z.restore(0), 0);
        due("no alarm", z.firstAlarm(), -4);
        due("no alarm of zone 2", z.alarm(2), 0);
        due("no event", z.events(), 0);
        z.setSource(0, 50);
        z.tick(9);
        due("first alarm", z.firstAlarm(), 0);
        due("restore(1)", z.restore(1), 3);
        due("first alarm", z.firstAlarm(), 2);
        due("alarm of zone 0", z.alarm(0), 0);
        z.tick(3);
        due("after 4, 3 ticks on", z.ruleHolds(0), 0);
        z.tick(1);
        due("after 4, 4 ticks on", z.ruleHolds(0), 1);
    }

    /** The command of the tick before is of the state too: whether the next tick is a change hangs on it. */
    private static void restoreCommandBefore() {
        SmokeControl x = Check.plant("damper supply 0 9;");
        x.jam(0, true);
        x.operateDamper(0, 1);
        x.keep(1);
        x.tick(4);
        due("timer", x.damper(0, 4), 3);
        x.keep(0);
        x.operateDamper(0, 2);
        x.tick(1);
        x.restore(0);
        x.tick(1);
        due("the same command as before", x.damper(0, 4), 4);
        x.restore(1);
        x.tick(1);
        due("the first tick is a change again", x.damper(0, 4), 0);
    }

    /** load: "Without an error ... all slots become empty" */
    private static void slotsAfterLoad() {
        SmokeControl x = new SmokeControl();
        x.tick(5);
        for (int slot = 0; slot < 3; slot++) {
            x.keep(slot);
        }
        due("load(1) of nothing", x.load(1), -2);
        due("still there", x.restore(0), 5);
        due("a text with an error", Check.load(x, "zones 2"), -4);
        for (int slot = 0; slot < 3; slot++) {
            due("still there", x.restore(slot), 5);
        }
        due("load(0)", x.load(0), 0);
        due("time", x.time(), 0);
        for (int slot = 0; slot < 3; slot++) {
            due("empty", x.restore(slot), -4);
        }
        due("keep", x.keep(2), 0);
        due("a good text", Check.load(x, "zones 2;"), 1);
        due("empty again", x.restore(2), -4);
        due("and refused, so the new plant stays", x.count(0), 2);
    }

    /** keep and restore "Returns the time", from 0 to 9999. */
    private static void slotsAtTheEnds() {
        SmokeControl x = new SmokeControl();
        due("keep at 0", x.keep(0), 0);
        Check.pass(x, 9999);
        due("keep at 9999", x.keep(2), 9999);
        due("restore of 0", x.restore(0), 0);
        due("a tick passes again", x.tick(1), 1);
        due("restore of 9999", x.restore(2), 9999);
        due("no tick passes", x.tick(1), 0);
    }
}
