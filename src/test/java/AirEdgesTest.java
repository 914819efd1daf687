/**
 * The boundary cases of section 4, (d) to (f), of the log, and of reset: pressure, smoke, alarms and events. Each
 * method stands for one sentence of the document, which is told above it.
 */
final class AirEdgesTest {
    public static void main(String[] args) {
        pressureAtMost();
        pressureWithoutDoors();
        throttleAboveTarget();
        throttleBelowTarget();
        throttleAtLeast();
        throttleAtMost();
        throttleOfThisTick();
        pressureTimer();
        pressureTimerOfSixFans();
        pressureTimerEnds();
        smokeAtMost();
        clearingAtMost();
        clearingRoundedDown();
        flowAtLeast();
        flowAtMost();
        flowRoundedDown();
        flowIsLimitedAtTheEnd();
        topAndBottomZone();
        pressureBelowTwelve();
        letInRoundedDown();
        stairSmokeAtMost();
        stairClearingAtMost();
        stairClearingRoundedDown();
        alarmAtHundred();
        disabledDetector();
        firstAlarmIsTheLowest();
        firstAlarmStays();
        logOfFifty();
        orderInATick();
        troubleOnce();
        levelEventsAllTheSame();
        keyEvents();
        resetAtHundred();
        resetOfFirstAlarm();
        resetOfTimers();
        Check.end();
    }

    private static void due(String call, int got, int want) {
        Check.due(call, got, want);
    }

    // ---- (d) pressure

    private static SmokeControl stairFan(int flow, int closed, int open, int target) {
        SmokeControl x = Check.plant("fan stair " + flow + " 1;door 0 " + closed + " " + open + ";target "
            + target + ";");
        x.operateFan(0, 1);
        return x;
    }

    /** "The pressure becomes Q * Q / (A * A), at most 999" */
    private static void pressureAtMost() {
        int[][] cases = {{94, 3, 981}, {411, 13, 999}, {601, 19, 999}, {95, 3, 999}, {999, 1, 999}, {999, 50, 399},
            {1, 1, 1},
            {1, 2, 0}, {49, 50, 0}, {50, 50, 1}};
        for (int[] c : cases) {
            SmokeControl x = stairFan(c[0], c[1], 500, 200);
            due("pressureWith(0) of " + c[0] + " on " + c[1], x.pressureWith(0), c[2]);
            x.tick(1);
            due("pressure of " + c[0] + " on " + c[1], x.stair(0), c[2]);
        }
        SmokeControl y = Check.plant("fan stair 999 1;".repeat(6) + "door 0 1 51;");
        for (int f = 0; f < 6; f++) {
            y.operateFan(f, 1);
        }
        due("the most that may be", y.pressureWith(0), 999);
        y.tick(1);
        due("the most that may be", y.stair(0), 999);
        due("its air", y.stair(4), 5994);
    }

    /** "it is 0 without doors" */
    private static void pressureWithoutDoors() {
        SmokeControl x = Check.plant("fan stair 999 1;");
        x.operateFan(0, 1);
        x.tick(1);
        due("pressure", x.stair(0), 0);
        due("air", x.stair(4), 999);
        due("areas", x.stair(3), 0);
        due("pressureWith(0)", x.pressureWith(0), 0);
    }

    /** Throttle 95 after one tick; then the door is open and the pressure 190 * 190 / (51 * 51) = 13. */
    private static SmokeControl throttled(int target) {
        SmokeControl x = stairFan(200, 1, 51, target);
        x.tick(1);
        due("throttle", x.stair(1), 95);
        x.setDoor(0, true);
        x.tick(1);
        due("pressure", x.stair(0), 13);
        return x;
    }

    /** "if the pressure is greater than target + 5, it decreases by 5" */
    private static void throttleAboveTarget() {
        due("13 is target + 6", throttled(7).stair(1), 90);
        due("13 is target + 5", throttled(8).stair(1), 95);
    }

    /** "if the pressure is less than the target, it increases by 5" */
    private static void throttleBelowTarget() {
        due("13 is the target", throttled(13).stair(1), 95);
        due("13 is the target - 1", throttled(14).stair(1), 100);
    }

    /** "it decreases by 5, to at least 20" */
    private static void throttleAtLeast() {
        SmokeControl x = stairFan(999, 1, 51, 200);
        x.tick(15);
        due("after 15", x.stair(1), 25);
        x.tick(1);
        due("after 16", x.stair(1), 20);
        x.tick(1);
        due("after 17", x.stair(1), 20);
        due("the pressure is high yet", x.stair(0), 999);
    }

    /** "it increases by 5, to at most 100" */
    private static void throttleAtMost() {
        SmokeControl x = stairFan(200, 1, 51, 200);
        due("at first", x.stair(1), 100);
        x.tick(2);
        due("after two", x.stair(1), 90);
        x.setDoor(0, true);
        x.tick(1);
        due("after one below the target", x.stair(1), 95);
        x.tick(1);
        due("after two", x.stair(1), 100);
        x.tick(1);
        due("after three", x.stair(1), 100);
    }

    /** Q is that of the throttle before step (d) changes it; 33 * 95 / 100 is rounded down before it is squared. */
    private static void throttleOfThisTick() {
        SmokeControl x = stairFan(33, 1, 500, 200);
        x.tick(1);
        due("33 * 33", x.stair(0), 999);
        x.tick(1);
        due("33 * 95 / 100 = 31", x.stair(0), 961);
        x.tick(1);
        due("33 * 90 / 100 = 29", x.stair(0), 841);
        due("throttle", x.stair(1), 85);
    }

    /** "the pressure timer increases by 1, and if it is then 30, there is pressure trouble" */
    private static void pressureTimer() {
        SmokeControl x = stairFan(49, 7, 51, 50);
        x.tick(29);
        due("pressure", x.stair(0), 49);
        due("29 ticks", x.stair(5), 0);
        x.tick(1);
        due("30 ticks", x.stair(5), 1);
        Check.dueEvents("trouble", x, 1, "30:3/0");
        SmokeControl y = stairFan(49, 7, 51, 49);
        y.tick(60);
        due("the pressure is the target", y.stair(5), 0);
    }

    /** "some stair fan": each of six alone is one. */
    private static void pressureTimerOfSixFans() {
        for (int fan = 0; fan < 6; fan++) {
            SmokeControl x = Check.plant("fan stair 9 1;".repeat(6));
            x.operateFan(fan, 1);
            x.tick(29);
            due("fan " + fan + ": 29 ticks", x.stair(5), 0);
            x.tick(1);
            due("fan " + fan + ": 30 ticks", x.stair(5), 1);
        }
    }

    /** "otherwise the pressure timer becomes 0": without start, and at the target */
    private static void pressureTimerEnds() {
        SmokeControl x = stairFan(49, 7, 51, 49);
        x.setDoor(0, true);
        x.tick(29);
        x.setDoor(0, false);
        x.tick(1);
        due("one tick at the target", x.stair(0), 49);
        x.setDoor(0, true);
        x.tick(29);
        due("29 ticks since", x.stair(5), 0);
        x.operateFan(0, 2);
        x.tick(1);
        due("one tick without start", x.stair(5), 0);
        x.operateFan(0, 1);
        x.tick(29);
        due("29 ticks since", x.stair(5), 0);
        x.tick(1);
        due("30 ticks", x.stair(5), 1);
        // A broken fan with the command start counts, and it need not be the first one.
        SmokeControl y = Check.plant("damper supply 0 1 open;fan supply 9 1 0;fan stair 9 1;fan stair 999 1;"
            + "door 0 1 51;");
        y.operateFan(0, 1);
        y.tick(40);
        due("a supply fan does not count", y.stair(5), 0);
        y.breakFan(2, true);
        y.operateFan(2, 1);
        y.tick(29);
        due("29 ticks", y.stair(5), 0);
        y.tick(1);
        due("30 ticks", y.stair(5), 1);
    }

    // ---- (e) smoke

    /** "The smoke of each zone increases by its source, to at most 1000." */
    private static void smokeAtMost() {
        SmokeControl x = new SmokeControl();
        x.setSource(0, 50);
        x.tick(19);
        due("950", x.smoke(0), 950);
        x.setSource(0, 49);
        x.tick(1);
        due("999", x.smoke(0), 999);
        x.setSource(0, 1);
        x.tick(1);
        due("1000", x.smoke(0), 1000);
        x.tick(1);
        due("not 1001", x.smoke(0), 1000);
        x.setSource(0, 50);
        x.tick(1);
        due("not 1050", x.smoke(0), 1000);
        x.setSource(0, 0);
        x.tick(1);
        due("a source of 0", x.smoke(0), 1000);
    }

    /** One zone with 1000 of smoke, an exhaust of 999 and the supply that is told; the smoke after one tick of both. */
    private static int cleared(int exhaust, int supply) {
        SmokeControl x = Check.plant("damper exhaust 0 1 open;damper supply 0 1 open;fan exhaust " + exhaust
            + " 1 0;fan supply " + supply + " 1 1;");
        x.setSource(0, 50);
        x.tick(20);
        x.setSource(0, 0);
        x.operateFan(0, 1);
        x.operateFan(1, 1);
        x.tick(1);
        return x.smoke(0);
    }

    /** "M is the smaller one of 1000 and exhaust + supply / 2 of the zone" */
    private static void clearingAtMost() {
        due("M = 1 + 0", cleared(1, 1), 1000);
        due("M = 1 + 1", cleared(1, 2), 999);
        due("M = 1 + 3 / 2", cleared(1, 3), 999);
        due("M = 1 + 6 / 2", cleared(1, 6), 998);
        due("M = 998 + 0", cleared(998, 1), 501);
        due("M = 998 + 1", cleared(998, 2), 501);
        due("M = 999 + 1", cleared(999, 2), 500);
        due("M = 999 + 3 is 1000", cleared(999, 6), 500);
        due("M = 999 + 499 is 1000", cleared(999, 999), 500);
    }

    /** "smoke * M / 2000", rounded down: 198 * 101 is 2 less than 10 * 2000. */
    private static void clearingRoundedDown() {
        SmokeControl x = Check.plant("damper exhaust 0 1 open;fan exhaust 101 1 0;");
        x.setSource(0, 50);
        x.tick(3);
        x.setSource(0, 48);
        x.operateFan(0, 1);
        x.tick(1);
        due("198 - 9", x.smoke(0), 189);
        // 200 * 100 is 10 * 2000.
        SmokeControl y = Check.plant("damper exhaust 0 1 open;fan exhaust 100 1 0;");
        y.setSource(0, 50);
        y.tick(3);
        y.operateFan(0, 1);
        y.tick(1);
        due("200 - 10", y.smoke(0), 190);
    }

    /** Two zones with 1000 of smoke; air of one fan in zone 0 and of another in zone 1; then one tick. */
    private static SmokeControl twoZones(String kind0, int flow0, String kind1, int flow1) {
        SmokeControl x = Check.plant("zones 2;damper " + kind0 + " 0 1 open;damper " + kind1 + " 1 1 open;fan "
            + kind0 + " " + flow0 + " 1 0;fan " + kind1 + " " + flow1 + " 1 1;");
        x.setSource(0, 50);
        x.setSource(1, 50);
        x.tick(20);
        due("smoke", x.smoke(0) + x.smoke(1), 2000);
        x.setSource(0, 0);
        x.setSource(1, 0);
        x.operateFan(0, flow0 > 1 ? 1 : 0);
        x.operateFan(1, 1);
        x.tick(1);
        return x;
    }

    /** "K is 100 + net(a) - net(b), brought to 0 if it is less" */
    private static void flowAtLeast() {
        // From zone 0 to 1: K = 100 - supply(1). Back: 200 and more, of 1000 - 1000 * (supply / 2) / 2000.
        due("K = 5: 977 + 1 - 977 * 195 / 5000", twoZones("supply", 1, "supply", 95).smoke(1), 940);
        due("K = 0: 975 + 0 - 975 * 200 / 5000", twoZones("supply", 1, "supply", 100).smoke(1), 936);
        due("K = -5: 974 + 0 - 974 * 205 / 5000", twoZones("supply", 1, "supply", 105).smoke(1), 935);
        due("K = -899: 751 + 0 - 751 * 500 / 5000", twoZones("supply", 1, "supply", 999).smoke(1), 676);
    }

    /** K is brought "to 500 if it is greater" */
    private static void flowAtMost() {
        // From zone 0 to 1, with an exhaust in zone 1 alone: K = 100 + exhaust(1); s(1) = 1000 - 1000 * exhaust / 2000.
        due("K = 499: 1000 * 499 / 5000 go", twoZones("supply", 1, "exhaust", 399).smoke(0), 901);
        due("they come", twoZones("supply", 1, "exhaust", 399).smoke(1), 801 + 99);
        due("K = 500: 100 go", twoZones("supply", 1, "exhaust", 400).smoke(0), 900);
        due("K = 505 is 500: 100 go", twoZones("supply", 1, "exhaust", 405).smoke(0), 900);
        due("K = 1099 is 500: 100 go", twoZones("supply", 1, "exhaust", 999).smoke(0), 900);
        // With 2 of exhaust in zone 0 there are s(0) = 999: 999 * 500 / 5000 = 99, but 999 * 501 / 5000 = 100.
        due("K = 501 is 500", twoZones("exhaust", 2, "exhaust", 403).smoke(0), 900);
        due("K = 500", twoZones("exhaust", 2, "exhaust", 402).smoke(0), 900);
    }

    /** "s(a) * K / 5000", rounded down: 495 * 101 is 5 less than 10 * 5000, and 500 * 100 is 10 * 5000. */
    private static void flowRoundedDown() {
        int[] smokes = {495, 500};
        int[] airs = {1, 0};
        int[] moves = {9, 10};
        for (int n = 0; n < 2; n++) {
            SmokeControl x = Check.plant("zones 2;damper supply 0 1 open;fan supply 1 1 0;");
            x.setSource(0, 50);
            x.tick(10);
            int source = smokes[n] - x.smoke(0);
            due("the source that makes it " + smokes[n], x.setSource(0, source), 50);
            int other = x.smoke(1);
            x.operateFan(0, airs[n]);
            x.tick(1);
            due("supply", x.supply(0), airs[n]);
            due("what moves back is rounded down too", x.smoke(0), smokes[n] - moves[n]
                + other * (100 - airs[n]) / 5000);
            due("none is lost", x.smoke(0) + x.smoke(1), smokes[n] + other);
        }
    }

    /** "the result is limited to 0 to 1000" */
    private static void flowIsLimitedAtTheEnd() {
        // K = 100 - 95 from zone 0, 195 back: 1000 - 1 + 38.
        due("1037 is 1000", twoZones("supply", 1, "supply", 95).smoke(0), 1000);
        SmokeControl x = Check.plant("zones 3;");
        x.setSource(1, 1);
        x.tick(1);
        due("no less than 0", x.smoke(0) + x.smoke(2), 0);
        due("1 stays 1", x.smoke(1), 1);
    }

    /** "for each two neighbouring zones": the lowest and the highest have one neighbour each */
    private static void topAndBottomZone() {
        SmokeControl x = Check.plant("zones 8;");
        x.setSource(0, 50);
        x.tick(1);
        due("zone 0 loses once", x.smoke(0), 49);
        due("zone 1 gains", x.smoke(1), 1);
        due("zone 7 has none", x.smoke(7), 0);
        SmokeControl y = Check.plant("zones 8;");
        y.setSource(7, 50);
        y.tick(1);
        due("zone 7 loses once", y.smoke(7), 49);
        due("zone 6 gains", y.smoke(6), 1);
        due("zone 0 has none", y.smoke(0), 0);
        SmokeControl z = new SmokeControl();
        z.setSource(0, 50);
        z.tick(1);
        due("one zone alone loses nothing", z.smoke(0), 50);
    }

    /** "If the pressure is less than 12, each door lets in ..." */
    private static void pressureBelowTwelve() {
        // 1000 of smoke, an open door of 51: 1000 * 1 * 20 / 2400 = 8 at pressure 11, none at 12.
        due("176 * 176 / (51 * 51) = 11", letIn(176, 11), 8);
        due("177 * 177 / (51 * 51) = 12", letIn(177, 12), 0);
        due("184 * 184 / (51 * 51) = 13", letIn(184, 13), 0);
        // A shut one of 5: 1000 * 2 / 2400 and 1000 * 3 / 2400.
        SmokeControl x = Check.plant("door 0 5 51;door 0 5 51;");
        x.setSource(0, 48);
        x.tick(4);
        due("192 * 12 / 2400 of each", x.stair(2), 0);
        x.setSource(0, 8);
        x.tick(1);
        due("200 * 12 / 2400 of each", x.stair(2), 2);
    }

    /** What one open door lets in from 1000 of smoke in a tick of that pressure, less what the fan takes of it. */
    private static int letIn(int flow, int pressure) {
        SmokeControl x = Check.plant("fan stair " + flow + " 1;door 0 15 51;target 200;");
        x.operateFan(0, 1);
        x.setSource(0, 50);
        x.tick(20);
        due("smoke of the zone", x.smoke(0), 1000);
        due("none in the staircase", x.stair(2), 0);
        due("throttle", x.stair(1), 100);
        x.setDoor(0, true);
        x.tick(1);
        due("pressure of " + flow, x.stair(0), pressure);
        due("the smoke of the zone stays", x.smoke(0), 1000);
        return x.stair(2);
    }

    /** "s(z) * (12 - pressure) * w / 2400", rounded down: 229 * 11 * 20 is 20 less than 21 * 2400. */
    private static void letInRoundedDown() {
        int[] smokes = {229, 240};
        int[] comes = {20, 22};
        for (int n = 0; n < 2; n++) {
            SmokeControl x = Check.plant("fan stair 60 1;door 0 10 51;target 200;");
            x.operateFan(0, 1);
            x.setSource(0, 50);
            x.tick(4);
            due("none yet", x.stair(2), 0);
            x.setSource(0, smokes[n] - 200);
            x.setDoor(0, true);
            x.tick(1);
            due("pressure", x.stair(0), 1);
            due("smoke of the zone", x.smoke(0), smokes[n]);
            due("smoke of the staircase", x.stair(2), comes[n]);
        }
    }

    /** "the smoke of the staircase increases by the sum of these, to at most 1000" */
    private static void stairSmokeAtMost() {
        // An open door lets in smoke / 10 at pressure 0: 5, 10, .., 95 and 100.
        SmokeControl x = Check.plant("door 0 1 51;");
        x.setDoor(0, true);
        x.setSource(0, 50);
        x.tick(19);
        due("950", x.stair(2), 950);
        x.tick(1);
        due("not 1050", x.stair(2), 1000);
        x.tick(1);
        due("not 1100", x.stair(2), 1000);
        // 1, 2, .., 44, then a shut one lets in 440 * 12 / 2400 = 2.
        SmokeControl y = Check.plant("door 0 1 51;");
        y.setDoor(0, true);
        y.setSource(0, 10);
        y.tick(44);
        due("990", y.stair(2), 990);
        y.setDoor(0, false);
        y.setSource(0, 0);
        y.tick(4);
        due("998", y.stair(2), 998);
        y.tick(1);
        due("1000", y.stair(2), 1000);
        y.tick(1);
        due("not 1002", y.stair(2), 1000);
        // The sum of all doors is what is limited, each rounded down for itself.
        SmokeControl z = Check.plant("zones 2;" + "door 0 1 51;".repeat(5) + "door 1 1 51;".repeat(5));
        z.setSource(0, 50);
        z.setSource(1, 50);
        z.tick(7);
        due("1 of each of ten shut doors in the ticks 4 to 7", z.stair(2), 40);
        for (int door = 0; door < 10; door++) {
            z.setDoor(door, true);
        }
        z.tick(2);
        due("40 of each, 45 of each", z.stair(2), 890);
        z.tick(1);
        due("not 1390", z.stair(2), 1000);
    }

    /** A staircase with 1000 of smoke after one tick of two fans. */
    private static int stairCleared(int first, int second) {
        SmokeControl x = Check.plant("fan stair " + first + " 1;fan stair " + second + " 1;door 0 1 500;");
        x.setDoor(0, true);
        x.setSource(0, 50);
        x.tick(20);
        due("smoke of the staircase", x.stair(2), 1000);
        x.operateFan(0, 1);
        x.operateFan(1, 1);
        x.tick(1);
        due("throttle", x.stair(1), 100);
        return x.stair(2);
    }

    /** "decreases by smoke * (the smaller one of 1000 and Q) / 4000" */
    private static void stairClearingAtMost() {
        due("Q = 2", stairCleared(1, 1), 1000);
        due("Q = 4", stairCleared(3, 1), 999);
        due("Q = 996", stairCleared(995, 1), 751);
        due("Q = 999", stairCleared(998, 1), 751);
        due("Q = 1000", stairCleared(999, 1), 750);
        due("Q = 1004", stairCleared(999, 5), 750);
        due("Q = 1998", stairCleared(999, 999), 750);
    }

    /** "smoke * ... / 4000", rounded down: 396 * 101 is 4 less than 10 * 4000. */
    private static void stairClearingRoundedDown() {
        for (int flow = 101; flow <= 102; flow++) {
            SmokeControl x = Check.plant("fan stair " + flow + " 1;door 0 1 51;");
            x.setSource(0, 50);
            x.tick(1);
            x.setSource(0, 49);
            x.tick(1);
            x.setSource(0, 0);
            x.setDoor(0, true);
            x.tick(44);
            due("44 * 9", x.stair(2), 396);
            x.setDoor(0, false);
            x.operateFan(0, 1);
            x.tick(1);
            due("396 * " + flow + " / 4000", x.stair(2), flow == 101 ? 387 : 386);
        }
    }

    // ---- (f) alarms

    /** "The alarm of each zone whose smoke is at least 100 goes on" */
    private static void alarmAtHundred() {
        SmokeControl x = new SmokeControl();
        x.setSource(0, 33);
        x.tick(3);
        due("smoke", x.smoke(0), 99);
        due("no alarm at 99", x.alarm(0), 0);
        due("no first alarm", x.firstAlarm(), -4);
        x.setSource(0, 1);
        x.tick(1);
        due("smoke", x.smoke(0), 100);
        due("alarm at 100", x.alarm(0), 1);
        due("first alarm", x.firstAlarm(), 0);
        Check.dueEvents("alarm", x, 1, "4:0/0");
        x.tick(5);
        due("it goes on but once", x.events(), 1);
    }

    /** "if it is off and its detector is not disabled"; "an alarm that is on stays on" */
    private static void disabledDetector() {
        SmokeControl x = new SmokeControl();
        x.setDetector(0, true);
        x.setSource(0, 50);
        x.tick(5);
        due("no alarm", x.alarm(0), 0);
        x.setDetector(0, false);
        due("not at once", x.alarm(0), 0);
        x.tick(1);
        due("in the next tick", x.alarm(0), 1);
        Check.dueEvents("alarm", x, 1, "6:0/0");
        x.setDetector(0, true);
        due("on stays on", x.alarm(0), 1);
        x.tick(1);
        due("on stays on in a tick", x.alarm(0), 1);
        due("on stays on at reset", x.reset(), 1);
        due("one event", x.events(), 1);
    }

    /** "If no alarm was on before, the lowest one of these zones becomes the first alarm zone" */
    private static void firstAlarmIsTheLowest() {
        SmokeControl x = Check.plant("zones 8;");
        x.setSource(6, 50);
        x.setSource(7, 50);
        x.setSource(1, 50);
        x.tick(2);
        due("two ticks", x.events(), 0);
        x.tick(1);
        due("lowest", x.firstAlarm(), 1);
        Check.dueEvents("in order of their numbers", x, 3, "3:0/1 3:0/6 3:0/7");
        SmokeControl y = Check.plant("zones 8;");
        y.setDetector(1, true);
        y.setSource(6, 50);
        y.setSource(7, 50);
        y.setSource(1, 50);
        y.tick(3);
        due("lowest of those that go on", y.firstAlarm(), 6);
        y.setDetector(1, false);
        y.tick(1);
        due("a lower one that comes later is not first", y.firstAlarm(), 6);
        due("but on", y.alarm(1), 1);
    }

    /** The first alarm zone and the alarm time stay when further alarms go on, also where it is zone 0. */
    private static void firstAlarmStays() {
        for (int first : new int[] {0, 1, 3}) {
            SmokeControl x = Check.plant("zones 4;rule after 5 do close 0;rule first " + first + " do close 0;");
            due("not first yet", x.ruleHolds(1), 0);
            x.setSource(first, 50);
            x.tick(3);
            due("first", x.firstAlarm(), first);
            due("first " + first, x.ruleHolds(1), 1);
            for (int z = 0; z < 4; z++) {
                x.setSource(z, 50);
            }
            x.tick(4);
            due("all are on", x.alarm(0) + x.alarm(1) + x.alarm(2) + x.alarm(3), 4);
            due("the first one stays", x.firstAlarm(), first);
            due("4 ticks on", x.ruleHolds(0), 0);
            x.tick(1);
            due("5 ticks on", x.ruleHolds(0), 1);
            due("still first", x.ruleHolds(1), 1);
        }
    }

    // ---- the log

    /** "The log keeps the latest 50 events", also where several of one tick do not fit. */
    private static void logOfFifty() {
        for (int before = 46; before <= 50; before++) {
            SmokeControl x = Check.plant("proof 0;damper supply 0 1;damper supply 0 1;damper supply 0 1;");
            for (int n = 0; n < before; n++) {
                x.turnKey(n % 2 == 0);
            }
            x.turnKey(true);
            x.turnKey(false);
            for (int d = 0; d < 3; d++) {
                x.jam(d, true);
                x.operateDamper(d, 1);
            }
            int total = before + 1 + (before + 1) % 2;
            due("events", x.events(), Math.min(50, total));
            x.tick(2);
            due("events", x.events(), Math.min(50, total + 3));
            Check.dueEvents("the latest", x, 4, "0:7/0 2:1/0 2:1/1 2:1/2");
            // The key was turned on and off by turns, so the oldest event tells how many are gone.
            due("the oldest", x.event(x.events() - 1, 1), Math.max(0, total + 3 - 50) % 2 == 0 ? 6 : 7);
            due("none behind it", x.event(x.events(), 0), -1);
        }
    }

    /**
     * "In one tick, zones, dampers and fans come in order of their numbers within each step; of one fan code 4 or 5
     * comes before code 2."
     */
    private static void orderInATick() {
        // Trouble of dampers at 1 + 28, the timer being 0 in the first tick; of the broken fans at 2 + 28; of the
        // pressure at 30; the level of fan 1 reaches 30; and zone 0 and 1 reach 100.
        SmokeControl x = Check.plant("zones 4;proof 28;damper supply 3 1;damper supply 2 1;fan stair 9 2;"
            + "fan stair 9 30;fan stair 9 2;");
        x.jam(0, true);
        x.jam(1, true);
        x.operateDamper(0, 1);
        x.operateDamper(1, 1);
        for (int f = 0; f < 3; f++) {
            x.breakFan(f, f != 1);
            x.operateFan(f, 1);
        }
        x.tick(27);
        x.setSource(3, 50);
        x.setSource(0, 50);
        x.tick(2);
        due("nothing yet", x.events(), 0);
        x.tick(1);
        Check.dueEvents("all in one tick", x, 8, "30:1/0 30:1/1 30:2/0 30:4/1 30:2/2 30:3/0 30:0/0 30:0/3");
        // A fan that was full and is broken comes to 0 when its timer comes to its ramp time.
        SmokeControl y = Check.plant("proof 0;fan stair 999 3;fan stair 999 3;door 0 1 51;");
        y.operateFan(0, 1);
        y.operateFan(1, 1);
        y.tick(3);
        y.breakFan(0, true);
        y.breakFan(1, true);
        y.tick(3);
        Check.dueEvents("5 before 2", y, 4, "6:5/0 6:2/0 6:5/1 6:2/1");
    }

    /** "a damper or fan that has trouble, or pressure trouble that is there, causes no further event of trouble" */
    private static void troubleOnce() {
        SmokeControl x = Check.plant("proof 0;damper supply 0 2;fan stair 9 2;");
        x.jam(0, true);
        x.breakFan(0, true);
        for (int n = 0; n < 3; n++) {
            x.operateDamper(0, 1);
            x.operateFan(0, 1);
            x.tick(31);
            x.operateDamper(0, 0);
            x.operateFan(0, 0);
            x.tick(1);
            due("damper trouble stays", x.damper(0, 3), 1);
            due("fan trouble stays", x.fan(0, 3), 1);
            due("pressure trouble stays", x.stair(5), 1);
        }
        due("one event of each", x.events(), 3);
        Check.dueEvents("the first ones", x, 3, "2:2/0 3:1/0 30:3/0");
        x.reset();
        due("damper trouble ended", x.damper(0, 3), 0);
        due("fan trouble ended", x.fan(0, 3), 0);
        due("pressure trouble ended", x.stair(5), 0);
        x.operateDamper(0, 1);
        x.operateFan(0, 1);
        x.tick(30);
        due("one more of each", x.events(), 6);
    }

    /** "a fan's events 4 and 5 come all the same" */
    private static void levelEventsAllTheSame() {
        SmokeControl x = Check.plant("proof 0;damper supply 0 1 open;fan supply 9 2 0;");
        x.breakFan(0, true);
        x.operateFan(0, 1);
        x.tick(2);
        Check.dueEvents("trouble", x, 1, "2:2/0");
        x.breakFan(0, false);
        x.tick(2);
        due("trouble is still there", x.fan(0, 3), 1);
        x.operateFan(0, 2);
        x.tick(2);
        due("trouble is still there", x.fan(0, 3), 1);
        Check.dueEvents("levels", x, 3, "2:2/0 4:4/0 6:5/0");
    }

    /** "1 if that changed the key, 0 if not (then no event is recorded)" */
    private static void keyEvents() {
        SmokeControl x = new SmokeControl();
        due("off stays off", x.turnKey(false), 0);
        due("no event", x.events(), 0);
        due("on", x.turnKey(true), 1);
        due("on stays on", x.turnKey(true), 0);
        Check.dueEvents("on", x, 1, "0:6/0");
        due("one event", x.events(), 1);
        x.tick(1);
        due("off", x.turnKey(false), 1);
        due("off stays off", x.turnKey(false), 0);
        Check.dueEvents("on and off", x, 2, "0:6/0 1:7/0");
        due("two events", x.events(), 2);
    }

    // ---- promise 18: reset

    /** "turns the alarms of all zones off whose smoke is less than 100" */
    private static void resetAtHundred() {
        SmokeControl x = Check.plant("damper exhaust 0 1 open;fan exhaust 20 1 0;");
        due("reset without an alarm", x.reset(), 0);
        due("first alarm", x.firstAlarm(), -4);
        x.setSource(0, 50);
        x.tick(2);
        due("smoke", x.smoke(0), 100);
        due("reset at 100", x.reset(), 1);
        due("alarm", x.alarm(0), 1);
        due("first alarm", x.firstAlarm(), 0);
        x.setSource(0, 0);
        x.operateFan(0, 1);
        x.tick(1);
        due("smoke", x.smoke(0), 99);
        due("on until then", x.alarm(0), 1);
        due("reset at 99", x.reset(), 0);
        due("alarm", x.alarm(0), 0);
        due("first alarm", x.firstAlarm(), -4);
        due("no event of that", x.events(), 2);
        // The next alarm is a first one again.
        x.setSource(0, 50);
        x.tick(1);
        due("alarm", x.alarm(0), 1);
        due("first alarm", x.firstAlarm(), 0);
        due("reset does not make alarms", loudButDisabled().reset(), 0);
    }

    private static SmokeControl loudButDisabled() {
        SmokeControl x = new SmokeControl();
        x.setDetector(0, true);
        x.setSource(0, 50);
        x.tick(4);
        x.setDetector(0, false);
        return x;
    }

    /** Zones 0, 2, 3 and 5 in alarm with these, the first of them zone 2 at time 3; each has an exhaust of its own. */
    private static SmokeControl fourAlarms() {
        SmokeControl x = Check.plant("zones 6;damper exhaust 0 1 open;damper exhaust 2 1 open;"
            + "damper exhaust 3 1 open;damper exhaust 5 1 open;"
            + "fan exhaust 999 1 0;fan exhaust 999 1 1;fan exhaust 999 1 2;fan exhaust 999 1 3;"
            + "rule after 10 do close 1;");
        x.setDetector(1, true);
        x.setDetector(4, true);
        x.setSource(2, 50);
        x.tick(3);
        due("first alarm", x.firstAlarm(), 2);
        x.setSource(0, 50);
        x.setSource(3, 50);
        x.setSource(5, 50);
        x.tick(4);
        due("alarms", x.reset(), 4);
        due("first alarm", x.firstAlarm(), 2);
        return x;
    }

    /** Brings the smoke of zones below 100 by their exhausts, in 4 ticks. */
    private static void clear(SmokeControl x, int... zones) {
        int[] fans = {0, -1, 1, 2, -1, 3};
        for (int z : zones) {
            x.setSource(z, 0);
            x.operateFan(fans[z], 1);
        }
        x.tick(4);
        for (int z : zones) {
            due("zone " + z + " is clear", x.smoke(z) < 100 ? 1 : 0, 1);
        }
    }

    /**
     * "If the alarm of the first alarm zone goes off and others stay on, the lowest of these becomes the first alarm
     * zone, and its alarm time is the present time."
     */
    private static void resetOfFirstAlarm() {
        SmokeControl x = fourAlarms();
        clear(x, 0, 5);
        due("the first one stays on", x.reset(), 2);
        due("and first", x.firstAlarm(), 2);
        due("time", x.time(), 11);
        due("8 ticks on", x.ruleHolds(0), 0);
        x.tick(2);
        due("10 ticks on", x.ruleHolds(0), 1);
        SmokeControl y = fourAlarms();
        clear(y, 2);
        due("the first one goes off", y.reset(), 3);
        due("the lowest of the others", y.firstAlarm(), 0);
        y.tick(9);
        due("9 ticks since reset", y.ruleHolds(0), 0);
        y.tick(1);
        due("10 ticks since reset", y.ruleHolds(0), 1);
        SmokeControl z = fourAlarms();
        clear(z, 0, 2);
        due("the first one and the lowest go off", z.reset(), 2);
        due("the lowest of the others", z.firstAlarm(), 3);
        SmokeControl w = fourAlarms();
        clear(w, 0, 2, 3);
        due("all but the last go off", w.reset(), 1);
        due("the last one", w.firstAlarm(), 5);
        SmokeControl v = fourAlarms();
        clear(v, 0, 2, 3, 5);
        due("all go off", v.reset(), 0);
        due("none", v.firstAlarm(), -4);
        due("after 10 without an alarm", v.ruleHolds(0), 0);
    }

    /** "sets all proof timers and the pressure timer to 0" */
    private static void resetOfTimers() {
        SmokeControl x = Check.plant("proof 28;damper supply 0 2;fan stair 9 2;");
        x.jam(0, true);
        x.breakFan(0, true);
        x.operateDamper(0, 1);
        x.operateFan(0, 1);
        x.tick(29);
        due("damper timer", x.damper(0, 4), 28);
        due("fan timer", x.fan(0, 4), 29);
        due("reset", x.reset(), 0);
        due("damper timer", x.damper(0, 4), 0);
        due("fan timer", x.fan(0, 4), 0);
        x.tick(29);
        due("damper timer", x.damper(0, 4), 29);
        due("fan timer", x.fan(0, 4), 29);
        due("no trouble in 29 ticks", x.events(), 0);
        x.tick(1);
        Check.dueEvents("trouble of all in 30", x, 3, "59:1/0 59:2/0 59:3/0");
    }
}
