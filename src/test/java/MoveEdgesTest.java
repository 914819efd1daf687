/**
 * The boundary cases of section 4, (a) to (c): commands, dampers and fans in a tick. Each method stands for one
 * sentence of the document, which is told above it.
 */
final class MoveEdgesTest {
    public static void main(String[] args) {
        commandsBeforeTheTick();
        timeBeforeTheTick();
        travelEnds();
        jammedDampers();
        firstTickIsAChange();
        changeOfCommand();
        provenInItsPosition();
        damperTroubleAtItsTime();
        damperTroubleWithoutProofTime();
        damperTroubleWithLongestTimes();
        levelEnds();
        sixteenDampersAndSixFans();
        fanNeedsProvenDamper();
        fanTroubleAtItsTime();
        fanTroubleWithoutProofTime();
        fanTroubleWithLongestTimes();
        fanTimerEnds();
        Check.end();
    }

    private static void due(String call, int got, int want) {
        Check.due(call, got, want);
    }

    // ---- (a) commands and time

    /** "The commands of all dampers and fans are determined from the state before the tick" */
    private static void commandsBeforeTheTick() {
        SmokeControl x = Check.plant("proof 0;damper supply 0 1;damper supply 0 9;fan stair 1 1;fan stair 1 2;"
            + "rule trouble do open 1;rule running 0 do start 1;");
        x.setSource(0, 50);
        x.tick(2);
        x.jam(0, true);
        x.operateDamper(0, 1);
        x.operateFan(0, 1);
        x.tick(1);
        due("fan 0 runs now", x.fan(0, 0), 1);
        due("fan 1 was not started yet", x.fan(1, 0), 0);
        x.tick(1);
        due("now it was", x.fan(1, 0), 1);
        due("damper 0 has trouble now", x.damper(0, 3), 1);
        due("damper 1 had no command to open", x.damper(1, 0), 0);
        x.tick(1);
        due("now it had", x.damper(1, 0), 1);
    }

    /** after: "at least TICKS ticks have passed since the alarm time", "with the time before it" */
    private static void timeBeforeTheTick() {
        SmokeControl x = Check.plant("fan stair 1 9;fan stair 1 9;rule after 0 do start 0;rule after 2 do start 1;");
        due("after 0 without an alarm", x.ruleHolds(0), 0);
        x.setSource(0, 50);
        x.tick(2);
        due("alarm at time 2", x.event(0, 0), 2);
        due("after 0 at time 2", x.ruleHolds(0), 1);
        due("the alarm came after the fans", x.fan(0, 0), 0);
        x.tick(1);
        due("after 2 at time 3", x.ruleHolds(1), 0);
        due("fan 0 in the next tick", x.fan(0, 0), 1);
        x.tick(1);
        due("after 2 at time 4", x.ruleHolds(1), 1);
        due("fan 1 not in the tick to time 4", x.fan(1, 0), 0);
        x.tick(1);
        due("but in that to time 5", x.fan(1, 0), 1);
        SmokeControl y = Check.plant("rule after 999 do close 0;");
        y.setSource(0, 50);
        y.tick(2);
        Check.pass(y, 998);
        due("after 999, 998 ticks on", y.ruleHolds(0), 0);
        y.tick(1);
        due("after 999, 999 ticks on", y.ruleHolds(0), 1);
    }

    // ---- (b) dampers

    /** "Each damper that is not jammed moves by 1 towards the position of its command, if it is not there." */
    private static void travelEnds() {
        SmokeControl x = Check.plant("damper supply 0 1;damper supply 0 30;damper supply 0 30 open;");
        x.operateDamper(0, 1);
        x.operateDamper(1, 1);
        x.operateDamper(2, 2);
        x.tick(1);
        due("1 of 1", x.damper(0, 0), 1);
        due("1 of 30", x.damper(1, 0), 1);
        due("29 of 30", x.damper(2, 0), 29);
        x.tick(28);
        due("not beyond 1", x.damper(0, 0), 1);
        due("29 of 30", x.damper(1, 0), 29);
        due("1 of 30", x.damper(2, 0), 1);
        x.tick(1);
        due("30 of 30", x.damper(1, 0), 30);
        due("0 of 30", x.damper(2, 0), 0);
        x.tick(1);
        due("not beyond 30", x.damper(1, 0), 30);
        due("not below 0", x.damper(2, 0), 0);
    }

    /** A jammed damper stands, at both ends and between them. */
    private static void jammedDampers() {
        SmokeControl x = Check.plant("damper supply 0 2;damper supply 0 2 open;damper supply 0 2;");
        x.operateDamper(2, 1);
        x.tick(1);
        for (int d = 0; d < 3; d++) {
            x.jam(d, true);
        }
        x.operateDamper(0, 1);
        x.operateDamper(1, 2);
        x.tick(3);
        due("shut", x.damper(0, 0), 0);
        due("open", x.damper(1, 0), 2);
        due("between, opening", x.damper(2, 0), 1);
        x.operateDamper(2, 2);
        x.tick(3);
        due("between, shutting", x.damper(2, 0), 1);
        due("its timer", x.damper(2, 4), 2);
    }

    /** "the first tick counts as a change" */
    private static void firstTickIsAChange() {
        SmokeControl x = Check.plant("proof 0;damper supply 0 1;damper supply 0 2 open;");
        x.jam(0, true);
        x.jam(1, true);
        x.operateDamper(0, 1);
        x.operateDamper(1, 2);
        x.tick(1);
        due("damper 0: the first tick", x.damper(0, 4), 0);
        due("damper 1: the first tick", x.damper(1, 4), 0);
        due("no trouble", x.events(), 0);
        x.tick(1);
        due("damper 0: the second", x.damper(0, 4), 1);
        due("damper 1: the second", x.damper(1, 4), 1);
        Check.dueEvents("the second tick", x, 1, "2:1/0");
        x.tick(1);
        Check.dueEvents("the third tick", x, 2, "2:1/0 3:1/1");
        // After a load there is a first tick again.
        Check.load(x, "proof 0;damper supply 0 1;");
        x.jam(0, true);
        x.operateDamper(0, 1);
        x.tick(1);
        due("loaded again: the first tick", x.damper(0, 4), 0);
        x.tick(1);
        due("loaded again: the second", x.damper(0, 4), 1);
    }

    /** "Its proof timer becomes 0 if its command is another one than in the tick before" */
    private static void changeOfCommand() {
        SmokeControl x = Check.plant("proof 0;damper supply 0 4;");
        x.operateDamper(0, 1);
        x.tick(2);
        due("opening", x.damper(0, 4), 1);
        x.jam(0, true);
        x.tick(2);
        due("jammed", x.damper(0, 4), 3);
        x.operateDamper(0, 2);
        x.tick(1);
        due("the other command", x.damper(0, 4), 0);
        due("no trouble at what would have been 4", x.damper(0, 3), 0);
        x.tick(3);
        due("on", x.damper(0, 4), 3);
        // The source does not matter where the command is the same one.
        x.turnKey(true);
        x.switchDamper(0, 2);
        x.tick(1);
        due("the same command of another source", x.damper(0, 4), 4);
        due("trouble", x.damper(0, 3), 1);
        // A command that comes and goes between two ticks is no change.
        x.switchDamper(0, 1);
        x.switchDamper(0, 2);
        x.tick(1);
        due("back before the tick", x.damper(0, 4), 5);
    }

    /** The timer becomes 0 "if it is proven in the position of its command after the move" */
    private static void provenInItsPosition() {
        SmokeControl x = Check.plant("damper supply 0 3;damper supply 0 3 open;");
        x.operateDamper(0, 1);
        x.operateDamper(1, 2);
        int[] timers = {0, 1, 0, 0};
        for (int timer : timers) {
            x.tick(1);
            due("opening: timer", x.damper(0, 4), timer);
            due("shutting: timer", x.damper(1, 4), timer);
        }
        x.jam(0, true);
        x.tick(30);
        due("jammed where it should be", x.damper(0, 4), 0);
        due("no trouble", x.damper(0, 3), 0);
    }

    /** "if it is then T + proof time, the damper gets trouble" */
    private static void damperTroubleAtItsTime() {
        SmokeControl x = Check.plant("proof 3;damper exhaust 0 5;");
        x.jam(0, true);
        x.operateDamper(0, 1);
        x.tick(8);
        due("timer 7", x.damper(0, 4), 7);
        due("no trouble at 7", x.damper(0, 3), 0);
        due("no event", x.events(), 0);
        x.tick(1);
        due("timer 8", x.damper(0, 4), 8);
        due("trouble at 5 + 3", x.damper(0, 3), 1);
        Check.dueEvents("trouble", x, 1, "9:1/0");
        // One tick less, and the damper is there in time.
        SmokeControl y = Check.plant("proof 3;damper exhaust 0 5;");
        y.jam(0, true);
        y.operateDamper(0, 1);
        y.tick(4);
        y.jam(0, false);
        y.tick(4);
        due("timer 7", y.damper(0, 4), 7);
        y.tick(1);
        due("there", y.damper(0, 0), 5);
        due("timer 0", y.damper(0, 4), 0);
        due("no trouble", y.damper(0, 3), 0);
    }

    /** A proof time of 0: a damper that moves in time has no trouble, one that is late by a tick has. */
    private static void damperTroubleWithoutProofTime() {
        SmokeControl x = Check.plant("proof 0;damper supply 0 1;damper supply 0 30;damper supply 0 30;");
        for (int d = 0; d < 3; d++) {
            x.operateDamper(d, 1);
        }
        x.jam(2, true);
        x.tick(1);
        x.jam(2, false);
        x.tick(29);
        due("damper 0", x.damper(0, 3), 0);
        due("damper 1 is there", x.damper(1, 0), 30);
        due("damper 1", x.damper(1, 3), 0);
        due("damper 2 is not", x.damper(2, 0), 29);
        due("its timer", x.damper(2, 4), 29);
        x.tick(1);
        due("now it is", x.damper(2, 0), 30);
        due("no trouble", x.events(), 0);
        SmokeControl y = Check.plant("proof 0;damper supply 0 30;");
        y.operateDamper(0, 1);
        y.jam(0, true);
        y.tick(2);
        y.jam(0, false);
        y.tick(28);
        due("timer 29", y.damper(0, 4), 29);
        due("no trouble yet", y.damper(0, 3), 0);
        y.tick(1);
        due("trouble at 30", y.damper(0, 3), 1);
    }

    /** T and the proof time at their greatest: 30 + 999. */
    private static void damperTroubleWithLongestTimes() {
        SmokeControl x = Check.plant("proof 999;damper supply 0 30;");
        x.jam(0, true);
        x.operateDamper(0, 1);
        Check.pass(x, 1029);
        due("timer 1028", x.damper(0, 4), 1028);
        due("no trouble", x.damper(0, 3), 0);
        x.tick(1);
        due("timer 1029", x.damper(0, 4), 1029);
        due("trouble", x.damper(0, 3), 1);
        Check.pass(x, 8969);
        due("time", x.time(), 9999);
        due("the timer at the end of time", x.damper(0, 4), 9998);
        due("one event", x.events(), 1);
    }

    // ---- (c) fans

    /** "its level increases by 1, to at most its ramp time; otherwise its level decreases by 1, to at least 0" */
    private static void levelEnds() {
        SmokeControl x = Check.plant("damper supply 0 1 open;fan supply 999 1 0;fan supply 999 30 0;");
        x.operateFan(0, 1);
        x.operateFan(1, 1);
        x.tick(1);
        due("1 of 1", x.fan(0, 0), 1);
        due("1 of 30", x.fan(1, 0), 1);
        x.tick(28);
        due("1 of 1", x.fan(0, 0), 1);
        due("29 of 30", x.fan(1, 0), 29);
        x.tick(1);
        due("30 of 30", x.fan(1, 0), 30);
        x.tick(2);
        due("not beyond 30", x.fan(1, 0), 30);
        Check.dueEvents("each level is reached once", x, 2, "1:4/0 30:4/1");
        x.operateFan(0, 2);
        x.operateFan(1, 2);
        x.tick(30);
        due("0 of 1", x.fan(0, 0), 0);
        due("0 of 30", x.fan(1, 0), 0);
        x.tick(2);
        due("not below 0", x.fan(1, 0), 0);
        due("four events", x.events(), 4);
        Check.dueEvents("each level is reached once", x, 2, "33:5/0 62:5/1");
    }

    /** As many dampers and fans as there may be: each moves for itself, with its own timer and its own events. */
    private static void sixteenDampersAndSixFans() {
        StringBuilder text = new StringBuilder("proof 99;");
        for (int d = 0; d < 16; d++) {
            text.append("damper exhaust 0 ").append(d + 4).append(';');
        }
        for (int f = 0; f < 6; f++) {
            text.append("fan stair 9 ").append(f + 3).append(';');
        }
        SmokeControl x = Check.plant(text.toString());
        for (int d = 0; d < 16; d++) {
            x.operateDamper(d, 1);
        }
        for (int f = 0; f < 6; f++) {
            x.operateFan(f, 1);
        }
        for (int time = 1; time <= 9; time++) {
            x.tick(1);
            for (int d = 0; d < 16; d++) {
                due("damper " + d + " at " + time, x.damper(d, 0), Math.min(time, d + 4));
            }
            for (int f = 0; f < 6; f++) {
                due("fan " + f + " at " + time, x.fan(f, 0), Math.min(time, f + 3));
                due("fan " + f + " at " + time + ": timer", x.fan(f, 4), time < f + 3 ? time : 0);
            }
        }
        due("timer of damper 15", x.damper(15, 4), 8);
        due("timer of damper 0", x.damper(0, 4), 0);
        Check.dueEvents("levels", x, 6, "3:4/0 4:4/1 5:4/2 6:4/3 7:4/4 8:4/5");
        due("no other event", x.events(), 6);
        for (int d = 0; d < 16; d += 15) {
            x.operateDamper(d, 0);
        }
        x.operateFan(0, 0);
        x.tick(2);
        due("damper 0 shuts", x.damper(0, 0), 2);
        due("damper 15 shuts", x.damper(15, 0), 7);
        due("fan 0 slows down", x.fan(0, 0), 1);
        due("fan 5 does not", x.fan(5, 0), 8);
    }

    /** "it is a stair fan or some damper of its list is proven open after step (b)" */
    private static void fanNeedsProvenDamper() {
        SmokeControl x = Check.plant("damper supply 0 3;damper supply 0 2;fan supply 9 9 0 1;fan stair 9 9;"
            + "fan supply 9 9;");
        for (int f = 0; f < 3; f++) {
            x.operateFan(f, 1);
        }
        x.tick(1);
        due("no damper is open", x.fan(0, 0), 0);
        due("a stair fan needs none", x.fan(1, 0), 1);
        due("waits", x.fan(0, 6), 1);
        x.operateDamper(0, 1);
        x.tick(2);
        due("2 of 3 is not open", x.fan(0, 0), 0);
        due("waits", x.fan(0, 6), 1);
        x.tick(1);
        due("3 of 3 is, in the tick of the move", x.fan(0, 0), 1);
        due("waits no more", x.fan(0, 6), 0);
        x.operateDamper(1, 1);
        x.tick(2);
        due("both are open", x.fan(0, 0), 3);
        x.operateDamper(0, 2);
        x.tick(1);
        due("one is enough", x.fan(0, 0), 4);
        x.operateDamper(1, 2);
        x.tick(1);
        due("none is left", x.fan(0, 0), 3);
        due("waits again", x.fan(0, 6), 1);
        x.operateFan(0, 2);
        due("without start it does not wait", x.fan(0, 6), 0);
        due("a fan without a list never runs", x.fan(2, 0), 0);
        due("a fan without a list waits", x.fan(2, 6), 1);
    }

    /** "its proof timer increases by 1, and if it is then ramp time + proof time, the fan gets trouble" */
    private static void fanTroubleAtItsTime() {
        SmokeControl x = Check.plant("proof 3;fan stair 9 5;");
        x.breakFan(0, true);
        x.operateFan(0, 1);
        x.tick(7);
        due("timer 7", x.fan(0, 4), 7);
        due("no trouble at 7", x.fan(0, 3), 0);
        x.tick(1);
        due("timer 8", x.fan(0, 4), 8);
        due("trouble at 5 + 3", x.fan(0, 3), 1);
        Check.dueEvents("trouble", x, 1, "8:2/0");
        // One tick less, and the fan runs in time.
        SmokeControl y = Check.plant("proof 3;fan stair 9 5;");
        y.breakFan(0, true);
        y.operateFan(0, 1);
        y.tick(3);
        y.breakFan(0, false);
        y.tick(4);
        due("timer 7", y.fan(0, 4), 7);
        y.tick(1);
        due("level", y.fan(0, 0), 5);
        due("timer 0", y.fan(0, 4), 0);
        due("no trouble", y.fan(0, 3), 0);
    }

    /** A proof time of 0 with the shortest and the longest ramp. */
    private static void fanTroubleWithoutProofTime() {
        SmokeControl x = Check.plant("proof 0;fan stair 9 1;fan stair 9 30;fan stair 9 1;");
        for (int f = 0; f < 3; f++) {
            x.operateFan(f, 1);
        }
        x.breakFan(2, true);
        x.tick(1);
        due("ramp 1", x.fan(0, 3), 0);
        due("ramp 1, broken: timer", x.fan(2, 4), 1);
        due("ramp 1, broken: trouble in the first tick", x.fan(2, 3), 1);
        x.tick(28);
        due("timer 29", x.fan(1, 4), 29);
        x.tick(1);
        due("level 30", x.fan(1, 0), 30);
        due("timer 0", x.fan(1, 4), 0);
        due("ramp 30: no trouble", x.fan(1, 3), 0);
        SmokeControl y = Check.plant("proof 0;fan stair 9 30;");
        y.operateFan(0, 1);
        y.breakFan(0, true);
        y.tick(1);
        y.breakFan(0, false);
        y.tick(28);
        due("timer 29", y.fan(0, 4), 29);
        due("no trouble yet", y.fan(0, 3), 0);
        y.tick(1);
        due("level 29 at 30", y.fan(0, 0), 29);
        due("trouble at 30", y.fan(0, 3), 1);
    }

    /** Ramp and proof time at their greatest: 30 + 999. */
    private static void fanTroubleWithLongestTimes() {
        SmokeControl x = Check.plant("proof 999;fan stair 9 30;");
        x.breakFan(0, true);
        x.operateFan(0, 1);
        Check.pass(x, 1028);
        due("timer 1028", x.fan(0, 4), 1028);
        due("no trouble", x.fan(0, 3), 0);
        x.tick(1);
        due("timer 1029", x.fan(0, 4), 1029);
        due("trouble", x.fan(0, 3), 1);
    }

    /** "otherwise its proof timer becomes 0": without start, without a damper, and at the ramp time */
    private static void fanTimerEnds() {
        SmokeControl x = Check.plant("damper supply 0 1 open;fan supply 9 9 0;");
        x.operateFan(0, 1);
        x.tick(4);
        due("timer", x.fan(0, 4), 4);
        x.operateFan(0, 2);
        x.tick(1);
        due("without start", x.fan(0, 4), 0);
        x.operateFan(0, 1);
        x.tick(1);
        due("timer", x.fan(0, 4), 1);
        x.operateDamper(0, 2);
        x.tick(1);
        due("without a damper", x.fan(0, 4), 0);
        x.operateDamper(0, 1);
        x.tick(5);
        due("level", x.fan(0, 0), 8);
        due("timer", x.fan(0, 4), 5);
        x.tick(1);
        due("at the ramp time", x.fan(0, 4), 0);
        x.breakFan(0, true);
        x.tick(1);
        due("below it again", x.fan(0, 4), 1);
    }
}
