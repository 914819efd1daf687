/**
 * The boundary cases of the parameters, by the promises that name them: the last value that is good and the first that
 * is not, on a plant as large as may be and on one with nothing; and section 6, the order of the errors.
 */
final class CallEdgesTest {
    /** As much of everything as there may be; damper d is in zone d / 2, and each of them shut. */
    static final String FULL = full();

    private interface Numbered {
        int call(SmokeControl x, int number);
    }

    public static void main(String[] args) {
        numbersOfFullPlant();
        numbersOfSmallestPlant();
        lastOnesWork();
        rates();
        positions();
        commands();
        ticks();
        endOfTime();
        whatOfStair();
        whatOfDamper();
        whatOfFan();
        whatOfEvent();
        sourcesOfCommands();
        logAtItsEnds();
        trialTicks();
        limits();
        ticksOfBestSwitch();
        sets();
        slots();
        noneBeforeRange();
        rangeBeforeState();
        noneBeforeState();
        Check.end();
    }

    private static String full() {
        StringBuilder text = new StringBuilder("zones 8;");
        for (int d = 0; d < 16; d++) {
            text.append(d < 8 ? "damper exhaust " : "damper supply ").append(d / 2).append(" 2;");
        }
        text.append("fan exhaust 999 1 0 7;fan supply 9 1 8 15;").append("fan stair 999 1;".repeat(4));
        text.append("door 7 1 51;".repeat(10));
        text.append("rule trouble do close 0;".repeat(11)).append("rule ajar 9 do stop 5;");
        return text.toString();
    }

    private static void due(String call, int got, int want) {
        Check.due(call, got, want);
    }

    /** -1 for the numbers beside 0 to size - 1, and no error for its ends. */
    private static void numbers(String name, SmokeControl x, int size, Numbered it) {
        for (int number : new int[] {-1, size, Integer.MIN_VALUE, Integer.MAX_VALUE, size + 1, -size - 1}) {
            due(name + " of " + number, it.call(x, number), -1);
        }
        if (size > 0) {
            for (int number : new int[] {0, size - 1}) {
                due(name + " of " + number + " is an error", it.call(x, number) < 0 ? 1 : 0, 0);
            }
        }
    }

    /** -2 for the values beside low to high, and no error for its ends. */
    private static void values(String name, SmokeControl x, int low, int high, Numbered it) {
        for (int value : new int[] {low - 1, high + 1, Integer.MIN_VALUE, Integer.MAX_VALUE}) {
            due(name + " with " + value, it.call(x, value), -2);
        }
        for (int value : new int[] {low, high}) {
            int got = it.call(x, value);
            due(name + " with " + value + " is refused", got == -2 || got == -1 ? 1 : 0, 0);
        }
    }

    // ---- "-1 if there is no such zone", damper, fan, door, rule, event

    private static void numbersOfFullPlant() {
        SmokeControl x = Check.plant(FULL);
        x.setSource(0, 50);
        x.tick(4);
        x.setSource(0, 0);
        numbered(x, new int[] {8, 16, 6, 10, 12, 1});
        SmokeControl y = Check.plant(FULL);
        numberedTrials(y, 8);
    }

    private static void numbersOfSmallestPlant() {
        SmokeControl x = new SmokeControl();
        numbered(x, new int[] {1, 0, 0, 0, 0, 0});
        numberedTrials(x, 1);
        SmokeControl y = Check.plant("damper supply 0 1;fan stair 1 1;door 0 1 51;rule trouble do close 0;");
        numbered(y, new int[] {1, 1, 1, 1, 1, 0});
    }

    /** sizes: the numbers of zones, dampers, fans, doors, rules and events. */
    private static void numbered(SmokeControl x, int[] sizes) {
        numbers("setSource", x, sizes[0], (y, n) -> y.setSource(n, 0));
        numbers("setDetector", x, sizes[0], (y, n) -> y.setDetector(n, true));
        numbers("setDoor", x, sizes[3], (y, n) -> y.setDoor(n, true));
        numbers("jam", x, sizes[1], (y, n) -> y.jam(n, true));
        numbers("breakFan", x, sizes[2], (y, n) -> y.breakFan(n, true));
        numbers("switchDamper", x, sizes[1], (y, n) -> y.switchDamper(n, 0));
        numbers("switchFan", x, sizes[2], (y, n) -> y.switchFan(n, 0));
        numbers("operateDamper", x, sizes[1], (y, n) -> y.operateDamper(n, 0));
        numbers("operateFan", x, sizes[2], (y, n) -> y.operateFan(n, 0));
        numbers("smoke", x, sizes[0], (y, n) -> y.smoke(n));
        numbers("alarm", x, sizes[0], (y, n) -> y.alarm(n));
        numbers("supply", x, sizes[0], (y, n) -> y.supply(n));
        numbers("exhaust", x, sizes[0], (y, n) -> y.exhaust(n));
        numbers("damper", x, sizes[1], (y, n) -> y.damper(n, 0));
        numbers("fan", x, sizes[2], (y, n) -> y.fan(n, 0));
        numbers("ruleHolds", x, sizes[4], (y, n) -> y.ruleHolds(n));
        numbers("event", x, sizes[5], (y, n) -> y.event(n, 0));
    }

    private static void numberedTrials(SmokeControl x, int zones) {
        numbers("smokeAfter", x, zones, (y, n) -> y.smokeAfter(n, 1));
        numbers("purgeTime", x, zones, (y, n) -> y.purgeTime(n));
    }

    /** The last zone, damper, fan, door and rule are as good as the first ones. */
    private static void lastOnesWork() {
        SmokeControl x = Check.plant(FULL);
        due("zone 7: source", x.setSource(7, 50), 0);
        due("door 9", x.setDoor(9, true), 1);
        due("areas", x.stair(3), 60);
        due("rule 11 of door 9", x.ruleHolds(11), 1);
        due("rule 10", x.ruleHolds(10), 0);
        x.operateDamper(15, 1);
        x.operateFan(1, 1);
        x.operateFan(5, 1);
        x.tick(2);
        due("damper 15: position", x.damper(15, 0), 2);
        due("damper 15: zone", x.damper(15, 5), 7);
        due("supply of zone 7", x.supply(7), 9);
        due("fan 5: level", x.fan(5, 0), 1);
        due("fan 5: source", x.fan(5, 2), 1);
        due("air of the staircase", x.stair(4), 999);
        x.tick(1);
        due("alarm of zone 7", x.alarm(7), 1);
        due("first alarm", x.firstAlarm(), 7);
        due("fan 5 by rule 11", x.fan(5, 1) * 10 + x.fan(5, 2), 2);
        x.turnKey(true);
        x.switchFan(5, 1);
        x.switchDamper(15, 2);
        due("fan 5 by the panel", x.fan(5, 1) * 10 + x.fan(5, 2), 13);
        due("damper 15 by the panel", x.damper(15, 1) * 10 + x.damper(15, 2), 3);
        due("commands of the panel", x.commandsBy(3), 2);
        x.jam(15, true);
        x.breakFan(5, true);
        x.tick(14);
        due("damper 15: trouble at 2 + 10", x.damper(15, 3), 1);
        due("fan 5: trouble at 1 + 10", x.fan(5, 3), 1);
        SmokeControl y = Check.plant(FULL);
        y.setSource(7, 50);
        due("detector of zone 7", y.setDetector(7, true), 1);
        y.tick(4);
        due("no alarm of zone 7", y.alarm(7), 0);
    }

    // ---- "-2 if another parameter is out of range"

    /** "-2 if rate is not 0 to 50" */
    private static void rates() {
        SmokeControl x = Check.plant("zones 2;");
        values("setSource(1)", x, 0, 50, (y, v) -> y.setSource(1, v));
        due("the last good rate stands", x.setSource(1, 0), 50);
        due("a rate of 0 stands", x.setSource(1, 51), -2);
        due("still", x.setSource(1, 1), 0);
    }

    /** "-2 if position is not 0 to 2" */
    private static void positions() {
        SmokeControl x = Check.plant("damper supply 0 1;fan stair 1 1;");
        values("switchDamper(0)", x, 0, 2, (y, v) -> y.switchDamper(0, v));
        values("switchFan(0)", x, 0, 2, (y, v) -> y.switchFan(0, v));
        due("the last good position stands", x.switchDamper(0, 1), 2);
        due("and of the fan", x.switchFan(0, 1), 2);
        x.turnKey(true);
        values("switchDamper(0) with the key on", x, 0, 2, (y, v) -> y.switchDamper(0, v));
        values("switchFan(0) with the key on", x, 0, 2, (y, v) -> y.switchFan(0, v));
    }

    /** "-2 if command is not 0 to 2" */
    private static void commands() {
        SmokeControl x = Check.plant("damper supply 0 1;fan stair 1 1;");
        values("operateDamper(0)", x, 0, 2, (y, v) -> y.operateDamper(0, v));
        values("operateFan(0)", x, 0, 2, (y, v) -> y.operateFan(0, v));
        due("the last good command stands", x.operateDamper(0, 1), 2);
        due("and of the fan", x.operateFan(0, 1), 2);
    }

    /** tick: "-2 if n is not 1 to 200" */
    private static void ticks() {
        SmokeControl x = new SmokeControl();
        values("tick", x, 1, 200, (y, v) -> y.tick(v));
        due("time", x.time(), 201);
    }

    /** tick: "less than n if time 9999 is reached"; time goes "from 0 to 9999" */
    private static void endOfTime() {
        SmokeControl x = new SmokeControl();
        Check.pass(x, 9798);
        due("tick(200) from 9798", x.tick(200), 200);
        x.keep(0);
        due("tick(1) from 9998", x.tick(1), 1);
        due("time", x.time(), 9999);
        due("tick(1) from 9999", x.tick(1), 0);
        due("tick(200) from 9999", x.tick(200), 0);
        due("time", x.time(), 9999);
        x.restore(0);
        due("tick(2) from 9998", x.tick(2), 1);
        x.restore(0);
        due("tick(200) from 9998", x.tick(200), 1);
        due("time", x.time(), 9999);
        due("tick(0) from 9999", x.tick(0), -2);
        due("tick(201) from 9999", x.tick(201), -2);
    }

    /** stair: "-2 for another value of what" */
    private static void whatOfStair() {
        values("stair", Check.plant(FULL), 0, 5, (y, v) -> y.stair(v));
        values("stair of a new object", new SmokeControl(), 0, 5, (y, v) -> y.stair(v));
    }

    /** damper: "-2 for another value of what" */
    private static void whatOfDamper() {
        SmokeControl x = Check.plant(FULL);
        values("damper(0)", x, 0, 6, (y, v) -> y.damper(0, v));
        values("damper(15)", x, 0, 6, (y, v) -> y.damper(15, v));
    }

    /** fan: "-2 for another value of what" */
    private static void whatOfFan() {
        SmokeControl x = Check.plant(FULL);
        values("fan(0)", x, 0, 6, (y, v) -> y.fan(0, v));
        values("fan(5)", x, 0, 6, (y, v) -> y.fan(5, v));
    }

    /** event: "-2 for another value of what" */
    private static void whatOfEvent() {
        SmokeControl x = new SmokeControl();
        x.turnKey(true);
        values("event(0)", x, 0, 2, (y, v) -> y.event(0, v));
    }

    /** commandsBy: "-2 if source is not 0 to 3" */
    private static void sourcesOfCommands() {
        values("commandsBy", Check.plant(FULL), 0, 3, (y, v) -> y.commandsBy(v));
        SmokeControl x = new SmokeControl();
        for (int source = 0; source <= 3; source++) {
            due("commandsBy(" + source + ") without dampers and fans", x.commandsBy(source), 0);
        }
        due("all 22 of a full plant", Check.plant(FULL).commandsBy(0), 22);
    }

    /** "the number of events in the log, at most 50"; "-1 if there is no such event" */
    private static void logAtItsEnds() {
        SmokeControl x = new SmokeControl();
        due("no event", x.events(), 0);
        due("event(0) of none", x.event(0, 0), -1);
        boolean on = false;
        for (int n = 1; n <= 101; n++) {
            on = !on;
            x.turnKey(on);
            int kept = Math.min(n, 50);
            if (n == 1 || n == 49 || n == 50 || n == 51 || n > 98) {
                due("events after " + n, x.events(), kept);
                due("the latest", x.event(0, 1), on ? 6 : 7);
                due("the oldest", x.event(kept - 1, 1), n <= 50 ? 6 : on ? 7 : 6);
                due("none behind it", x.event(kept, 1), -1);
            }
            x.tick(1);
        }
        due("the latest: time", x.event(0, 0), 100);
        due("the oldest: time", x.event(49, 0), 51);
    }

    /** smokeAfter, allSmokeAfter, pressureAfter: "-2 if n is not 0 to 200" */
    private static void trialTicks() {
        SmokeControl x = Check.plant(FULL);
        values("smokeAfter(7)", x, 0, 200, (y, v) -> y.smokeAfter(7, v));
        values("allSmokeAfter", x, 0, 200, (y, v) -> y.allSmokeAfter(v));
        values("pressureAfter", x, 0, 200, (y, v) -> y.pressureAfter(v));
    }

    /** clearAfter: "-2 if limit is not 1 to 1000" */
    private static void limits() {
        values("clearAfter", new SmokeControl(), 1, 1000, (y, v) -> y.clearAfter(v));
    }

    /** bestSwitch: "n: 1 to 60" */
    private static void ticksOfBestSwitch() {
        values("bestSwitch", Check.plant(FULL), 1, 60, (y, v) -> y.bestSwitch(v));
        values("bestSwitch of a new object", new SmokeControl(), 1, 60, (y, v) -> y.bestSwitch(v));
    }

    /** pressureWith: "-2 if set has a bit of no door or is negative" */
    private static void sets() {
        SmokeControl x = Check.plant(FULL);
        values("pressureWith of ten doors", x, 0, 1023, (y, v) -> y.pressureWith(v));
        for (int bit = 10; bit < 32; bit++) {
            due("bit " + bit, x.pressureWith(1 << bit), -2);
            due("bit " + bit + " besides door 0", x.pressureWith(1 << bit | 1), -2);
        }
        values("pressureWith of no door", new SmokeControl(), 0, 0, (y, v) -> y.pressureWith(v));
        values("pressureWith of one door", Check.plant("door 0 1 51;"), 0, 1, (y, v) -> y.pressureWith(v));
    }

    /** keep, restore: "-1 if slot is not 0 to 2" */
    private static void slots() {
        SmokeControl x = new SmokeControl();
        numbers("keep", x, 3, (y, n) -> y.keep(n));
        due("slot 1 is empty yet", x.restore(1), -4);
        x.keep(1);
        numbers("restore", x, 3, (y, n) -> y.restore(n));
    }

    // ---- section 6

    /** "-1 comes before -2" */
    private static void noneBeforeRange() {
        SmokeControl x = Check.plant(FULL);
        x.turnKey(true);
        for (int bad : new int[] {-1, 1001, Integer.MIN_VALUE, Integer.MAX_VALUE}) {
            due("setSource", x.setSource(8, bad), -1);
            due("switchDamper", x.switchDamper(16, bad), -1);
            due("switchFan", x.switchFan(6, bad), -1);
            due("operateDamper", x.operateDamper(16, bad), -1);
            due("operateFan", x.operateFan(6, bad), -1);
            due("damper", x.damper(16, bad), -1);
            due("fan", x.fan(6, bad), -1);
            due("event", x.event(1, bad), -1);
            due("smokeAfter", x.smokeAfter(8, bad), -1);
            due("setSource", x.setSource(-1, bad), -1);
            due("switchDamper", x.switchDamper(-1, bad), -1);
            due("switchFan", x.switchFan(-1, bad), -1);
            due("operateDamper", x.operateDamper(-1, bad), -1);
            due("operateFan", x.operateFan(-1, bad), -1);
            due("damper", x.damper(-1, bad), -1);
            due("fan", x.fan(-1, bad), -1);
            due("event", x.event(-1, bad), -1);
            due("smokeAfter", x.smokeAfter(-1, bad), -1);
        }
    }

    /** "and -2 before -4" */
    private static void rangeBeforeState() {
        SmokeControl x = new SmokeControl();
        x.setSource(0, 50);
        x.tick(20);
        due("clearAfter(1000) does not come", x.clearAfter(1000), -4);
        due("clearAfter(1001)", x.clearAfter(1001), -2);
        due("clearAfter(0)", x.clearAfter(0), -2);
        x.feed(-1, -1, -1, -1, -1);
        due("load(21) of an error", x.load(21), -2);
        due("load(-1) of an error", x.load(-1), -2);
        due("load(20)", x.load(20), -4);
    }

    /** -1 before -4, as the first of all */
    private static void noneBeforeState() {
        SmokeControl x = new SmokeControl();
        x.setSource(0, 50);
        x.tick(20);
        due("purgeTime(0) does not come", x.purgeTime(0), -4);
        due("purgeTime(1)", x.purgeTime(1), -1);
        due("purgeTime(-1)", x.purgeTime(-1), -1);
        due("restore(2) of an empty slot", x.restore(2), -4);
        due("restore(3)", x.restore(3), -1);
        due("restore(-1)", x.restore(-1), -1);
    }
}
