import java.util.function.Supplier;
import java.util.function.ToIntFunction;

/**
 * Section 6: "A method that returns an error code changes nothing, except that load() empties the buffer on a text
 * error", and section 5: a trial "changes nothing". Of two objects in the same state one gets the call; then all that
 * is to be seen of both is the same, now and in the ticks that follow.
 */
final class RefusalTest {
    private static final String PLANT = "zones 2;proof 3;damper exhaust 0 2;damper supply 1 3 open;fan exhaust 90 2 0;"
        + "fan stair 20 3;fan supply 80 4 1;door 0 5 90;door 1 6 70;rule alarm 0 do start 0,open 0;"
        + "rule ajar 1 do start 2;";

    public static void main(String[] args) {
        refusedNumbers();
        refusedValues();
        refusedByState();
        refusedOnSmallestPlant();
        refusedInput();
        textErrors();
        trials();
        questions();
        Check.end();
    }

    /** A state in which nothing is as at first: smoke that no exhaust takes, open doors, timers, trouble, two slots. */
    static SmokeControl busy() {
        SmokeControl x = Check.plant(PLANT);
        x.setSource(0, 40);
        x.setSource(1, 3);
        x.setDetector(1, true);
        x.jam(0, true);
        x.breakFan(2, true);
        x.switchDamper(0, 1);
        x.switchFan(1, 2);
        x.operateDamper(1, 2);
        x.operateFan(1, 1);
        x.tick(4);
        x.keep(0);
        x.turnKey(true);
        x.setDoor(0, true);
        x.setDoor(1, true);
        x.operateDamper(1, 0);
        x.tick(9);
        x.keep(1);
        x.turnKey(false);
        x.tick(2);
        Check.feed(x, "zones 2;target 5;;");
        return x;
    }

    /** A state without an alarm, and with an empty log. */
    private static SmokeControl calm() {
        SmokeControl x = Check.plant(PLANT);
        x.setSource(1, 1);
        x.operateDamper(0, 1);
        x.tick(2);
        return x;
    }

    private static void refused(String call, int code, Supplier<SmokeControl> state, ToIntFunction<SmokeControl> it) {
        SmokeControl x = state.get();
        Check.due(call, it.applyAsInt(x), code);
        same(call, x, state.get());
    }

    private static void same(String call, SmokeControl x, SmokeControl y) {
        Seen.due("after " + call, Seen.now(x), Seen.now(y));
        Check.due("after " + call + ": errorCode", x.errorCode(), y.errorCode());
        Check.due("after " + call + ": errorPosition", x.errorPosition(), y.errorPosition());
        Check.due("after " + call + ": length", x.feed(1, 2, 3, 4, 5), y.feed(1, 2, 3, 4, 5));
        Check.due("after " + call + ": load(18)", x.load(18), y.load(18));
        Check.due("after " + call + ": errorPosition", x.errorPosition(), y.errorPosition());
        x.tick(3);
        y.tick(3);
        Seen.due("some ticks after " + call, Seen.now(x), Seen.now(y));
        Seen.due("what is set after " + call, Seen.set(x), Seen.set(y));
        Seen.due("the slots after " + call, Seen.slots(x), Seen.slots(y));
    }

    private static void refusedNumbers() {
        for (int by : new int[] {-1, Integer.MIN_VALUE, Integer.MAX_VALUE, 0}) {
            int zone = by == 0 ? 2 : by;
            int damper = by == 0 ? 2 : by;
            int fan = by == 0 ? 3 : by;
            int slot = by == 0 ? 3 : by;
            String of = " of " + (by == 0 ? "the next one" : by);
            refused("setSource" + of, -1, RefusalTest::busy, x -> x.setSource(zone, 7));
            refused("setDetector" + of, -1, RefusalTest::busy, x -> x.setDetector(zone, true));
            refused("setDoor" + of, -1, RefusalTest::busy, x -> x.setDoor(zone, false));
            refused("jam" + of, -1, RefusalTest::busy, x -> x.jam(damper, true));
            refused("breakFan" + of, -1, RefusalTest::busy, x -> x.breakFan(fan, true));
            refused("switchDamper" + of, -1, RefusalTest::busy, x -> x.switchDamper(damper, 1));
            refused("switchFan" + of, -1, RefusalTest::busy, x -> x.switchFan(fan, 1));
            refused("operateDamper" + of, -1, RefusalTest::busy, x -> x.operateDamper(damper, 1));
            refused("operateFan" + of, -1, RefusalTest::busy, x -> x.operateFan(fan, 1));
            refused("smokeAfter" + of, -1, RefusalTest::busy, x -> x.smokeAfter(zone, 5));
            refused("purgeTime" + of, -1, RefusalTest::busy, x -> x.purgeTime(zone));
            refused("keep" + of, -1, RefusalTest::busy, x -> x.keep(slot));
            refused("restore" + of, -1, RefusalTest::busy, x -> x.restore(slot));
            refused("smoke, alarm, supply, exhaust" + of, -4, RefusalTest::busy,
                x -> x.smoke(zone) + x.alarm(zone) + x.supply(zone) + x.exhaust(zone));
            refused("damper, fan, ruleHolds, event" + of, -4, RefusalTest::busy,
                x -> x.damper(damper, 0) + x.fan(fan, 0) + x.ruleHolds(zone) + x.event(by == 0 ? x.events() : by, 0));
        }
    }

    private static void refusedValues() {
        for (int bad : new int[] {-1, 1001, Integer.MIN_VALUE, Integer.MAX_VALUE}) {
            String with = " with " + bad;
            refused("setSource" + with, -2, RefusalTest::busy, x -> x.setSource(0, bad));
            refused("switchDamper" + with, -2, RefusalTest::busy, x -> x.switchDamper(0, bad));
            refused("switchFan" + with, -2, RefusalTest::busy, x -> x.switchFan(0, bad));
            refused("operateDamper" + with, -2, RefusalTest::busy, x -> x.operateDamper(0, bad));
            refused("operateFan" + with, -2, RefusalTest::busy, x -> x.operateFan(0, bad));
            refused("tick" + with, -2, RefusalTest::busy, x -> x.tick(bad));
            refused("smokeAfter" + with, -2, RefusalTest::busy, x -> x.smokeAfter(0, bad));
            refused("allSmokeAfter" + with, -2, RefusalTest::busy, x -> x.allSmokeAfter(bad));
            refused("pressureAfter" + with, -2, RefusalTest::busy, x -> x.pressureAfter(bad));
            refused("clearAfter" + with, -2, RefusalTest::busy, x -> x.clearAfter(bad));
            refused("bestSwitch" + with, -2, RefusalTest::busy, x -> x.bestSwitch(bad));
            refused("pressureWith" + with, -2, RefusalTest::busy, x -> x.pressureWith(bad));
            refused("load" + with, -2, RefusalTest::busy, x -> x.load(bad));
            refused("count, stair, commandsBy" + with, -6, RefusalTest::busy, x -> x.count(bad) + x.stair(bad)
                + x.commandsBy(bad));
            refused("damper, fan, event" + with, -6, RefusalTest::busy, x -> x.damper(0, bad) + x.fan(0, bad)
                + x.event(0, bad));
        }
        refused("setSource with 51", -2, RefusalTest::busy, x -> x.setSource(0, 51));
        refused("switchDamper with 3", -2, RefusalTest::busy, x -> x.switchDamper(0, 3));
        refused("switchFan with 3", -2, RefusalTest::busy, x -> x.switchFan(0, 3));
        refused("operateDamper with 3", -2, RefusalTest::busy, x -> x.operateDamper(0, 3));
        refused("operateFan with 3", -2, RefusalTest::busy, x -> x.operateFan(0, 3));
        refused("tick with 0", -2, RefusalTest::busy, x -> x.tick(0));
        refused("tick with 201", -2, RefusalTest::busy, x -> x.tick(201));
        refused("bestSwitch with 61", -2, RefusalTest::busy, x -> x.bestSwitch(61));
        refused("pressureWith with 4", -2, RefusalTest::busy, x -> x.pressureWith(4));
        refused("load with 21", -2, RefusalTest::busy, x -> x.load(21));
    }

    private static void refusedByState() {
        refused("restore of an empty slot", -4, RefusalTest::busy, x -> x.restore(2));
        refused("clearAfter that does not come", -4, RefusalTest::busy, x -> x.clearAfter(1));
        refused("purgeTime that does not come", -4, RefusalTest::busy, x -> x.purgeTime(0));
        refused("mostOpenDoors of a weak fan", -4, RefusalTest::busy, x -> x.mostOpenDoors());
        refused("worstDoor of open doors", -4, RefusalTest::busy, x -> x.worstDoor());
        refused("firstAlarm without an alarm", -4, RefusalTest::calm, x -> x.firstAlarm());
        refused("restore without any slot", -4, RefusalTest::calm, x -> x.restore(0));
        refused("event of an empty log", -1, RefusalTest::calm, x -> x.event(0, 0));
    }

    private static void refusedOnSmallestPlant() {
        refused("setDoor of none", -1, SmokeControl::new, x -> x.setDoor(0, true));
        refused("jam of none", -1, SmokeControl::new, x -> x.jam(0, true));
        refused("breakFan of none", -1, SmokeControl::new, x -> x.breakFan(0, true));
        refused("switchDamper of none", -1, SmokeControl::new, x -> x.switchDamper(0, 1));
        refused("switchFan of none", -1, SmokeControl::new, x -> x.switchFan(0, 1));
        refused("operateDamper of none", -1, SmokeControl::new, x -> x.operateDamper(0, 1));
        refused("operateFan of none", -1, SmokeControl::new, x -> x.operateFan(0, 1));
        refused("ruleHolds of none", -1, SmokeControl::new, x -> x.ruleHolds(0));
        refused("pressureWith of no door", -2, SmokeControl::new, x -> x.pressureWith(1));
        refused("mostOpenDoors of none", -4, SmokeControl::new, x -> x.mostOpenDoors());
        refused("worstDoor of none", -4, SmokeControl::new, x -> x.worstDoor());
        refused("load of no bytes", -2, SmokeControl::new, x -> x.load(1));
    }

    private static SmokeControl full() {
        SmokeControl x = calm();
        Check.load(x, "zones 9;");
        Check.feed(x, "target 9;proof 5;\n" + " ".repeat(882));
        return x;
    }

    private static void refusedInput() {
        refused("feed of a full buffer", -4, RefusalTest::full, x -> x.feed(-1, -1, -1, -1, -1));
        refused("load(901)", -2, RefusalTest::full, x -> x.load(901));
        refused("load(-1)", -2, RefusalTest::full, x -> x.load(-1));
    }

    /** "load() empties the buffer on a text error", and all else stays: the plant, the state and the slots. */
    private static void textErrors() {
        String[] texts = {"zones 3;damper supply 2 9;fan stair 1 1;door 0 1 51;target 7;proof 8;"
            + "rule trouble do close 0;;",
            "zones 9;", "zones 3;" + "fan stair 1 1;".repeat(7), "door", "\u0000", "rule ((((((("};
        int[] codes = {1, 2, 3, 1, 1, 3};
        for (int n = 0; n < texts.length; n++) {
            SmokeControl x = busy();
            SmokeControl y = busy();
            x.load(18);
            y.load(18);
            Check.due("a text with an error", Check.load(x, texts[n]), -4);
            Check.due("its code", x.errorCode(), codes[n]);
            Check.due("the buffer is empty", x.load(1), -2);
            Seen.due("after a text with an error", Seen.now(x), Seen.now(y));
            x.tick(3);
            y.tick(3);
            Seen.due("some ticks after a text with an error", Seen.now(x), Seen.now(y));
            Seen.due("what is set after a text with an error", Seen.set(x), Seen.set(y));
            Seen.due("the slots after a text with an error", Seen.slots(x), Seen.slots(y));
        }
    }

    /** "A trial runs on a copy of the state and changes nothing." */
    private static void trials() {
        unchanged("smokeAfter", x -> x.smokeAfter(0, 200));
        unchanged("allSmokeAfter", x -> x.allSmokeAfter(60));
        unchanged("pressureAfter", x -> x.pressureAfter(1));
        unchanged("clearAfter", x -> x.clearAfter(1));
        unchanged("bestSwitch", x -> x.bestSwitch(60));
        unchanged("purgeTime", x -> x.purgeTime(0));
        unchanged("pressureWith", x -> x.pressureWith(2));
        unchanged("mostOpenDoors", x -> x.mostOpenDoors());
        unchanged("worstDoor", x -> x.worstDoor());
    }

    /** What asks changes nothing, nor does a call that sets what is so already. */
    private static void questions() {
        unchanged("all questions", x -> Seen.now(x).size());
        unchanged("setSource as it is", x -> x.setSource(0, 40));
        unchanged("setDetector as it is", x -> x.setDetector(1, true));
        unchanged("setDoor as it is", x -> x.setDoor(0, true));
        unchanged("jam as it is", x -> x.jam(0, true));
        unchanged("breakFan as it is", x -> x.breakFan(2, true));
        unchanged("turnKey as it is", x -> x.turnKey(false));
        unchanged("switchDamper as it is", x -> x.switchDamper(0, 1));
        unchanged("operateFan as it is", x -> x.operateFan(1, 1));
        unchanged("a restored state and what came after it", x -> x.restore(0) + x.restore(1) + x.turnKey(false)
            + x.tick(2));
    }

    private static void unchanged(String call, ToIntFunction<SmokeControl> it) {
        SmokeControl x = busy();
        it.applyAsInt(x);
        same(call, x, busy());
    }
}
