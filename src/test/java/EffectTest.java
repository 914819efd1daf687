import java.util.ArrayList;
import java.util.List;
import java.util.function.Supplier;
import java.util.function.ToIntFunction;

/**
 * A change does what its promise says and nothing else: all that is to be seen before and after a call is the same, but
 * for the lines that the call is to change.
 */
final class EffectTest {
    private static final String NOTHING = "";
    private static final String COMMANDS = "commandsBy.*|(damper|fan)\\(\\d, [12]\\).*|fan\\(\\d, 6\\).*";
    private static final String LOG = "event.*";

    public static void main(String[] args) {
        fire();
        alarmTime();
        doors();
        faults();
        panel();
        operator();
        resets();
        slots();
        input();
        load();
        Check.end();
    }

    private static SmokeControl busy() {
        return RefusalTest.busy();
    }

    private static SmokeControl busyWithKey() {
        SmokeControl x = busy();
        x.turnKey(true);
        return x;
    }

    /** The lines that the call changes are among those that match shown, and, of what is set, among those of set. */
    private static void only(String call, Supplier<SmokeControl> state, ToIntFunction<SmokeControl> it, String shown,
        String set) {
        SmokeControl x = state.get();
        SmokeControl y = state.get();
        it.applyAsInt(x);
        same("shown after " + call, Seen.now(x), Seen.now(y), shown);
        Check.due("errorCode after " + call, x.errorCode(), y.errorCode());
        Check.due("errorPosition after " + call, x.errorPosition(), y.errorPosition());
        Check.due("the buffer after " + call, x.feed(1, 2, 3, 4, 5), y.feed(1, 2, 3, 4, 5));
        same("set after " + call, Seen.set(x), Seen.set(y), set);
        same("slots after " + call, Seen.slots(x), Seen.slots(y), set);
    }

    private static void same(String when, List<String> got, List<String> want, String but) {
        Seen.due(when, without(got, but), without(want, but));
    }

    private static List<String> without(List<String> lines, String but) {
        List<String> found = new ArrayList<>(lines);
        found.removeIf(line -> line.matches(but));
        return found;
    }

    /** Promises 7 and 8 show at the next tick alone. */
    private static void fire() {
        only("setSource", EffectTest::busy, x -> x.setSource(0, 7), NOTHING, "source and detector 0.*");
        only("setSource", EffectTest::busy, x -> x.setSource(1, 50), NOTHING, "source and detector 1.*");
        only("setDetector", EffectTest::busy, x -> x.setDetector(0, true), NOTHING, "source and detector 0.*");
        only("setDetector", EffectTest::busy, x -> x.setDetector(1, false), NOTHING, "source and detector 1.*");
    }

    /** Promise 8: "an alarm that is on stays on", and its alarm time stays what it is. */
    private static void alarmTime() {
        SmokeControl x = Check.plant("rule after 3 do close 0;");
        x.setSource(0, 50);
        x.tick(2);
        Check.due("the alarm", x.alarm(0), 1);
        x.tick(1);
        x.setDetector(0, true);
        x.tick(1);
        x.setDetector(0, false);
        Check.due("2 ticks since", x.ruleHolds(0), 0);
        x.tick(1);
        Check.due("3 ticks since", x.ruleHolds(0), 1);
        Check.due("no second alarm", x.events(), 1);
    }

    /** Promise 9: the areas and the rules that look at the door change at once, the pressure at the next tick. */
    private static void doors() {
        only("setDoor(0)", EffectTest::busy, x -> x.setDoor(0, false), "stair\\(3\\).*", "door 0.*");
        only("setDoor(1)", EffectTest::busy, x -> x.setDoor(1, false), "stair\\(3\\).*|ruleHolds\\(1\\).*|" + COMMANDS,
            "door 1.*");
    }

    /** Promises 10 and 11: neither the position nor the command, the timer or the trouble changes by itself. */
    private static void faults() {
        only("jam(0, false)", EffectTest::busy, x -> x.jam(0, false), NOTHING, "damper 0.*");
        only("jam(1, true)", EffectTest::busy, x -> x.jam(1, true), NOTHING, "damper 1.*");
        only("breakFan(0, true)", EffectTest::busy, x -> x.breakFan(0, true), NOTHING, "fan 0.*");
        only("breakFan(2, false)", EffectTest::busy, x -> x.breakFan(2, false), NOTHING, "fan 2.*");
    }

    /** Promises 12 to 14: a switch shows while the key is on. */
    private static void panel() {
        only("turnKey(true)", EffectTest::busy, x -> x.turnKey(true), COMMANDS + "|" + LOG, "key.*");
        only("turnKey(false)", EffectTest::busyWithKey, x -> x.turnKey(false), COMMANDS + "|" + LOG, "key.*");
        only("the key on and off", EffectTest::busy, x -> x.turnKey(true) + x.turnKey(false), LOG, NOTHING);
        only("switchDamper", EffectTest::busy, x -> x.switchDamper(0, 2), NOTHING, "damper 0.*");
        only("switchFan", EffectTest::busy, x -> x.switchFan(1, 1), NOTHING, "fan 1.*");
        only("switchDamper with the key", EffectTest::busyWithKey, x -> x.switchDamper(0, 2),
            "damper\\(0, [12]\\).*", "damper 0.*");
        only("switchFan with the key", EffectTest::busyWithKey, x -> x.switchFan(1, 1),
            "fan\\(1, [12]\\).*", "fan 1.*");
    }

    /** Promises 15 and 16: only the operator's command for this damper or fan. */
    private static void operator() {
        only("operateDamper", EffectTest::busy, x -> x.operateDamper(1, 2),
            "damper\\(1, [12]\\).*|commandsBy\\([01]\\).*", "damper 1.*");
        only("operateFan", EffectTest::busy, x -> x.operateFan(1, 2), "fan\\(1, [126]\\).*", "fan 1.*");
        only("operateFan, but the rules command", EffectTest::busy, x -> x.operateFan(0, 2), NOTHING, "fan 0.*");
    }

    /** Promise 18: trouble, timers and alarms. Throttle, pressure, log, what is jammed or open and the rest stay. */
    private static void resets() {
        String supervised = "(damper|fan)\\(\\d, [34]\\).*|stair\\(5\\).*";
        only("reset", EffectTest::busy, x -> x.reset(), supervised, NOTHING);
        only("reset twice", EffectTest::busy, x -> x.reset() + x.reset(), supervised, NOTHING);
        only("reset with the key", EffectTest::busyWithKey, x -> x.reset(), supervised, NOTHING);
        only("reset without anything to reset", EffectTest::pressed, x -> x.reset(), NOTHING, NOTHING);
        Check.due("the throttle before reset", pressed().stair(1), 85);
    }

    /** Nothing has trouble, no timer runs and no alarm is on, but the throttle is not as at first. */
    private static SmokeControl pressed() {
        SmokeControl x = Check.plant("fan stair 600 3;door 0 10 60;door 0 10 190;damper supply 0 2 open;");
        x.operateFan(0, 1);
        x.tick(3);
        return x;
    }

    /** Promises 41 and 42: the buffer and the latest error are no part of the state. */
    private static void slots() {
        only("keep(2)", EffectTest::busy, x -> x.keep(2), NOTHING, "slot 2.*");
        only("keep(2) and restore(2)", EffectTest::busy, x -> x.keep(2) + x.tick(9) + x.restore(2), NOTHING,
            "slot 2.*");
        only("keep and restore behind an error", EffectTest::behindError, x -> x.keep(2) + x.restore(2), NOTHING,
            "slot 2.*");
        SmokeControl x = behindError();
        x.restore(0);
        Check.due("errorCode after restore", x.errorCode(), 2);
        Check.due("errorPosition after restore", x.errorPosition(), 6);
        Check.load(x, "door");
        x.restore(1);
        Check.due("errorCode after restore", x.errorCode(), 1);
        Check.due("errorPosition after restore", x.errorPosition(), 4);
    }

    private static SmokeControl behindError() {
        SmokeControl x = busy();
        x.load(18);
        Check.load(x, "zones 9;");
        return x;
    }

    /** Promises 2 to 5: feed shows in the buffer alone, and what other calls do leaves the latest error. */
    private static void input() {
        SmokeControl x = busy();
        SmokeControl y = busy();
        x.feed(-1, 0, 1, 2, 3);
        Seen.due("after feed", Seen.now(x), Seen.now(y));
        Seen.due("set after feed", Seen.set(x), Seen.set(y));
        Seen.due("slots after feed", Seen.slots(x), Seen.slots(y));
        SmokeControl z = behindError();
        Seen.now(z);
        z.turnKey(true);
        z.reset();
        z.tick(1);
        z.bestSwitch(1);
        z.feed(1, 2, 3, 4, 5);
        z.load(21);
        Check.due("errorCode behind other calls", z.errorCode(), 2);
        Check.due("errorPosition behind other calls", z.errorPosition(), 6);
        Seen.set(z);
        Check.due("errorCode behind all changes", z.errorCode(), 2);
        Check.due("errorPosition behind all changes", z.errorPosition(), 6);
    }

    /** Promise 3: a sound text leaves nothing of what was there; the same text makes the same of a new object. */
    private static void load() {
        String text = "zones 3;damper exhaust 2 2;damper supply 1 3 open;fan exhaust 90 2 0;fan stair 20 3;"
            + "door 2 5 90;rule after 2 do open 0,start 0;rule ajar 0 or trouble do start 1;";
        SmokeControl x = behindError();
        SmokeControl y = new SmokeControl();
        Check.due("load of a sound text", Check.load(x, text), 8);
        Check.due("load of a sound text", Check.load(y, text), 8);
        for (int n = 0; n < 4; n++) {
            Seen.due("after load and " + n + " times 4 ticks", Seen.now(x), Seen.now(y));
            x.setSource(n % 3, 50);
            y.setSource(n % 3, 50);
            x.tick(4);
            y.tick(4);
        }
        Check.due("errorCode", x.errorCode(), 0);
        Check.due("errorPosition", x.errorPosition(), -1);
        Seen.due("set", Seen.set(x), Seen.set(y));
        Seen.due("slots", Seen.slots(x), Seen.slots(y));
        Check.due("the length of the buffer", x.feed(1, 2, 3, 4, 5), 20);
    }
}
