import java.util.ArrayList;
import java.util.List;

/** All that the calls tell of an object, for tests that compare two of them. */
final class Seen {
    private Seen() {
    }

    /** What is to be seen without a change, an answer a line; of the log the latest ten events. */
    static List<String> now(SmokeControl x) {
        List<String> found = new ArrayList<>();
        for (int what = 0; what < 8; what++) {
            found.add("count(" + what + ") " + x.count(what));
        }
        found.add("time " + x.time());
        for (int what = 0; what < 6; what++) {
            found.add("stair(" + what + ") " + x.stair(what));
        }
        found.add("firstAlarm " + x.firstAlarm());
        for (int z = 0; z < x.count(0); z++) {
            found.add("zone " + z + ": " + x.smoke(z) + " " + x.alarm(z) + " " + x.supply(z) + " " + x.exhaust(z));
        }
        for (int d = 0; d < x.count(1); d++) {
            for (int what = 0; what < 7; what++) {
                found.add("damper(" + d + ", " + what + ") " + x.damper(d, what));
            }
        }
        for (int f = 0; f < x.count(2); f++) {
            for (int what = 0; what < 7; what++) {
                found.add("fan(" + f + ", " + what + ") " + x.fan(f, what));
            }
        }
        for (int r = 0; r < x.count(4); r++) {
            found.add("ruleHolds(" + r + ") " + x.ruleHolds(r));
        }
        for (int source = 0; source < 4; source++) {
            found.add("commandsBy(" + source + ") " + x.commandsBy(source));
        }
        found.add("events " + x.events());
        for (int e = 0; e < Math.min(10, x.events()); e++) {
            found.add("event " + e + ": " + x.event(e, 0) + " " + x.event(e, 1) + " " + x.event(e, 2));
        }
        return found;
    }

    /** What only shows when it is changed: all that is set from outside. */
    static List<String> set(SmokeControl x) {
        List<String> found = new ArrayList<>();
        for (int z = 0; z < x.count(0); z++) {
            found.add("source and detector " + z + ": " + x.setSource(z, 0) + " " + x.setDetector(z, false));
        }
        for (int d = 0; d < x.count(1); d++) {
            found.add("damper " + d + ": " + x.jam(d, false) + " " + x.switchDamper(d, 0) + " " + x.operateDamper(d,
                0));
        }
        for (int f = 0; f < x.count(2); f++) {
            found.add("fan " + f + ": " + x.breakFan(f, false) + " " + x.switchFan(f, 0) + " " + x.operateFan(f, 0));
        }
        for (int o = 0; o < x.count(3); o++) {
            found.add("door " + o + ": " + x.setDoor(o, false));
        }
        found.add("key " + x.turnKey(false));
        return found;
    }

    /** The slots, with a little of what is in them. */
    static List<String> slots(SmokeControl x) {
        List<String> found = new ArrayList<>();
        for (int slot = 0; slot < 3; slot++) {
            found.add("slot " + slot + ": " + x.restore(slot) + " " + x.time() + " " + x.smoke(0) + " " + x.events()
                + " " + x.stair(1));
        }
        return found;
    }

    /** Compares two such lists. */
    static void due(String when, List<String> got, List<String> want) {
        Check.due(when + ": lines", got.size(), want.size());
        for (int n = 0; n < Math.min(got.size(), want.size()); n++) {
            Check.due(when + ": \"" + got.get(n) + "\" for \"" + want.get(n) + "\"",
                got.get(n).equals(want.get(n)) ? 1 : 0, 1);
        }
    }
}
