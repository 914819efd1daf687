/** Promises 1 to 6: a new object, feed, load, errorCode, errorPosition, count. */
final class InputTest {
    private static final String OPEN_DAMPERS = "damper supply 0 3;damper exhaust 0 4 open;";

    public static void main(String[] args) {
        newObject();
        feeding();
        lengths();
        grammar();
        counts();
        replacement();
        syntax();
        neighbours();
        ranges();
        lists();
        limits();
        depth();
        leastPosition();
        lateErrors();
        longRules();
        Check.end();
    }

    private static void due(String call, int got, int want) {
        Check.due(call, got, want);
    }

    private static void newObject() {
        SmokeControl x = new SmokeControl();
        int[] counts = {1, 0, 0, 0, 0, 50, 10, 0};
        for (int what = 0; what < counts.length; what++) {
            due("new: count(" + what + ")", x.count(what), counts[what]);
        }
        due("new: time", x.time(), 0);
        due("new: smoke", x.smoke(0), 0);
        due("new: smoke(1)", x.smoke(1), -1);
        due("new: alarm", x.alarm(0), 0);
        due("new: firstAlarm", x.firstAlarm(), -4);
        due("new: source", x.setSource(0, 0), 0);
        due("new: detector", x.setDetector(0, false), 0);
        due("new: key", x.turnKey(false), 0);
        int[] stair = {0, 100, 0, 0, 0, 0};
        for (int what = 0; what < stair.length; what++) {
            due("new: stair(" + what + ")", x.stair(what), stair[what]);
        }
        due("new: events", x.events(), 0);
        due("new: errorCode", x.errorCode(), 0);
        due("new: errorPosition", x.errorPosition(), -1);
        due("new: damper", x.damper(0, 0), -1);
        due("new: fan", x.fan(0, 0), -1);
        due("new: setDoor", x.setDoor(0, true), -1);
        due("new: ruleHolds", x.ruleHolds(0), -1);
        for (int slot = 0; slot < 3; slot++) {
            due("new: restore", x.restore(slot), -4);
        }
        due("new: tick", x.tick(1), 1);
        due("NONE", SmokeControl.NONE, -1);
    }

    private static void feeding() {
        SmokeControl x = new SmokeControl();
        for (int n = 1; n <= 45; n++) {
            due("feed " + n, x.feed(0x20202020, 0x20202020, 0x20202020, 0x20202020, 0x20202020), 20 * n);
        }
        due("feed beyond 900", x.feed(0, 0, 0, 0, 0), -4);
        due("load of 900 spaces", x.load(900), 0);
        due("feed after load", x.feed(0x646f6f72, 0x20302031, 0x30203531, 0x3b20200a, 0xffffffff), 20);
        due("load(16) of most significant bytes first", x.load(16), 1);
        due("its door", x.stair(3), 10);
        x.feed(0x646f6f72, 0x20302031, 0x30203531, 0x3b20200a, 0xffffffff);
        due("load with a byte 255", x.load(17), -4);
        due("its code", x.errorCode(), 1);
        due("its position", x.errorPosition(), 16);
    }

    private static void lengths() {
        SmokeControl x = new SmokeControl();
        due("load(1) of nothing", x.load(1), -2);
        due("load(0) of nothing", x.load(0), 0);
        Check.feed(x, "zones 2;zones 3;");
        due("load(-1)", x.load(-1), -2);
        due("load(21)", x.load(21), -2);
        due("load(MIN)", x.load(Integer.MIN_VALUE), -2);
        due("load(MAX)", x.load(Integer.MAX_VALUE), -2);
        due("after -2: code", x.errorCode(), 0);
        due("the buffer stays after -2", x.feed(0, 0, 0, 0, 0), 40);
        due("only the first bytes count", x.load(8), 1);
        due("zones", x.count(0), 2);
        due("the buffer is emptied", x.load(1), -2);
        due("bad text", Check.load(x, "zones 9;"), -4);
        due("the buffer is emptied by an error", x.load(1), -2);
        due("-2 leaves the error: code", x.errorCode(), 2);
        due("-2 leaves the error: position", x.errorPosition(), 6);
        due("load(0)", x.load(0), 0);
        due("no error: code", x.errorCode(), 0);
        due("no error: position", x.errorPosition(), -1);
        due("the empty plant", x.count(0), 1);
    }

    /** Texts without an error, and how many items they have. */
    private static void grammar() {
        sound("", 0);
        sound(" \n ", 0);
        sound("zones 8;", 1);
        sound("\n zones\n1 ;\n", 1);
        sound("zones 008;", 1);
        sound("damper supply 0 1;", 1);
        sound("damper exhaust 0 30 open ;", 1);
        sound("fan stair 999 30;fan supply 1 1;fan exhaust 5 5;", 3);
        sound(OPEN_DAMPERS + "fan supply 9 9 0;fan exhaust 9 9 1;fan supply 9 9 0;", 5);
        sound("door 0 1 51;door 0 50 500;", 2);
        sound("proof 0;target 1;", 2);
        sound("target 200;proof 999;", 2);
        sound("rule trouble do close 0;", 1);
        sound("rule(trouble)do close 0,purge 0,press 0,extract 0;", 1);
        sound("rule not(not(not(alarm 0)))do close 0;", 1);
        sound("rule after 0 and after 999 or first 0 and not trouble do close 0;", 1);
        sound(OPEN_DAMPERS + "fan stair 1 1;door 0 1 51;rule running 0 or ajar 0 do open 0,shut 1,start 0,stop 0;", 5);
        sound("zones 2;damper supply 1 1;", 2);
        sound("zones 2;target 3;damper supply 1 1;door 1 1 51;rule alarm 1 or first 1 do close 1;", 5);
    }

    private static void sound(String text, int items) {
        Check.sound(text, items);
    }

    private static void counts() {
        SmokeControl x = Check.plant("zones 5;damper supply 4 1;damper supply 0 1;fan stair 1 1;fan stair 1 1;"
            + "fan stair 1 1;door 0 1 51;door 0 1 51;door 0 1 51;door 3 1 51;target 77;proof 123;"
            + "rule trouble do close 0,purge 1;rule alarm 3 do extract 2,stop 1,stop 1;");
        int[] counts = {5, 2, 3, 4, 2, 77, 123, 5};
        for (int what = 0; what < counts.length; what++) {
            due("count(" + what + ")", x.count(what), counts[what]);
        }
        due("count(-1)", x.count(-1), -2);
        due("count(8)", x.count(8), -2);
        due("count(MIN)", x.count(Integer.MIN_VALUE), -2);
        due("count(MAX)", x.count(Integer.MAX_VALUE), -2);
        due("load without target and proof", Check.load(x, "zones 2;"), 1);
        due("target as at first", x.count(5), 50);
        due("proof as at first", x.count(6), 10);
        due("no rules", x.count(4), 0);
        due("no actions", x.count(7), 0);
    }

    /** A sound text replaces all, a text with an error nothing. */
    private static void replacement() {
        String text = "zones 2;proof 0;damper supply 1 2;damper exhaust 0 4 open;fan stair 300 1;fan supply 9 9 0;"
            + "door 0 3 60;rule alarm 0 do close 1;";
        SmokeControl x = Check.plant(text);
        disturb(x);
        int time = x.time();
        due("text with an error", Check.load(x, "zones 3;damper supply 2 2;door"), -4);
        due("then: zones", x.count(0), 2);
        due("then: dampers", x.count(1), 2);
        due("then: damper zone", x.damper(0, 5), 1);
        due("then: time", x.time(), time);
        due("then: slot", x.restore(1), time);
        due("then: key", x.turnKey(true), 0);
        due("a sound text", Check.load(x, text), 8);
        asAtFirst(x);
    }

    private static void disturb(SmokeControl x) {
        x.setSource(0, 50);
        x.setSource(1, 7);
        x.setDetector(1, true);
        x.setDoor(0, true);
        x.jam(0, true);
        x.jam(1, true);
        x.breakFan(0, true);
        x.operateDamper(0, 1);
        x.operateFan(0, 1);
        x.turnKey(true);
        x.switchDamper(1, 2);
        x.switchFan(1, 1);
        x.tick(60);
        x.breakFan(0, false);
        x.tick(5);
        x.setDoor(0, false);
        x.tick(1);
        x.setDoor(0, true);
        x.keep(0);
        x.keep(1);
        x.keep(2);
        due("disturbed: damper trouble", x.damper(0, 3), 1);
        due("disturbed: pressure trouble", x.stair(5), 1);
        due("disturbed: alarm", x.alarm(0), 1);
        due("disturbed: pressure", x.stair(0), 999);
        due("disturbed: throttle", x.stair(1), 95);
        due("disturbed: command", x.damper(1, 1), 0);
        due("disturbed: timer", x.damper(1, 4), 65);
    }

    private static void asAtFirst(SmokeControl x) {
        due("first: time", x.time(), 0);
        due("first: events", x.events(), 0);
        due("first: alarm", x.alarm(0), 0);
        due("first: firstAlarm", x.firstAlarm(), -4);
        due("first: key", x.turnKey(false), 0);
        due("first: detector", x.setDetector(1, false), 0);
        due("first: jam", x.jam(0, false), 0);
        due("first: jam", x.jam(1, false), 0);
        due("first: breakFan", x.breakFan(0, false), 0);
        due("first: door", x.setDoor(0, false), 0);
        due("first: pressure", x.stair(0), 0);
        due("first: throttle", x.stair(1), 100);
        due("first: stair smoke", x.stair(2), 0);
        due("first: stair air", x.stair(4), 0);
        due("first: pressure trouble", x.stair(5), 0);
        for (int z = 0; z < 2; z++) {
            due("first: smoke", x.smoke(z), 0);
            due("first: source", x.setSource(z, 0), 0);
        }
        for (int u = 0; u < 2; u++) {
            due("first: damper position", x.damper(u, 0), u == 0 ? 0 : 4);
            due("first: damper trouble", x.damper(u, 3), 0);
            due("first: damper timer", x.damper(u, 4), 0);
            due("first: fan level", x.fan(u, 0), 0);
            due("first: fan trouble", x.fan(u, 3), 0);
            due("first: fan timer", x.fan(u, 4), 0);
            due("first: damper switch", x.switchDamper(u, 0), 0);
            due("first: fan switch", x.switchFan(u, 0), 0);
            due("first: damper operator", x.operateDamper(u, 0), 0);
            due("first: fan operator", x.operateFan(u, 0), 0);
        }
        for (int slot = 0; slot < 3; slot++) {
            due("first: slot", x.restore(slot), -4);
        }
        // The first tick counts as a change of the command, so a jammed damper is late from the second on.
        x.jam(1, true);
        x.operateDamper(1, 2);
        x.tick(1);
        due("first: the first tick is a change", x.damper(1, 4), 0);
        x.tick(1);
        due("first: the second is none", x.damper(1, 4), 1);
    }

    private static void bad(String text, int code, int position) {
        Check.bad(text, code, position);
    }

    private static void syntax() {
        bad(";", 1, 0);
        bad("zone 1;", 1, 0);
        bad("zoness 1;", 1, 0);
        bad("3;", 1, 0);
        bad("zones", 1, 5);
        bad("zones ", 1, 6);
        bad("zones 2", 1, 7);
        bad("zones 2 \n", 1, 9);
        bad("zones ;", 1, 6);
        bad("zones 2,", 1, 7);
        bad("zones 2 3;", 1, 8);
        bad("zones 2;;", 1, 8);
        bad("target 5;zones 2;", 1, 9);
        bad("zones 2;zones 2;", 1, 8);
        bad("target 5;proof 5;target 5;", 1, 17);
        bad("proof 5; proof 5;", 1, 9);
        bad("damper stair 0 1;", 1, 7);
        bad("damper supply 0 1 shut;", 1, 18);
        bad("damper supply 0 1 open open;", 1, 23);
        bad("damper supply open 1;", 1, 14);
        bad("fan 1 1;", 1, 4);
        bad("fan supply 1;", 1, 12);
        bad("fan stair 1 1 open;", 1, 14);
        bad("door 0 1;", 1, 8);
        bad("door 0 1 51 2;", 1, 12);
        bad("rule do close 0;", 1, 5);
        bad("rule trouble close 0;", 1, 13);
        bad("rule trouble 1 do close 0;", 1, 13);
        bad("rule trouble do;", 1, 15);
        bad("rule trouble do close;", 1, 21);
        bad("rule trouble do close 0 purge 0;", 1, 24);
        bad("rule trouble do close 0,;", 1, 24);
        bad("rule trouble do alarm 0;", 1, 16);
        bad("rule (trouble do close 0;", 1, 14);
        bad("rule trouble) do close 0;", 1, 12);
        bad("rule () do close 0;", 1, 6);
        bad("rule not do close 0;", 1, 9);
        bad("rule trouble and or trouble do close 0;", 1, 17);
        bad("rule trouble or do close 0;", 1, 16);
        bad("rule trouble not trouble do close 0;", 1, 13);
    }

    private static void neighbours() {
        bad("zones2;", 1, 5);
        bad("zones 2zones;", 1, 7);
        bad("target 50x;", 1, 9);
        bad("zones 9x;", 2, 6);
        bad("zones 0002;", 1, 6);
        bad("zones 1000;", 1, 6);
        bad("damper supply0 1;", 1, 13);
        bad("rule trouble do close0;", 1, 21);
        bad("rule alarm0 do close 0;", 1, 10);
        bad("zones\t2;", 1, 5);
        bad("zones 2;\r", 1, 8);
        bad("Zones 2;", 1, 0);
        bad("zones 2;#", 1, 8);
        bad("zones -2;", 1, 6);
        bad("zones 2\u00e9;", 1, 7);
        bad("zones 2;{", 1, 8);
        bad("zones 2;`", 1, 8);
        bad("zones /;", 1, 6);
        bad("zones :;", 1, 6);
        bad("zones 2;\u0000", 1, 8);
    }

    private static void ranges() {
        bad("zones 0;", 2, 6);
        bad("zones 9;", 2, 6);
        bad("damper supply 1 1;", 2, 14);
        bad("zones 3;damper supply 3 1;", 2, 22);
        bad("damper supply 0 0;", 2, 16);
        bad("damper supply 0 31;", 2, 16);
        bad("fan stair 0 1;", 2, 10);
        sound("fan stair 999 1;", 1);
        bad("fan stair 1 0;", 2, 12);
        bad("fan stair 1 31;", 2, 12);
        bad("door 1 1 51;", 2, 5);
        bad("door 0 0 51;", 2, 7);
        bad("door 0 51 51;", 2, 7);
        bad("door 0 1 50;", 2, 9);
        bad("door 0 1 501;", 2, 9);
        bad("target 0;", 2, 7);
        bad("target 201;", 2, 7);
        bad("proof 1000;", 1, 6);
        bad("rule alarm 1 do close 0;", 2, 11);
        bad("rule first 1 do close 0;", 2, 11);
        bad("rule ajar 0 do close 0;", 2, 10);
        bad("door 0 1 51;rule ajar 1 do close 0;", 2, 22);
        bad("rule running 0 do close 0;", 2, 13);
        bad("fan stair 1 1;rule running 1 do close 0;", 2, 27);
        bad("rule running 0 do close 0;fan stair 1 1;", 2, 13);
        bad("rule trouble do open 0;", 2, 21);
        bad("rule trouble do shut 0;", 2, 21);
        bad("rule trouble do start 0;", 2, 22);
        bad("rule trouble do stop 0;", 2, 21);
        bad("rule trouble do extract 1;", 2, 24);
        bad("rule trouble do press 1;", 2, 22);
        bad("rule trouble do close 1;", 2, 22);
        bad("rule trouble do purge 1;", 2, 22);
        bad(OPEN_DAMPERS + "rule trouble do open 2;", 2, OPEN_DAMPERS.length() + 21);
    }

    private static void lists() {
        int n = OPEN_DAMPERS.length();
        bad(OPEN_DAMPERS + "fan supply 9 9 1;", 2, n + 15);
        bad(OPEN_DAMPERS + "fan exhaust 9 9 0;", 2, n + 16);
        bad(OPEN_DAMPERS + "fan supply 9 9 0 0;", 2, n + 17);
        bad(OPEN_DAMPERS + "fan supply 9 9 0 2;", 2, n + 17);
        bad(OPEN_DAMPERS + "fan stair 9 9 0;", 2, n + 14);
        bad(OPEN_DAMPERS + "fan stair 9 9 5;", 2, n + 14);
        // The kinds of the plant before must not count.
        SmokeControl x = Check.plant(OPEN_DAMPERS);
        due("a list of the plant before", Check.load(x, "fan supply 9 9 0;"), -4);
        due("its code", x.errorCode(), 2);
        due("its position", x.errorPosition(), 15);
    }

    private static void limits() {
        String damper = "damper supply 0 1;";
        sound(damper.repeat(16), 16);
        bad(damper.repeat(17), 3, 16 * damper.length());
        bad(damper.repeat(16) + "damper 7;", 3, 16 * damper.length());
        String fan = "fan stair 1 1;";
        sound(fan.repeat(6), 6);
        bad(fan.repeat(7), 3, 6 * fan.length());
        String door = "door 0 1 51;";
        sound(door.repeat(10), 10);
        bad(door.repeat(10) + "\n" + door, 3, 10 * door.length() + 1);
        String rule = "rule trouble do close 0;";
        sound(rule.repeat(12), 12);
        bad(rule.repeat(13), 3, 12 * rule.length());
        String actions = "rule trouble do close 0" + ",purge 0".repeat(7);
        sound(actions + ";", 1);
        bad(actions + ",purge 0;", 3, actions.length() + 1);
        bad(actions + ",purge 9;", 3, actions.length() + 1);
        bad(actions + ",zones 0;", 1, actions.length() + 1);
        bad(actions + ",0;", 1, actions.length() + 1);
        bad(actions + ",;", 1, actions.length() + 1);
    }

    private static void depth() {
        sound("rule " + "(".repeat(6) + "trouble" + ")".repeat(6) + "do close 0;", 1);
        bad("rule " + "(".repeat(7) + "trouble" + ")".repeat(7) + "do close 0;", 3, 11);
        sound("rule " + "not ".repeat(6) + "trouble do close 0;", 1);
        bad("rule " + "not ".repeat(7) + "trouble do close 0;", 3, 29);
        sound("rule " + "not(".repeat(3) + "trouble" + ")".repeat(3) + "do close 0;", 1);
        bad("rule " + "not(".repeat(3) + "not trouble" + ")".repeat(3) + "do close 0;", 3, 17);
        bad("rule " + "not(".repeat(3) + "(trouble)" + ")".repeat(3) + "do close 0;", 3, 17);
        // What is shut again does not count.
        sound("rule " + "not ".repeat(6) + "trouble and " + "not ".repeat(6) + "trouble do close 0;", 1);
        sound("rule " + "(trouble)and ".repeat(10) + "(((((not trouble)))))do close 0;", 1);
        sound("rule (((((trouble) and (trouble or not trouble))))) do close 0;", 1);
    }

    private static void leastPosition() {
        bad("zones 9;zones 2;", 2, 6);
        bad("zones 2;zones 9;", 1, 8);
        bad("target 201;#", 2, 7);
        bad("target # 201;", 1, 7);
        bad("damper supply 3 99 shut", 2, 14);
        bad("rule alarm 9 or", 2, 11);
    }

    /** An error at the very end of a full buffer. */
    private static void lateErrors() {
        String text = "target 5;" + " ".repeat(885) + "proof ";
        bad(text, 1, 900);
        String long1 = "zones 2;" + "x".repeat(892);
        bad(long1, 1, 8);
        bad("zones " + "1".repeat(894), 1, 6);
        bad(";".repeat(900), 1, 0);
        bad("rule " + "(".repeat(895), 3, 11);
    }

    /** Rules that fill the text, in one plant after another of the same object. */
    private static void longRules() {
        SmokeControl x = new SmokeControl();
        String nots = "not not not not not not ";
        String start = "door 0 1 51;door 0 1 51;rule ";
        for (int n = 0; n < 12; n++) {
            int door = n % 2;
            String text = start + (nots + "ajar " + door + " or ").repeat(24) + "not ajar " + door + " do close 0;";
            due("length of a long rule", text.length() <= 900 ? 1 : 0, 1);
            due("load of a long rule", Check.load(x, text), 3);
            due("a long rule", x.ruleHolds(0), 1);
            text = start + (nots + "ajar " + door + " or ").repeat(24) + "ajar " + door + " do close 0;";
            Check.load(x, text);
            due("a long rule that does not hold", x.ruleHolds(0), 0);
            x.setDoor(1 - door, true);
            due("nor with the other door", x.ruleHolds(0), 0);
            x.setDoor(door, true);
            due("but with this one", x.ruleHolds(0), 1);
        }
    }
}
