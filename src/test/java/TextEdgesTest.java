import java.util.Arrays;

/**
 * The boundary cases of the input: promises 2 to 6 and section 3 (a text and its errors). Each method stands for one
 * sentence of the document, which is told above it.
 */
final class TextEdgesTest {
    private static final String SUPPLY = "damper supply 0 1;";
    private static final String EXHAUST = "damper exhaust 0 1;";
    private static final String FAN = "fan stair 1 1;";
    private static final String DOOR = "door 0 1 51;";
    private static final String RULE = "rule trouble do close 0;";
    private static final int SPACES = 0x20202020;

    public static void main(String[] args) {
        fullBuffer();
        orderOfBytes();
        lengthsOfLoad();
        refusedLength();
        emptiedBuffer();
        latestError();
        countedThings();
        ranges();
        rangesReachThePlant();
        zonesThatExist();
        dampersThatExist();
        doorsThatExist();
        fansThatExist();
        oneZoneBeforeZones();
        nothingOfEarlierPlants();
        zonesAtTheBeginning();
        targetAndProofOnce();
        dampersAtMost();
        fansAtMost();
        doorsAtMost();
        rulesAtMost();
        actionsAtMost();
        allActions();
        limitComesBeforeTheRest();
        openMarks();
        openMarksEnd();
        openMarksElsewhere();
        listOfKind();
        listWithoutRepeats();
        listOfStairFan();
        longestTokens();
        otherWords();
        longestNumbers();
        blanks();
        otherBytes();
        neighbours();
        endOfText();
        endOfFullBuffer();
        leastPosition();
        leastCode();
        numberOfItems();
        Check.end();
    }

    private static void due(String call, int got, int want) {
        Check.due(call, got, want);
    }

    // ---- promises 2 to 6

    /** "-4 if that would exceed 900", and a refused call changes nothing. */
    private static void fullBuffer() {
        SmokeControl x = new SmokeControl();
        String text = "target 7" + " ".repeat(891) + ";";
        Check.feed(x, text.substring(0, 880));
        due("feed from 880", x.feed(SPACES, SPACES, SPACES, SPACES, SPACES - 0x20 + ';'), 900);
        due("feed from 900", x.feed(-1, -1, -1, -1, -1), -4);
        due("feed from 900 once more", x.feed(0, 0, 0, 0, 0), -4);
        due("the refused bytes are not there", x.load(901), -2);
        due("and spoil nothing", x.load(900), 1);
        due("its target", x.count(5), 7);
        due("feed from 0", x.feed(0, 0, 0, 0, 0), 20);
    }

    /** "the four bytes of each parameter in order, the most significant byte first" */
    private static void orderOfBytes() {
        for (int place = 0; place < 20; place++) {
            SmokeControl x = new SmokeControl();
            int[] w = {SPACES, SPACES, SPACES, SPACES, SPACES};
            w[place / 4] |= 255 << 24 - place % 4 * 8;
            due("feed", x.feed(w[0], w[1], w[2], w[3], w[4]), 20);
            due("load", x.load(20), -4);
            due("position of byte 255", x.errorPosition(), place);
        }
    }

    /** "length: number of bytes, 0 to the length of the buffer", "-2 if length is out of range" */
    private static void lengthsOfLoad() {
        SmokeControl x = new SmokeControl();
        due("empty: load(1)", x.load(1), -2);
        due("empty: load(-1)", x.load(-1), -2);
        due("empty: load(0)", x.load(0), 0);
        x.feed(SPACES, SPACES, SPACES, SPACES, SPACES);
        due("20 bytes: load(21)", x.load(21), -2);
        due("20 bytes: load(-1)", x.load(-1), -2);
        due("20 bytes: load(MIN)", x.load(Integer.MIN_VALUE), -2);
        due("20 bytes: load(MAX)", x.load(Integer.MAX_VALUE), -2);
        due("20 bytes: load(20)", x.load(20), 0);
        x.feed(-1, SPACES, SPACES, SPACES, SPACES);
        due("load(0) reads none of the bytes", x.load(0), 0);
        // Of two reasons -2 comes first: the text would have an error too.
        x.feed(-1, -1, -1, -1, -1);
        due("-2 before -4", x.load(21), -2);
        due("-4", x.load(20), -4);
    }

    /** "the error found by the latest load() that did not return -2"; "The buffer is emptied unless -2 is returned." */
    private static void refusedLength() {
        SmokeControl x = Check.plant("zones 3;");
        x.keep(1);
        Check.load(x, "zones 9;");
        Check.feed(x, "zones 2;");
        due("load(21)", x.load(21), -2);
        due("load(-1)", x.load(-1), -2);
        due("the code stays", x.errorCode(), 2);
        due("the position stays", x.errorPosition(), 6);
        due("the plant stays", x.count(0), 3);
        due("the slot stays", x.restore(1), 0);
        due("the buffer stays", x.load(8), 1);
        due("zones", x.count(0), 2);
    }

    /** "The buffer is emptied unless -2 is returned." */
    private static void emptiedBuffer() {
        SmokeControl x = new SmokeControl();
        Check.feed(x, "zones 2;" + " ".repeat(32));
        due("8 of 40 bytes", x.load(8), 1);
        due("nothing is left", x.load(1), -2);
        due("feed from 0", x.feed(0, 0, 0, 0, 0), 20);
        due("a text with an error", x.load(20), -4);
        due("nothing is left", x.load(1), -2);
        due("feed from 0", x.feed(0, 0, 0, 0, 0), 20);
        due("load(0)", x.load(0), 0);
        due("nothing is left", x.load(1), -2);
    }

    /** "0 if it found none or there was no such load()"; "-1 if there is none" */
    private static void latestError() {
        SmokeControl x = new SmokeControl();
        error(x, "no load", 0, -1);
        x.load(1);
        error(x, "no load but one with -2", 0, -1);
        Check.load(x, "zones 9;");
        error(x, "RANGE", 2, 6);
        Check.load(x, ";");
        error(x, "SYNTAX at 0", 1, 0);
        Check.load(x, FAN.repeat(7));
        error(x, "LIMIT", 3, 84);
        x.load(0);
        error(x, "no error", 0, -1);
    }

    private static void error(SmokeControl x, String when, int code, int position) {
        due(when + ": errorCode", x.errorCode(), code);
        due(when + ": errorPosition", x.errorPosition(), position);
    }

    /**
     * "-2 for another value of what"; at first there is one zone and nothing else, the target is 50, the proof time
     * 10
     */
    private static void countedThings() {
        SmokeControl x = new SmokeControl();
        int[] counts = {1, 0, 0, 0, 0, 50, 10, 0};
        for (int what = 0; what <= 7; what++) {
            due("count(" + what + ")", x.count(what), counts[what]);
        }
        due("count(-1)", x.count(-1), -2);
        due("count(8)", x.count(8), -2);
        due("count(MIN)", x.count(Integer.MIN_VALUE), -2);
        due("count(MAX)", x.count(Integer.MAX_VALUE), -2);
    }

    // ---- the ranges of the grammar

    /**
     * "COUNT is 1 to 8, TRAVEL and RAMP 1 to 30, FLOW 1 to 999, CLOSED 1 to 50, OPEN 51 to 500, PRESSURE 1 to 200,
     * TICKS 0 to 999."
     */
    private static void ranges() {
        range("zones ", 1, 8, ";");
        range("damper supply 0 ", 1, 30, ";");
        range("damper exhaust 0 ", 1, 30, " open;");
        range("fan supply 1 ", 1, 30, ";");
        range("fan exhaust 1 ", 1, 30, ";");
        range("fan stair 1 ", 1, 30, ";");
        range("fan supply ", 1, 999, " 1;");
        range("fan exhaust ", 1, 999, " 1;");
        range("fan stair ", 1, 999, " 1;");
        range("door 0 ", 1, 50, " 51;");
        range("door 0 1 ", 51, 500, ";");
        range("target ", 1, 200, ";");
        range("proof ", 0, 999, ";");
        range("rule after ", 0, 999, " do close 0;");
    }

    /** Both ends of a range and the numbers beside it; 1000 has more than 3 digits, which is SYNTAX. */
    private static void range(String before, int low, int high, String behind) {
        Check.sound(before + low + behind, 1);
        Check.sound(before + high + behind, 1);
        if (low > 0) {
            Check.badFrom(2, before, low - 1 + behind);
        }
        Check.badFrom(high < 999 ? 2 : 1, before, high + 1 + behind);
        if (high < 999) {
            Check.badFrom(2, before, "999" + behind);
        }
    }

    /** The ends of the ranges as the calls tell them. */
    private static void rangesReachThePlant() {
        SmokeControl x = Check.plant("zones 8;target 200;proof 999;damper supply 7 30;damper exhaust 0 1;"
            + "fan stair 999 1;fan stair 1 30;door 7 50 500;door 0 1 51;");
        due("zones", x.count(0), 8);
        due("target", x.count(5), 200);
        due("proof", x.count(6), 999);
        due("travel", x.damper(0, 6), 30);
        due("travel", x.damper(1, 6), 1);
        due("zone", x.damper(0, 5), 7);
        due("closed areas", x.stair(3), 51);
        due("flow", x.pressureWith(0), 384);
        x.setDoor(0, true);
        due("open area of door 0", x.stair(3), 501);
        x.setDoor(1, true);
        due("open areas", x.stair(3), 551);
        x.operateFan(0, 1);
        x.operateFan(1, 1);
        x.tick(1);
        due("ramp 1", x.fan(0, 5), 999);
        x.tick(28);
        due("ramp 30, level 29", x.fan(1, 5), 0);
        x.tick(1);
        due("ramp 30, level 30", x.fan(1, 5), 1);
        SmokeControl y = Check.plant("zones 1;target 1;proof 0;");
        due("zones", y.count(0), 1);
        due("target", y.count(5), 1);
        due("proof", y.count(6), 0);
    }

    /** "a number ... of a zone ... that does not exist there": the last zone exists, the next one does not. */
    private static void zonesThatExist() {
        String[] zones = {"", "zones 1;", "zones 2;", "zones 8;"};
        int[] there = {1, 1, 2, 8};
        String[][] places = {{"damper supply ", " 1;"}, {"damper exhaust ", " 1 open;"}, {"door ", " 1 51;"},
            {"rule alarm ", " do close 0;"}, {"rule first ", " do close 0;"}, {"rule not alarm ", " do close 0;"},
            {"rule trouble do extract ", ";"}, {"rule trouble do press ", ";"}, {"rule trouble do close ", ";"},
            {"rule trouble do purge ", ";"}, {"rule trouble do close 0,purge ", ";"}};
        for (int n = 0; n < zones.length; n++) {
            existing(zones[n], zones[n].isEmpty() ? 0 : 1, there[n], places);
        }
    }

    private static void existing(String declared, int items, int there, String[][] places) {
        for (String[] place : places) {
            if (there > 0) {
                Check.sound(declared + place[0] + (there - 1) + place[1], items + 1);
                Check.sound(declared + place[0] + "0" + place[1], items + 1);
            }
            Check.badFrom(2, declared + place[0], there + place[1]);
            Check.badFrom(2, declared + place[0], "999" + place[1]);
        }
    }

    /** Dampers that exist, "at that place of the text". */
    private static void dampersThatExist() {
        String[][] places = {{"fan supply 1 1 ", ";"}, {"rule trouble do open ", ";"}, {"rule trouble do shut ", ";"}};
        for (int there : new int[] {0, 1, 2, 16}) {
            existing(SUPPLY.repeat(there), there, there, places);
        }
        Check.badFrom(2, SUPPLY + "fan supply 1 1 0 ", "1;" + SUPPLY);
        Check.badFrom(2, SUPPLY + "rule trouble do open 0,shut ", "1;" + SUPPLY);
        Check.sound(SUPPLY + "fan supply 1 1 0;" + SUPPLY + "fan supply 1 1 0 1;", 4);
    }

    /** Doors that exist, "at that place of the text". */
    private static void doorsThatExist() {
        String[][] places = {{"rule ajar ", " do close 0;"}, {"rule not (trouble or ajar ", ") do close 0;"}};
        for (int there : new int[] {0, 1, 2, 10}) {
            existing(DOOR.repeat(there), there, there, places);
        }
        Check.badFrom(2, DOOR + "rule ajar 0 or ajar ", "1 do close 0;" + DOOR);
        Check.sound(DOOR + "rule ajar 0 do close 0;" + DOOR + "rule ajar 1 do close 0;", 4);
    }

    /** Fans that exist, "at that place of the text". */
    private static void fansThatExist() {
        String[][] places = {{"rule running ", " do close 0;"}, {"rule trouble do start ", ";"},
            {"rule trouble do stop ", ";"}};
        for (int there : new int[] {0, 1, 2, 6}) {
            existing(FAN.repeat(there), there, there, places);
        }
        Check.badFrom(2, FAN + "rule running 0 do start 0,stop ", "1;" + FAN);
        Check.sound(FAN + "rule running 0 do start 0;" + FAN + "rule running 1 do stop 1;", 4);
    }

    /** "before a zones item there is one zone" */
    private static void oneZoneBeforeZones() {
        Check.sound("damper supply 0 1;", 1);
        Check.badFrom(2, "damper supply ", "1 1;");
        // What an earlier text declared does not count any more.
        SmokeControl x = Check.plant("zones 8;" + SUPPLY + DOOR + FAN);
        due("a zone of the plant before", Check.load(x, "damper supply 1 1;"), -4);
        error(x, "zone", 2, 14);
        due("a damper of the plant before", Check.load(x, "rule trouble do open 0;"), -4);
        error(x, "damper", 2, 21);
        due("a fan of the plant before", Check.load(x, "rule trouble do stop 0;"), -4);
        error(x, "fan", 2, 21);
        due("a door of the plant before", Check.load(x, "rule ajar 0 do close 0;"), -4);
        error(x, "door", 2, 10);
        // Nor does what a text with an error declared.
        due("a text with an error", Check.load(x, "zones 8;" + SUPPLY + DOOR + FAN + RULE + ";"), -4);
        due("its zones", Check.load(x, "damper supply 1 1;"), -4);
        error(x, "zone", 2, 14);
        due("its damper", Check.load(x, "rule trouble do open 0;"), -4);
        error(x, "damper", 2, 21);
        due("its fan", Check.load(x, "rule trouble do stop 0;"), -4);
        error(x, "fan", 2, 21);
        due("its door", Check.load(x, "rule ajar 0 do close 0;"), -4);
        error(x, "door", 2, 10);
    }

    /** "the plant that they describe replaces the old one": nothing of larger plants before is left, however many. */
    private static void nothingOfEarlierPlants() {
        String small = "zones 2;proof 0;damper supply 1 2;damper exhaust 0 3 open;fan exhaust 300 2 1;"
            + "fan supply 90 3 0;door 0 9 70;rule ajar 0 do shut 0;";
        String large = "zones 8;target 9;proof 1;" + "damper exhaust 0 9 open;".repeat(16) + "fan exhaust 9 7 3 2 1 0;"
            + "fan stair 999 1;".repeat(5) + "door 7 50 500;".repeat(10)
            + "rule trouble do open 15,start 5,purge 7;".repeat(3);
        for (int before = 1; before <= 3; before++) {
            SmokeControl x = new SmokeControl();
            for (int n = 0; n < before; n++) {
                due("a large plant", Check.load(x, large), 38);
                x.setSource(7, 50);
                x.turnKey(true);
                x.operateFan(2, 1);
                x.operateFan(5, 1);
                x.setDoor(9, true);
                x.tick(20);
            }
            due("the small one", Check.load(x, small), 8);
            SmokeControl y = Check.plant(small);
            sameAgain(x, y);
            Seen.due("set", Seen.set(x), Seen.set(y));
        }
    }

    /** All that two objects with the small plant tell, before and behind some ticks and trials. */
    private static void sameAgain(SmokeControl x, SmokeControl y) {
        Seen.due("at first", Seen.now(x), Seen.now(y));
        for (SmokeControl z : new SmokeControl[] {x, y}) {
            z.setSource(0, 30);
            z.operateDamper(0, 1);
            z.operateFan(0, 1);
            z.operateFan(1, 1);
            z.tick(6);
        }
        Seen.due("then", Seen.now(x), Seen.now(y));
        x.tick(40);
        y.tick(40);
        due("no pressure trouble", x.stair(5), y.stair(5));
        due("events", x.events(), y.events());
        due("smokeAfter", x.smokeAfter(1, 30), y.smokeAfter(1, 30));
        due("bestSwitch", x.bestSwitch(5), y.bestSwitch(5));
        due("purgeTime", x.purgeTime(0), y.purgeTime(0));
        due("pressureWith", x.pressureWith(1), y.pressureWith(1));
        due("mostOpenDoors", x.mostOpenDoors(), y.mostOpenDoors());
        due("worstDoor", x.worstDoor(), y.worstDoor());
    }

    // ---- items that may stand but once, or at the beginning only

    /**
     * "The item zones may stand at the beginning only": SYNTAX, "a zones item that is not the first item ... (at its
     * first word)"
     */
    private static void zonesAtTheBeginning() {
        Check.sound("zones 2;target 5;", 2);
        Check.sound(" \n zones 2;", 1);
        Check.badFrom(1, "target 5;", "zones 2;");
        Check.badFrom(1, "zones 2; ", "zones 2;");
        Check.badFrom(1, "zones 2;", "zones 9;");
        Check.badFrom(1, "zones 2;", "zones");
        Check.badFrom(1, DOOR, "zones 2;");
        SmokeControl x = Check.plant("zones 2;");
        due("each text has its own beginning", Check.load(x, "zones 3;"), 1);
    }

    /** "target and proof at most once each": SYNTAX, "a second target or proof item (at its first word)" */
    private static void targetAndProofOnce() {
        Check.sound("target 5;proof 5;", 2);
        Check.sound("proof 5;target 5;", 2);
        Check.badFrom(1, "target 5;proof 5;", "target 5;");
        Check.badFrom(1, "proof 5;target 5;", "proof 5;");
        Check.badFrom(1, "target 5;", "target 0;");
        Check.badFrom(1, "proof 5;", "proof");
        SmokeControl x = Check.plant("target 5;proof 6;");
        due("once in each text", Check.load(x, "target 7;proof 8;"), 2);
        due("target", x.count(5), 7);
        due("proof", x.count(6), 8);
        due("a text with an error after both", Check.load(x, "target 9;proof 9;;"), -4);
        due("once more", Check.load(x, "proof 4;target 3;"), 2);
        due("target", x.count(5), 3);
        due("proof", x.count(6), 4);
    }

    // ---- limits

    /** "There are at most 16 dampers." LIMIT: "the first word of an item that would be the 17th damper" */
    private static void dampersAtMost() {
        limit(SUPPLY, 16);
        limit(EXHAUST, 16);
        limit("damper exhaust 0 30 open;", 16);
        Check.badFrom(3, SUPPLY.repeat(8) + EXHAUST.repeat(8) + " ", EXHAUST);
        Check.sound(SUPPLY.repeat(16) + FAN + DOOR + RULE + "target 5;proof 5;", 21);
    }

    /** "There are at most 6 fans." LIMIT: "the 7th fan" */
    private static void fansAtMost() {
        limit(FAN, 6);
        limit("fan supply 1 1;", 6);
        Check.badFrom(3, "fan supply 1 1;".repeat(2) + "fan exhaust 1 1;".repeat(2) + FAN.repeat(2), FAN);
        Check.sound(FAN.repeat(6) + SUPPLY + DOOR + RULE, 9);
    }

    /** "There are at most 10 doors." LIMIT: "the 11th door" */
    private static void doorsAtMost() {
        limit(DOOR, 10);
        Check.sound(DOOR.repeat(10) + SUPPLY + FAN + RULE, 13);
    }

    /** "There are at most 12 rules"; LIMIT: "the 13th rule" */
    private static void rulesAtMost() {
        limit(RULE, 12);
        Check.sound(RULE.repeat(12) + SUPPLY + FAN + DOOR, 15);
    }

    private static void limit(String item, int most) {
        Check.sound(item.repeat(most), most);
        Check.badFrom(3, item.repeat(most), item);
        Check.badFrom(3, item.repeat(most) + "\n ", item);
        // In a new text the counting begins again, after a good text and after one with an error.
        SmokeControl x = Check.plant(item.repeat(most));
        due("again: " + item, Check.load(x, item.repeat(most)), most);
        due("too many: " + item, Check.load(x, item.repeat(most + 1)), -4);
        due("and again: " + item, Check.load(x, item.repeat(most)), most);
    }

    /** "a rule has at most 8 actions"; LIMIT: "the first word of the 9th action of a rule" */
    private static void actionsAtMost() {
        String[] actions = {"close 0", "purge 0", "press 0", "extract 0", "open 0", "shut 0", "start 0", "stop 0"};
        for (String action : actions) {
            String eight = SUPPLY + FAN + "rule trouble do " + (action + ",").repeat(7) + action;
            Check.sound(eight + ";", 3);
            Check.badFrom(3, eight + ",", action + ";");
            Check.badFrom(3, eight + " , ", action + ";");
            Check.sound(eight + ";rule trouble do " + action + ";", 4);
        }
        String eight = "rule trouble do close 0" + ",purge 0".repeat(7);
        Check.badFrom(3, eight + ",", "purge 9;");
        Check.badFrom(3, eight + ",", "purge;");
        Check.badFrom(1, eight + ",", "zones 1;");
        Check.badFrom(1, eight + ",", "0;");
        Check.badFrom(1, eight + ",", ";");
        Check.badFrom(1, eight + ",", "");
        Check.badFrom(1, eight + " ", "purge 0;");
    }

    /** 12 rules with 8 actions each: all of them count, first to last. */
    private static void allActions() {
        SmokeControl x = Check.plant(SUPPLY
            + "rule trouble do shut 0,open 0,open 0,open 0,open 0,open 0,open 0,open 0;".repeat(11)
            + "rule alarm 0 do open 0,shut 0,shut 0,shut 0,shut 0,shut 0,shut 0,shut 0;");
        due("rules", x.count(4), 12);
        due("actions", x.count(7), 96);
        x.setSource(0, 50);
        x.tick(2);
        due("the last rule alone holds", x.ruleHolds(11) * 10 + x.ruleHolds(10), 10);
        due("its first action counts", x.damper(0, 1) * 10 + x.damper(0, 2), 12);
        for (int n = 0; n < 3; n++) {
            due("the next text has none of them", Check.load(x, RULE), 1);
            due("rules", x.count(4), 1);
            due("actions", x.count(7), 1);
        }
    }

    /** LIMIT stands at the first word, before all that is wrong in the item. */
    private static void limitComesBeforeTheRest() {
        Check.badFrom(3, SUPPLY.repeat(16), "damper");
        Check.badFrom(3, FAN.repeat(6), "fan fan");
        Check.badFrom(3, DOOR.repeat(10), "door 9 9 9;");
        Check.badFrom(3, RULE.repeat(12), "rule # do");
        Check.badFrom(1, SUPPLY.repeat(16), "dampers supply 0 1;");
        Check.badFrom(1, SUPPLY.repeat(16), "supply 0 1;");
        Check.badFrom(1, SUPPLY.repeat(16) + "target 5 ", SUPPLY);
    }

    // ---- "(" and "not" that are open

    /** LIMIT: "a seventh "(" or "not" that would be open at once, at that token" */
    private static void openMarks() {
        for (int set = 0; set < 64; set++) {
            StringBuilder before = new StringBuilder("rule ");
            StringBuilder behind = new StringBuilder();
            for (int bit = 0; bit < 6; bit++) {
                boolean not = (set >> bit & 1) != 0;
                before.append(not ? "not " : "(");
                behind.append(not ? "" : ")");
            }
            Check.sound(before + "trouble" + behind + " do close 0;", 1);
            Check.badFrom(3, before.toString(), "not trouble" + behind + " do close 0;");
            Check.badFrom(3, before.toString(), "(trouble)" + behind + " do close 0;");
        }
    }

    /** "A "(" is open until its ")", a "not" until the end of the test behind it." */
    private static void openMarksEnd() {
        // Six more may open where all six are shut.
        String six = "((((((trouble))))))";
        String nots = "not ".repeat(6) + "trouble";
        Check.sound("rule " + six + " or " + six + " and " + nots + " or " + nots + " do close 0;", 1);
        // Five are open yet where one is shut.
        String five = "rule ((((((trouble)";
        Check.sound(five + "or not trouble))))) do close 0;", 1);
        Check.sound(five + "and (trouble)))))) do close 0;", 1);
        Check.badFrom(3, five + "or not ", "not trouble))))) do close 0;");
        Check.badFrom(3, five + "and (", "(trouble))))))) do close 0;");
        // A "not" ends with its test, also where that is a "( )".
        Check.sound("rule (((((not trouble or not trouble and not trouble))))) do close 0;", 1);
        Check.sound("rule ((((not (trouble) and not (trouble) or not not trouble)))) do close 0;", 1);
        Check.badFrom(3, "rule ((((not (trouble) and not (", "(trouble)))))) do close 0;");
        Check.badFrom(3, "rule ((((not (trouble or ", "not trouble)))))do close 0;");
        Check.badFrom(3, "rule ((((not not trouble and not not ", "not trouble)))) do close 0;");
    }

    /** A mark that the grammar does not allow is SYNTAX, as many as may be open. */
    private static void openMarksElsewhere() {
        Check.badFrom(1, "rule ((((((trouble ", "(trouble))))))) do close 0;");
        Check.badFrom(1, "rule ((((((trouble ", "not trouble)))))) do close 0;");
        Check.badFrom(1, "rule ((((((", ") do close 0;");
        Check.badFrom(1, "rule ((((((trouble)))))) do ", "(close 0);");
        // Before the seventh mark an error with a lesser position counts.
        Check.badFrom(2, "rule alarm ", "9 or " + "(".repeat(7) + "trouble");
        Check.badFrom(3, "rule ((((((", "(alarm 9");
    }

    // ---- the list of a fan

    /** RANGE: "a damper in the list of a fan that is not of the fan's kind" */
    private static void listOfKind() {
        String both = SUPPLY + EXHAUST;
        Check.sound(both + "fan supply 1 1 0;fan exhaust 1 1 1;", 4);
        Check.badFrom(2, both + "fan supply 1 1 ", "1;");
        Check.badFrom(2, both + "fan exhaust 1 1 ", "0;");
        Check.badFrom(2, both + "fan supply 1 1 0 ", "1;");
        Check.badFrom(2, both + "fan exhaust 1 1 1 ", "0;");
        Check.badFrom(2, SUPPLY.repeat(15) + EXHAUST + "fan supply 1 1 14 ", "15;");
        Check.sound(SUPPLY.repeat(15) + EXHAUST + "fan exhaust 1 1 15;", 17);
    }

    /** RANGE: a damper that "is in this list already"; "A damper may be in the lists of several fans." */
    private static void listWithoutRepeats() {
        Check.badFrom(2, SUPPLY + "fan supply 1 1 0 ", "0;");
        Check.badFrom(2, SUPPLY.repeat(3) + "fan supply 1 1 2 0 1 ", "2;");
        Check.sound(SUPPLY + "fan supply 1 1 0;".repeat(6), 7);
        String all = "";
        for (int d = 15; d >= 0; d--) {
            all += " " + d;
        }
        Check.sound(SUPPLY.repeat(16) + "fan supply 1 1" + all + ";", 17);
        for (int d = 0; d < 16; d++) {
            Check.badFrom(2, SUPPLY.repeat(16) + "fan supply 1 1" + all + " ", d + ";");
        }
        Check.badFrom(2, SUPPLY.repeat(16) + "fan supply 1 1" + all + " ", "16;");
        Check.badFrom(1, SUPPLY.repeat(16) + "fan supply 1 1" + all + " ", "open;");
        Check.sound("fan supply 1 1;fan exhaust 1 1;", 2);
    }

    /** RANGE: "any damper in the list of a stair fan" */
    private static void listOfStairFan() {
        Check.sound(SUPPLY + EXHAUST + FAN, 3);
        Check.badFrom(2, SUPPLY + EXHAUST + "fan stair 1 1 ", "0;");
        Check.badFrom(2, SUPPLY + EXHAUST + "fan stair 1 1 ", "1;");
        Check.badFrom(2, SUPPLY + EXHAUST + "fan stair 1 1 ", "2;");
        Check.badFrom(2, "fan stair 1 1 ", "0;");
        Check.badFrom(1, "fan stair 1 1 ", "0000;");
        Check.badFrom(1, "fan stair 1 1 ", "open;");
    }

    // ---- tokens

    /** "A token is as long as possible." */
    private static void longestTokens() {
        Check.badFrom(1, "", "zoness 2;");
        Check.badFrom(1, "", "zone 2;");
        Check.badFrom(1, "damper ", "supplyexhaust 0 1;");
        Check.badFrom(1, "damper supply 0 1 ", "openopen;");
        Check.badFrom(1, "rule ", "nottrouble do close 0;");
        Check.badFrom(1, "rule trouble ", "doclose 0;");
        Check.badFrom(1, "rule trouble ", "ortrouble do close 0;");
        Check.badFrom(2, "target ", "201;");
        Check.badFrom(1, "fan stair 11", ";");
    }

    /** SYNTAX: "a token that the grammar does not allow there": each word with one letter changed, more, or less. */
    private static void otherWords() {
        String[] tokens = {"zones ", "2;", "damper ", "supply ", "0 1 ", "open", ";", "damper ", "exhaust ", "1 2;",
            "fan ",
            "supply ", "9 9 0;", "fan ", "exhaust ", "9 9 1;", "fan ", "stair ", "9 9;", "door ", "0 1 51;",
                "target ", "5;",
            "proof ", "5;", "rule ", "not ", "alarm ", "0 ", "or ", "first ", "1 ", "and ", "ajar ", "0 ", "or ",
                "after ",
            "9 ", "or ", "running ", "0 ", "or ", "trouble ", "do ", "open ", "0,", "shut ", "0,", "start ", "0,",
                "stop ",
            "0,", "extract ", "0,", "press ", "0,", "close ", "0,", "purge ", "0;"};
        Check.sound(String.join("", tokens), 10);
        for (int n = 0; n < tokens.length; n++) {
            String word = tokens[n].trim();
            if (Character.isLetter(word.charAt(0))) {
                String before = String.join("", Arrays.copyOf(tokens, n));
                String behind = String.join("", Arrays.copyOfRange(tokens, n + 1, tokens.length));
                String blank = tokens[n].substring(word.length());
                for (int i = 0; i < word.length(); i++) {
                    Check.badFrom(1, before, word.substring(0, i) + "q" + word.substring(i + 1) + blank + behind);
                    Check.badFrom(1, before, word.substring(0, i) + "q" + word.substring(i) + blank + behind);
                    Check.badFrom(1, before, word.substring(0, i) + word.substring(i + 1) + blank + behind);
                }
                Check.badFrom(1, before, word + "q" + blank + behind);
            }
        }
    }

    /** SYNTAX: "a number of more than 3 digits" (leading zeros are digits as others are) */
    private static void longestNumbers() {
        Check.sound("zones 8;", 1);
        Check.sound("zones 08;", 1);
        Check.sound("zones 008;", 1);
        Check.badFrom(1, "zones ", "0008;");
        Check.badFrom(1, "zones ", "1000;");
        Check.badFrom(1, "zones ", "4294967298;");
        Check.badFrom(1, "zones ", "2147483648;");
        Check.sound("proof 000;", 1);
        Check.badFrom(1, "proof ", "0000;");
        Check.badFrom(2, "target ", "000;");
        Check.badFrom(1, "rule alarm ", "0000 do close 0;");
        Check.badFrom(1, SUPPLY + "fan supply 1 1 ", "0000;");
        Check.badFrom(2, SUPPLY + "fan supply 1 1 00 ", "000;");
        Check.badFrom(1, "", "1234;");
    }

    /** "Spaces (byte 32) and line feeds (byte 10) may stand between any two tokens and at both ends." */
    private static void blanks() {
        String[] tokens = {"zones", "2", ";", "damper", "supply", "0", "1", "open", ";", "fan", "supply", "1", "1",
            "0", ";",
            "door", "0", "1", "51", ";", "target", "5", ";", "proof", "5", ";", "rule", "not", "(", "alarm", "0", "or",
            "after", "9", "and", "trouble", ")", "do", "close", "0", ",", "open", "0", ";"};
        for (String blank : new String[] {" ", "\n", " \n", "\n\n  "}) {
            Check.sound(blank + String.join(blank, tokens) + blank, 7);
        }
        Check.sound("zones 2;damper supply 0 1 open;fan supply 1 1 0;door 0 1 51;target 5;proof 5;"
            + "rule not(alarm 0 or after 9 and trouble)do close 0,open 0;", 7);
        Check.sound("", 0);
        Check.sound(" ", 0);
        Check.sound("\n", 0);
    }

    /** SYNTAX: "any other byte": each of the 256 bytes, alone and between two tokens. */
    private static void otherBytes() {
        for (int code = 0; code < 256; code++) {
            char c = (char) code;
            boolean blank = c == ' ' || c == '\n';
            if (blank) {
                Check.sound("" + c, 0);
                Check.sound("target 5;" + c + "proof 5;", 2);
            } else {
                Check.badFrom(1, "", "" + c);
                Check.badFrom(1, "target 5;", c + "proof 5;");
                Check.badFrom(1, "target 5; ", c + " proof 5;");
            }
            boolean digit = c >= '0' && c <= '9';
            if (digit) {
                Check.sound("target " + "1" + c + ";", 1);
            } else if (c == ';') {
                Check.sound("target 1;", 1);
            } else if (!blank) {
                Check.badFrom(1, "target 1", c + ";");
            }
        }
    }

    /** "Two neighbouring tokens that are both words or numbers need at least one of them between them." */
    private static void neighbours() {
        Check.badFrom(1, "zones", "2;");
        Check.badFrom(1, "zones", "9;");
        Check.badFrom(1, "zones", "0002;");
        Check.badFrom(1, "damper supply", "0 1;");
        Check.badFrom(1, "damper supply 0 1", "open;");
        Check.badFrom(1, SUPPLY + "rule alarm 0", "do close 0;");
        Check.badFrom(1, "rule after 9", "and trouble do close 0;");
        Check.badFrom(1, "rule trouble do close", "0;");
        Check.badFrom(1, "target 5", "proof 5;");
        // An error with a lesser position counts.
        Check.badFrom(2, "zones ", "9x;");
        Check.badFrom(1, "", "zonez9;");
        // Behind a sign none is needed, and a sign needs none.
        Check.sound("zones 2;target 5;rule(not(alarm 1))and(trouble)do close 0,close 1;", 3);
        // A run behind a neighbour is a neighbour too.
        Check.badFrom(1, "zones", "2x3;");
    }

    /** SYNTAX: "the end of the text where more is needed (position: the length)" */
    private static void endOfText() {
        String[] tokens = {"zones ", "2 ", ";", "damper ", "supply ", "0 ", "1 ", "open ", ";", "fan ", "supply ",
            "1 ", "1 ",
            "0 ", ";", "door ", "0 ", "1 ", "51 ", ";", "target ", "5 ", ";", "proof ", "5 ", ";", "rule ", "not ",
                "( ",
            "alarm ", "0 ", "or ", "first ", "1 ", "or ", "ajar ", "0 ", "and ", "after ", "9 ", "or ", "running ",
                "0 ",
            "or ", "trouble ", ") ", "do ", "close ", "0 ", ", ", "open ", "0 ", ";"};
        String text = "";
        int items = 0;
        for (String token : tokens) {
            text += token;
            if (token.equals(";")) {
                items++;
                Check.sound(text, items);
                Check.sound(text + "\n", items);
            } else {
                Check.bad(text, 1, text.length());
                Check.bad(text + "  \n", 1, text.length() + 3);
                Check.bad(text.trim(), 1, text.trim().length());
            }
        }
    }

    /** The end of the text at the end of a full buffer. */
    private static void endOfFullBuffer() {
        String start = "target 5;" + " ".repeat(884);
        Check.bad(start + "proof 5", 1, 900);
        Check.bad(start + "proof  ", 1, 900);
        Check.badFrom(1, start + "proof ", "x");
        Check.sound(start + "      \n", 1);
        Check.sound(" ".repeat(891) + "target 5;", 1);
        Check.sound(" ".repeat(900), 0);
        Check.bad(" ".repeat(892) + "target 5", 1, 900);
        Check.badFrom(1, " ".repeat(899), ";");
        Check.badFrom(1, " ".repeat(899), "a");
        Check.badFrom(1, " ".repeat(892) + "zones 2", "x");
        // As many tokens as there are bytes, and nothing but digits or letters.
        Check.badFrom(1, "", ";".repeat(900));
        Check.badFrom(1, "", "(".repeat(900));
        Check.badFrom(1, "", "1".repeat(900));
        Check.badFrom(1, "", "z".repeat(900));
        Check.badFrom(1, "zones 2;", "1".repeat(892));
        Check.badFrom(1, "", "1a".repeat(450));
        Check.bad("rule " + "(".repeat(895), 3, 11);
    }

    // ---- of several errors

    /** "The error with the least position ... is reported" */
    private static void leastPosition() {
        String syntax = "proof x;";
        String range = "target 201;";
        String limit = DOOR;
        String start = DOOR.repeat(10);
        Check.badFrom(1, start + "proof ", "x;" + range + limit);
        Check.badFrom(1, start + "proof ", "x;" + limit + range);
        Check.badFrom(2, start + "target ", "201;" + syntax + limit);
        Check.badFrom(2, start + "target ", "201;" + limit + syntax);
        Check.badFrom(3, start, limit + syntax + range);
        Check.badFrom(3, start, limit + range + syntax);
        Check.badFrom(2, "zones ", "0;zones 0;");
        Check.badFrom(2, "damper supply ", "1 0 shut;");
        Check.badFrom(2, "damper supply 0 ", "31 shut;");
        Check.badFrom(2, "door 0 ", "51 50;");
        Check.badFrom(2, "fan stair ", "0 0 0");
    }

    /**
     * "of several at one position the least code": a number that is too long, or behind a word, and out of range too
     */
    private static void leastCode() {
        Check.badFrom(1, "zones ", "1234;");
        Check.badFrom(1, "zones", "9;");
        Check.badFrom(1, "rule alarm", "9 do close 0;");
        Check.badFrom(1, "fan stair 1 1 ", "1000;");
        Check.badFrom(1, "target 5;", "zones 2;");
    }

    /** "Returns the number of items" */
    private static void numberOfItems() {
        Check.sound("", 0);
        Check.sound("target 5;", 1);
        Check.sound("zones 8;target 5;proof 5;" + SUPPLY.repeat(16) + FAN.repeat(6) + DOOR.repeat(10)
            + "rule trouble do close 0;".repeat(12), 47);
    }
}
