import java.util.Arrays;

/**
 * A simulator of the smoke control system of a building with one staircase.
 * Its document is ../shared/DOC.md; the section numbers in the comments are that document's.
 */
public final class SmokeControl {
    public static final int NONE = -1;

    private static final int BAD_VALUE = -2;
    private static final int NOT_APPLICABLE = -4;

    private static final int MAX_ZONES = 8;
    private static final int MAX_DAMPERS = 16;
    private static final int MAX_FANS = 6;
    private static final int MAX_DOORS = 10;
    private static final int MAX_RULES = 12;
    private static final int MAX_ACTIONS = 8;
    private static final int MAX_OPEN_MARKS = 6;
    private static final int MAX_AREA = 500;
    private static final int MAX_TEXT = 900;
    private static final int MAX_SMOKE = 1000;
    private static final int MAX_PRESSURE = 999;
    private static final int SLOTS = 3;
    private static final int LAST_TIME = 9999;
    private static final int MAX_DELAY = 999; // of a proof item and of a test "after"
    private static final int LONGEST_TRIAL = 200;
    private static final int ALARM_SMOKE = 100;

    // Dampers, fans and the staircase are supervised in the same way, so they share one numbering:
    // the dampers first, then the fans, then the staircase.
    private static final int FIRST_FAN = MAX_DAMPERS;
    private static final int STAIRS = MAX_DAMPERS + MAX_FANS;
    private static final int UNITS = STAIRS + 1;

    private static final int SUPPLY = 0;
    private static final int EXHAUST = 1;
    private static final int STAIR = 2;

    // A command; no command is 0. Open and start are ON, shut and stop are OFF.
    private static final int ON = 1;
    private static final int OFF = 2;

    private static final int BY_NORMAL = 0;
    private static final int BY_OPERATOR = 1;
    private static final int BY_RULES = 2;
    private static final int BY_PANEL = 3;

    private static final int ALARM_ON = 0;
    private static final int DAMPER_TROUBLE = 1;
    private static final int FAN_TROUBLE = 2;
    private static final int PRESSURE_TROUBLE = 3;
    private static final int FAN_FULL = 4;
    private static final int FAN_STILL = 5;
    private static final int KEY_ON = 6;
    private static final int KEY_OFF = 7;

    private static final int SYNTAX = 1;
    private static final int RANGE = 2;
    private static final int LIMIT = 3;

    // What a condition is made of, in postfix order: tests and the words between them.
    private static final int TEST_ALARM = 0;
    private static final int TEST_FIRST = 1;
    private static final int TEST_AJAR = 2;
    private static final int TEST_AFTER = 3;
    private static final int TEST_RUNNING = 4;
    private static final int TEST_TROUBLE = 5;
    private static final int NOT = 6;
    private static final int AND = 7;
    private static final int OR = 8;

    private static final int ACT_OPEN = 0;
    private static final int ACT_SHUT = 1;
    private static final int ACT_START = 2;
    private static final int ACT_STOP = 3;
    private static final int ACT_EXTRACT = 4;
    private static final int ACT_PRESS = 5;
    private static final int ACT_CLOSE = 6;
    private static final int ACT_PURGE = 7;

    private final Reader reader;
    private final State now;
    private final State trial;
    private final State[] slots;
    private int filledSlots;
    private final Engine engine;

    public SmokeControl() {
        Plant plant = new Plant();
        reader = new Reader();
        now = new State(plant);
        trial = new State(plant);
        slots = new State[] {new State(plant), new State(plant), new State(plant)};
        engine = new Engine();
    }

    // ---- input

    public int feed(int a, int b, int c, int d, int e) {
        Text text = reader.text;
        if (text.fed + 20 > MAX_TEXT) {
            return NOT_APPLICABLE;
        }
        text.append(a);
        text.append(b);
        text.append(c);
        text.append(d);
        text.append(e);
        return text.fed;
    }

    public int load(int length) {
        if (length < 0 || length > reader.text.fed) {
            return BAD_VALUE;
        }
        reader.begin(length);
        int items = 0;
        while (items < MAX_TEXT && reader.expectsItem()) {
            reader.item(items == 0);
            items++;
        }
        reader.text.fed = 0;
        if (reader.errorFound != 0) {
            return NOT_APPLICABLE;
        }
        Plant old = now.plant;
        now.begin(reader.plant);
        reader.plant = old;
        filledSlots = 0;
        return items;
    }

    public int errorCode() {
        return reader.errorFound;
    }

    public int errorPosition() {
        return reader.errorPlace;
    }

    public int count(int what) {
        Plant plant = now.plant;
        switch (what) {
            case 0: return plant.zones;
            case 1: return plant.dampers;
            case 2: return plant.fans;
            case 3: return plant.doors;
            case 4: return plant.rules.rules;
            case 5: return plant.target;
            case 6: return plant.proof;
            case 7: return plant.rules.actions;
            default: return BAD_VALUE;
        }
    }

    // ---- changes from outside

    public int setSource(int zone, int rate) {
        if (lacksZone(zone)) {
            return NONE;
        }
        if (rate < 0 || rate > 50) {
            return BAD_VALUE;
        }
        return exchange(now.sources, zone, rate);
    }

    public int setDetector(int zone, boolean disabled) {
        if (lacksZone(zone)) {
            return NONE;
        }
        int before = now.alarms.disabled;
        now.alarms.disabled = with(before, zone, disabled);
        return before != now.alarms.disabled ? 1 : 0;
    }

    public int setDoor(int door, boolean open) {
        if (door < 0 || door >= now.plant.doors) {
            return NONE;
        }
        int before = now.openDoors;
        now.openDoors = with(before, door, open);
        return before != now.openDoors ? 1 : 0;
    }

    public int jam(int damper, boolean jammed) {
        return lacksDamper(damper) ? NONE : setFaulty(damper, jammed);
    }

    public int breakFan(int fan, boolean broken) {
        return lacksFan(fan) ? NONE : setFaulty(FIRST_FAN + fan, broken);
    }

    private int setFaulty(int unit, boolean faulty) {
        int before = now.faulty;
        now.faulty = with(before, unit, faulty);
        return before != now.faulty ? 1 : 0;
    }

    public int turnKey(boolean on) {
        if (now.key == on) {
            return 0;
        }
        now.key = on;
        now.log.add(now.time, on ? KEY_ON : KEY_OFF, 0);
        return 1;
    }

    public int switchDamper(int damper, int position) {
        return lacksDamper(damper) ? NONE : setCommand(now.switches, damper, position);
    }

    public int switchFan(int fan, int position) {
        return lacksFan(fan) ? NONE : setCommand(now.switches, FIRST_FAN + fan, position);
    }

    public int operateDamper(int damper, int command) {
        return lacksDamper(damper) ? NONE : setCommand(now.operator, damper, command);
    }

    public int operateFan(int fan, int command) {
        return lacksFan(fan) ? NONE : setCommand(now.operator, FIRST_FAN + fan, command);
    }

    private static int setCommand(int[] row, int unit, int command) {
        if (command < 0 || command > OFF) {
            return BAD_VALUE;
        }
        return exchange(row, unit, command);
    }

    public int tick(int n) {
        if (n < 1 || n > LONGEST_TRIAL) {
            return BAD_VALUE;
        }
        return engine.pass(now, n);
    }

    public int reset() {
        now.trouble = 0;
        Arrays.fill(now.timer, 0);
        now.alarms.silence(now);
        return Integer.bitCount(now.alarms.on);
    }

    // ---- the present state

    public int time() {
        return now.time;
    }

    public int smoke(int zone) {
        return lacksZone(zone) ? NONE : now.smoke[zone];
    }

    public int stair(int what) {
        switch (what) {
            case 0: return now.pressure;
            case 1: return now.throttle;
            case 2: return now.stairSmoke;
            case 3: return now.plant.area(now.openDoors);
            case 4: return now.stairAir();
            case 5: return has(now.trouble, STAIRS) ? 1 : 0;
            default: return BAD_VALUE;
        }
    }

    public int alarm(int zone) {
        if (lacksZone(zone)) {
            return NONE;
        }
        return has(now.alarms.on, zone) ? 1 : 0;
    }

    public int firstAlarm() {
        return now.alarms.first < 0 ? NOT_APPLICABLE : now.alarms.first;
    }

    public int supply(int zone) {
        if (lacksZone(zone)) {
            return NONE;
        }
        engine.divideAir(now);
        return engine.supplies[zone];
    }

    public int exhaust(int zone) {
        if (lacksZone(zone)) {
            return NONE;
        }
        engine.divideAir(now);
        return engine.exhausts[zone];
    }

    public int damper(int damper, int what) {
        if (lacksDamper(damper)) {
            return NONE;
        }
        switch (what) {
            case 5: return now.plant.damperZone[damper];
            case 6: return now.plant.span[damper];
            default: return unitAnswer(damper, what);
        }
    }

    public int fan(int fan, int what) {
        if (lacksFan(fan)) {
            return NONE;
        }
        switch (what) {
            case 5: return now.fanAir(fan);
            case 6: return waitsForDamper(fan) ? 1 : 0;
            default: return unitAnswer(FIRST_FAN + fan, what);
        }
    }

    /** The answers that dampers and fans have in common. */
    private int unitAnswer(int unit, int what) {
        switch (what) {
            case 0: return now.position[unit];
            case 1: return presentCommands().command[unit] == ON ? 1 : 0;
            case 2: return presentCommands().source[unit];
            case 3: return has(now.trouble, unit) ? 1 : 0;
            case 4: return now.timer[unit];
            default: return BAD_VALUE;
        }
    }

    private boolean waitsForDamper(int fan) {
        return presentCommands().command[FIRST_FAN + fan] == ON && !now.hasWay(fan, now.provenOpen());
    }

    private Commands presentCommands() {
        engine.commands.determine(now);
        return engine.commands;
    }

    public int ruleHolds(int rule) {
        if (rule < 0 || rule >= now.plant.rules.rules) {
            return NONE;
        }
        return engine.commands.holds(now, rule) ? 1 : 0;
    }

    public int commandsBy(int source) {
        if (source < BY_NORMAL || source > BY_PANEL) {
            return BAD_VALUE;
        }
        int[] sources = presentCommands().source;
        int found = 0;
        for (int d = 0; d < now.plant.dampers; d++) {
            found += sources[d] == source ? 1 : 0;
        }
        for (int f = 0; f < now.plant.fans; f++) {
            found += sources[FIRST_FAN + f] == source ? 1 : 0;
        }
        return found;
    }

    public int events() {
        return now.log.kept();
    }

    public int event(int event, int what) {
        if (event < 0 || event >= now.log.kept()) {
            return NONE;
        }
        int place = now.log.place(event);
        switch (what) {
            case 0: return now.log.time[place];
            case 1: return now.log.code[place];
            case 2: return now.log.number[place];
            default: return BAD_VALUE;
        }
    }

    // ---- trials

    public int smokeAfter(int zone, int n) {
        if (lacksZone(zone)) {
            return NONE;
        }
        if (isNoTrial(n)) {
            return BAD_VALUE;
        }
        tryTicks(n);
        return trial.smoke[zone];
    }

    public int allSmokeAfter(int n) {
        if (isNoTrial(n)) {
            return BAD_VALUE;
        }
        tryTicks(n);
        return trial.smokeSum();
    }

    public int pressureAfter(int n) {
        if (isNoTrial(n)) {
            return BAD_VALUE;
        }
        tryTicks(n);
        return trial.pressure;
    }

    private static boolean isNoTrial(int n) {
        return n < 0 || n > LONGEST_TRIAL;
    }

    private void tryTicks(int n) {
        trial.copyFrom(now);
        engine.pass(trial, n);
    }

    public int clearAfter(int limit) {
        if (limit < 1 || limit > MAX_SMOKE) {
            return BAD_VALUE;
        }
        trial.copyFrom(now);
        for (int ticks = 0; ticks <= LONGEST_TRIAL; ticks++) {
            if (trial.thickestSmoke() < limit) {
                return ticks;
            }
            engine.pass(trial, 1);
        }
        return NOT_APPLICABLE;
    }

    public int bestSwitch(int n) {
        if (n < 1 || n > 60) {
            return BAD_VALUE;
        }
        int best = 0;
        int least = smokeWithSwitch(0, 0, n);
        int dampers = now.plant.dampers;
        for (int i = 0; i < dampers + now.plant.fans; i++) {
            int unit = i < dampers ? i : FIRST_FAN + i - dampers;
            for (int position = ON; position <= OFF; position++) {
                int sum = smokeWithSwitch(unit, position, n);
                if (sum < least) {
                    least = sum;
                    best = 10 * (1 + i) + position;
                }
            }
        }
        return best;
    }

    /** The smoke after n ticks with the key on; position 0 leaves all switches as they are. */
    private int smokeWithSwitch(int unit, int position, int n) {
        trial.copyFrom(now);
        trial.key = true;
        if (position != 0) {
            trial.switches[unit] = position;
        }
        engine.pass(trial, n);
        return trial.smokeSum();
    }

    public int purgeTime(int zone) {
        if (lacksZone(zone)) {
            return NONE;
        }
        trial.copyFrom(now);
        trial.key = true;
        switchZoneOn(zone);
        for (int ticks = 0; ticks <= LONGEST_TRIAL; ticks++) {
            if (trial.smoke[zone] < ALARM_SMOKE) {
                return ticks;
            }
            engine.pass(trial, 1);
        }
        return NOT_APPLICABLE;
    }

    private void switchZoneOn(int zone) {
        Plant plant = trial.plant;
        int inZone = 0;
        for (int d = 0; d < plant.dampers; d++) {
            if (plant.damperZone[d] == zone) {
                trial.switches[d] = ON;
                inZone = with(inZone, d, true);
            }
        }
        for (int f = 0; f < plant.fans; f++) {
            if ((plant.list[f] & inZone) != 0) {
                trial.switches[FIRST_FAN + f] = ON;
            }
        }
    }

    public int pressureWith(int set) {
        if (set < 0 || set >= 1 << now.plant.doors) {
            return BAD_VALUE;
        }
        return now.plant.fullPressure(set);
    }

    public int mostOpenDoors() {
        Plant plant = now.plant;
        if (plant.fullPressure(0) < plant.target) {
            return NOT_APPLICABLE;
        }
        // Opening the doors that add the least area keeps the pressure highest for every number of doors.
        int open = 0;
        for (int doors = 0; doors < plant.doors; doors++) {
            int more = with(open, plant.narrowestDoor(open), true);
            if (plant.fullPressure(more) < plant.target) {
                return doors;
            }
            open = more;
        }
        return plant.doors;
    }

    public int worstDoor() {
        int worst = NOT_APPLICABLE;
        int least = MAX_PRESSURE + 1;
        for (int door = 0; door < now.plant.doors; door++) {
            if (!has(now.openDoors, door)) {
                int pressure = now.plant.fullPressure(with(now.openDoors, door, true));
                if (pressure < least) {
                    least = pressure;
                    worst = door;
                }
            }
        }
        return worst;
    }

    // ---- slots

    public int keep(int slot) {
        if (slot < 0 || slot >= SLOTS) {
            return NONE;
        }
        slots[slot].copyFrom(now);
        filledSlots = with(filledSlots, slot, true);
        return now.time;
    }

    public int restore(int slot) {
        if (slot < 0 || slot >= SLOTS) {
            return NONE;
        }
        if (!has(filledSlots, slot)) {
            return NOT_APPLICABLE;
        }
        now.copyFrom(slots[slot]);
        return now.time;
    }

    // ---- helpers

    private boolean lacksZone(int zone) {
        return zone < 0 || zone >= now.plant.zones;
    }

    private boolean lacksDamper(int damper) {
        return damper < 0 || damper >= now.plant.dampers;
    }

    private boolean lacksFan(int fan) {
        return fan < 0 || fan >= now.plant.fans;
    }

    private static int exchange(int[] row, int i, int value) {
        if (i < 0 || i >= row.length) {
            return NONE;
        }
        int before = row[i];
        row[i] = value;
        return before;
    }

    // Sets of zones, dampers, fans, doors and slots are bits of an int.
    private static boolean has(int set, int member) {
        return (set >> member & 1) != 0;
    }

    private static int with(int set, int member, boolean in) {
        return in ? set | 1 << member : set & ~(1 << member);
    }

    private static void copyRow(int[] from, int[] to) {
        System.arraycopy(from, 0, to, 0, Math.min(from.length, to.length));
    }

    /** What a text declares; it does not change while time passes. */
    private static final class Plant {
        int zones;
        int dampers;
        int fans;
        int doors;
        int target;
        int proof;
        int normallyOpen;
        final int[] kind = new int[UNITS];
        final int[] span = new int[UNITS]; // travel time of a damper, ramp time of a fan
        final int[] damperZone = new int[MAX_DAMPERS];
        final int[] flow = new int[MAX_FANS];
        final int[] list = new int[MAX_FANS];
        final int[] doorZone = new int[MAX_DOORS];
        final int[] shutArea = new int[MAX_DOORS];
        final int[] openArea = new int[MAX_DOORS];
        final RuleBook rules = new RuleBook();

        Plant() {
            begin();
        }

        void begin() {
            zones = 1;
            dampers = 0;
            fans = 0;
            doors = 0;
            target = 50;
            proof = 10;
            normallyOpen = 0;
            rules.begin();
        }

        void addDamper(int itsKind, int zone, int travel, boolean open) {
            if (dampers < MAX_DAMPERS) {
                kind[dampers] = itsKind;
                damperZone[dampers] = zone;
                span[dampers] = travel;
                normallyOpen = with(normallyOpen, dampers, open);
                dampers++;
            }
        }

        void addFan(int itsKind, int itsFlow, int ramp, int itsList) {
            if (fans < MAX_FANS) {
                kind[FIRST_FAN + fans] = itsKind;
                span[FIRST_FAN + fans] = ramp;
                flow[fans] = itsFlow;
                list[fans] = itsList;
                fans++;
            }
        }

        void addDoor(int zone, int shut, int open) {
            if (doors < MAX_DOORS) {
                doorZone[doors] = zone;
                shutArea[doors] = shut;
                openArea[doors] = open;
                doors++;
            }
        }

        boolean isStairFan(int fan) {
            return kind[FIRST_FAN + fan] == STAIR;
        }

        int area(int openDoors) {
            int sum = 0;
            for (int door = 0; door < doors; door++) {
                sum += has(openDoors, door) ? openArea[door] : shutArea[door];
            }
            return sum;
        }

        int pressureOf(int air, int openDoors) {
            int area = area(openDoors);
            return area > 0 ? Math.min(MAX_PRESSURE, air * air / (area * area)) : 0;
        }

        int fullPressure(int openDoors) {
            int air = 0;
            for (int fan = 0; fan < fans; fan++) {
                air += isStairFan(fan) ? flow[fan] : 0;
            }
            return pressureOf(air, openDoors);
        }

        /** Of the shut doors the one that adds the least area when opened; 0 if none is shut. */
        int narrowestDoor(int openDoors) {
            int best = 0;
            int least = MAX_AREA;
            for (int door = 0; door < doors; door++) {
                int added = openArea[door] - shutArea[door];
                if (!has(openDoors, door) && added < least) {
                    least = added;
                    best = door;
                }
            }
            return best;
        }
    }

    /** The rules of a plant, one behind the other: those of rule r end at codeEnd[r] and actionEnd[r]. */
    private static final class RuleBook {
        // Each code has at least 3 bytes of the text for itself ("not", or "or" and the byte behind it).
        static final int MAX_CODES = MAX_TEXT / 3;

        int rules;
        int codes;
        int actions;
        final int[] code = new int[MAX_CODES];
        final int[] codeNumber = new int[MAX_CODES];
        final int[] codeEnd = new int[MAX_RULES];
        final int[] action = new int[MAX_RULES * MAX_ACTIONS];
        final int[] actionNumber = new int[MAX_RULES * MAX_ACTIONS];
        final int[] actionEnd = new int[MAX_RULES];

        void begin() {
            rules = 0;
            codes = 0;
            actions = 0;
        }

        void addCode(int what, int number) {
            if (codes < MAX_CODES) {
                code[codes] = what;
                codeNumber[codes] = number;
                codes++;
            }
        }

        void addAction(int what, int number) {
            if (actions < MAX_RULES * MAX_ACTIONS) {
                action[actions] = what;
                actionNumber[actions] = number;
                actions++;
            }
        }

        void endRule() {
            if (rules < MAX_RULES) {
                codeEnd[rules] = codes;
                actionEnd[rules] = actions;
                rules++;
            }
        }

        int codeStart(int rule) {
            return rule > 0 ? codeEnd[rule - 1] : 0;
        }

        int actionStart(int rule) {
            return rule > 0 ? actionEnd[rule - 1] : 0;
        }
    }

    /** The bytes that are fed, and the tokens that the first of them are cut into (section 3). */
    private static final class Text {
        static final int END = 0;
        static final int WORD = 1;
        static final int NUMBER = 2;
        static final int SIGN = 3;
        static final int BAD = 4;
        static final int BLANK = 5;
        // Each byte may be a token, and the end of the text is one too.
        static final int MAX_TOKENS = MAX_TEXT + 1;

        final byte[] bytes = new byte[MAX_TEXT];
        int fed;
        final int[] kind = new int[MAX_TOKENS];
        final int[] start = new int[MAX_TOKENS];
        final int[] size = new int[MAX_TOKENS];
        final int[] value = new int[MAX_TOKENS];
        int tokens;
        int at; // the token that is looked at

        void append(int word) {
            for (int shift = 24; shift >= 0 && fed < MAX_TEXT; shift -= 8) {
                bytes[fed] = (byte) (word >>> shift);
                fed++;
            }
        }

        void cut(int length) {
            tokens = 0;
            at = 0;
            int before = BLANK;
            for (int i = 0; i < length && i < MAX_TEXT; i++) {
                int itsKind = kindOf(bytes[i]);
                if (isRun(itsKind) && itsKind == before) {
                    lengthenToken(bytes[i]);
                } else if (isRun(itsKind) && isRun(before)) {
                    startToken(BAD, i);
                } else if (itsKind != BLANK) {
                    startToken(itsKind, i);
                }
                before = itsKind;
            }
            startToken(END, length);
        }

        private void startToken(int itsKind, int place) {
            if (tokens < MAX_TOKENS) {
                kind[tokens] = itsKind;
                start[tokens] = place;
                size[tokens] = 1;
                value[tokens] = itsKind == NUMBER ? bytes[place] - '0' : 0;
                tokens++;
            }
        }

        private void lengthenToken(int itsByte) {
            int last = tokens - 1;
            if (last < 0) {
                return;
            }
            size[last]++;
            if (kind[last] == NUMBER) {
                value[last] = value[last] * 10 + itsByte - '0';
                kind[last] = size[last] > 3 ? BAD : NUMBER;
            }
        }

        private static boolean isRun(int itsKind) {
            return itsKind == WORD || itsKind == NUMBER;
        }

        private static int kindOf(int itsByte) {
            if (itsByte >= 'a' && itsByte <= 'z') {
                return WORD;
            }
            if (itsByte >= '0' && itsByte <= '9') {
                return NUMBER;
            }
            if (itsByte == ' ' || itsByte == '\n') {
                return BLANK;
            }
            return itsByte == ';' || itsByte == ',' || itsByte == '(' || itsByte == ')' ? SIGN : BAD;
        }

        boolean isWord(String word) {
            if (kind[at] != WORD || size[at] != word.length()) {
                return false;
            }
            int first = start[at];
            for (int i = 0; i < word.length() && first + i < MAX_TEXT; i++) {
                if (bytes[first + i] != word.charAt(i)) {
                    return false;
                }
            }
            return true;
        }

        boolean isSign(char sign) {
            return kind[at] == SIGN && bytes[start[at]] == sign;
        }

        void advance() {
            if (at < tokens - 1) {
                at++;
            }
        }

        /** Makes the present token one that nothing can take, so that no token behind it counts any more. */
        void stop() {
            kind[at] = BAD;
        }
    }

    /**
     * Reads a plant from a text (section 3). The tokens are looked at one by one from the left, and the first
     * error ends the reading, so it is the one with the least position.
     */
    private static final class Reader {
        final Text text = new Text();
        // A text with an error must leave the plant in use alone, so each text is read into this other one.
        Plant plant = new Plant();
        int errorFound;
        int errorPlace = NONE;
        boolean targetSeen;
        boolean proofSeen;

        void begin(int length) {
            plant.begin();
            text.cut(length);
            errorFound = 0;
            errorPlace = NONE;
            targetSeen = false;
            proofSeen = false;
        }

        boolean expectsItem() {
            return errorFound == 0 && text.kind[text.at] != Text.END;
        }

        /** A later error is only a consequence of the first one. */
        private void fail(int code) {
            if (errorFound == 0) {
                errorFound = code;
                errorPlace = text.start[text.at];
                text.stop();
            }
        }

        private boolean takeWord(String word) {
            boolean found = text.isWord(word);
            if (found) {
                text.advance();
            }
            return found;
        }

        private boolean takeSign(char sign) {
            boolean found = text.isSign(sign);
            if (found) {
                text.advance();
            }
            return found;
        }

        private void needSign(char sign) {
            if (!takeSign(sign)) {
                fail(SYNTAX);
            }
        }

        /** The number that must stand here; low if it does not, which is an error. */
        private int needNumber(int low, int high) {
            int number = text.value[text.at];
            if (text.kind[text.at] != Text.NUMBER) {
                fail(SYNTAX);
                return low;
            }
            if (number < low || number > high) {
                fail(RANGE);
                return low;
            }
            text.advance();
            return number;
        }

        /** Goes behind the first word of an item, unless there are as many of these items as there may be. */
        private boolean takeItem(String word, int there, int most) {
            boolean found = text.isWord(word);
            if (found && there >= most) {
                fail(LIMIT);
            }
            return found && takeWord(word);
        }

        void item(boolean first) {
            if (first && takeWord("zones")) {
                plant.zones = needNumber(1, MAX_ZONES);
            } else if (takeItem("damper", plant.dampers, MAX_DAMPERS)) {
                damperItem();
            } else if (takeItem("fan", plant.fans, MAX_FANS)) {
                fanItem();
            } else if (takeItem("door", plant.doors, MAX_DOORS)) {
                doorItem();
            } else if (!targetSeen && takeWord("target")) {
                targetSeen = true;
                plant.target = needNumber(1, 200);
            } else if (!proofSeen && takeWord("proof")) {
                proofSeen = true;
                plant.proof = needNumber(0, MAX_DELAY);
            } else if (takeItem("rule", plant.rules.rules, MAX_RULES)) {
                ruleItem();
            } else {
                fail(SYNTAX);
            }
            needSign(';');
        }

        private int airKind() {
            if (takeWord("supply")) {
                return SUPPLY;
            }
            if (!takeWord("exhaust")) {
                fail(SYNTAX);
            }
            return EXHAUST;
        }

        private void damperItem() {
            int kind = airKind();
            int zone = needNumber(0, plant.zones - 1);
            int travel = needNumber(1, 30);
            boolean open = takeWord("open");
            if (errorFound == 0) {
                plant.addDamper(kind, zone, travel, open);
            }
        }

        private void fanItem() {
            int kind = takeWord("stair") ? STAIR : airKind();
            int flow = needNumber(1, 999);
            int ramp = needNumber(1, 30);
            int list = 0;
            for (int n = 0; n <= MAX_DAMPERS && text.kind[text.at] == Text.NUMBER; n++) {
                list |= listedDamper(kind, list);
            }
            if (errorFound == 0) {
                plant.addFan(kind, flow, ramp, list);
            }
        }

        private int listedDamper(int fanKind, int list) {
            int damper = text.value[text.at];
            if (damper >= plant.dampers || plant.kind[damper] != fanKind || has(list, damper)) {
                fail(RANGE);
                return 0;
            }
            text.advance();
            return 1 << damper;
        }

        private void doorItem() {
            int zone = needNumber(0, plant.zones - 1);
            int shut = needNumber(1, 50);
            int open = needNumber(51, MAX_AREA);
            if (errorFound == 0) {
                plant.addDoor(zone, shut, open);
            }
        }

        private void ruleItem() {
            condition(0);
            if (!takeWord("do")) {
                fail(SYNTAX);
            }
            action(0);
            for (int n = 1; n <= MAX_ACTIONS && takeSign(','); n++) {
                action(n);
            }
            if (errorFound == 0) {
                plant.rules.endRule();
            }
        }

        /** The depth is the number of "(" and "not" that are open; MAX_OPEN_MARKS keeps it low. */
        private void condition(int depth) {
            boolean more = true;
            for (int n = 0; n < MAX_TEXT && more; n++) {
                test(depth);
                for (int m = 0; m < MAX_TEXT && takeWord("and"); m++) {
                    test(depth);
                    plant.rules.addCode(AND, 0);
                }
                if (n > 0) {
                    plant.rules.addCode(OR, 0);
                }
                more = takeWord("or");
            }
        }

        private void test(int depth) {
            boolean mark = text.isWord("not") || text.isSign('(');
            int plain = testHere();
            if (mark && depth >= MAX_OPEN_MARKS) {
                fail(LIMIT);
            } else if (takeWord("not")) {
                test(depth + 1);
                plant.rules.addCode(NOT, 0);
            } else if (takeSign('(')) {
                condition(depth + 1);
                needSign(')');
            } else if (plain < 0) {
                fail(SYNTAX);
            } else {
                text.advance();
                plant.rules.addCode(plain, plain == TEST_TROUBLE ? 0 : needNumber(0, lastFor(plain)));
            }
        }

        private int testHere() {
            return text.isWord("alarm") ? TEST_ALARM
                : text.isWord("first") ? TEST_FIRST
                : text.isWord("ajar") ? TEST_AJAR
                : text.isWord("after") ? TEST_AFTER
                : text.isWord("running") ? TEST_RUNNING
                : text.isWord("trouble") ? TEST_TROUBLE
                : NONE;
        }

        /** The greatest number that a test may have. */
        private int lastFor(int test) {
            switch (test) {
                case TEST_AJAR: return plant.doors - 1;
                case TEST_AFTER: return MAX_DELAY;
                case TEST_RUNNING: return plant.fans - 1;
                default: return plant.zones - 1;
            }
        }

        private void action(int before) {
            int verb = verbHere();
            if (verb < 0) {
                fail(SYNTAX);
                return;
            }
            if (before >= MAX_ACTIONS) {
                fail(LIMIT);
                return;
            }
            text.advance();
            int number = needNumber(0, objectsOf(verb) - 1);
            plant.rules.addAction(verb, number);
        }

        private int verbHere() {
            return text.isWord("open") ? ACT_OPEN
                : text.isWord("shut") ? ACT_SHUT
                : text.isWord("start") ? ACT_START
                : text.isWord("stop") ? ACT_STOP
                : text.isWord("extract") ? ACT_EXTRACT
                : text.isWord("press") ? ACT_PRESS
                : text.isWord("close") ? ACT_CLOSE
                : text.isWord("purge") ? ACT_PURGE
                : NONE;
        }

        private int objectsOf(int verb) {
            if (verb == ACT_OPEN || verb == ACT_SHUT) {
                return plant.dampers;
            }
            return verb == ACT_START || verb == ACT_STOP ? plant.fans : plant.zones;
        }
    }

    /** All that changes while time passes, with the plant that it is the state of. */
    private static final class State {
        Plant plant;
        int time;
        boolean key;
        int pressure;
        int throttle;
        int stairSmoke;
        int openDoors;
        int faulty; // jammed dampers and broken fans
        int trouble;
        final int[] smoke = new int[MAX_ZONES];
        final int[] sources = new int[MAX_ZONES];
        final int[] position = new int[UNITS]; // of a fan its level
        final int[] switches = new int[UNITS];
        final int[] operator = new int[UNITS];
        final int[] previous = new int[UNITS]; // the command in the tick before, 0 before the first tick
        final int[] timer = new int[UNITS];
        final Alarms alarms = new Alarms();
        final Log log = new Log();

        State(Plant plant) {
            begin(plant);
        }

        void begin(Plant itsPlant) {
            plant = itsPlant;
            time = 0;
            key = false;
            pressure = 0;
            throttle = 100;
            stairSmoke = 0;
            openDoors = 0;
            faulty = 0;
            trouble = 0;
            Arrays.fill(smoke, 0);
            Arrays.fill(sources, 0);
            Arrays.fill(position, 0);
            Arrays.fill(switches, 0);
            Arrays.fill(operator, 0);
            Arrays.fill(previous, 0);
            Arrays.fill(timer, 0);
            alarms.begin();
            log.total = 0;
            for (int d = 0; d < plant.dampers; d++) {
                position[d] = has(plant.normallyOpen, d) ? plant.span[d] : 0;
            }
        }

        void copyFrom(State other) {
            plant = other.plant;
            time = other.time;
            key = other.key;
            pressure = other.pressure;
            throttle = other.throttle;
            stairSmoke = other.stairSmoke;
            openDoors = other.openDoors;
            faulty = other.faulty;
            trouble = other.trouble;
            copyRow(other.smoke, smoke);
            copyRow(other.sources, sources);
            copyRow(other.position, position);
            copyRow(other.switches, switches);
            copyRow(other.operator, operator);
            copyRow(other.previous, previous);
            copyRow(other.timer, timer);
            alarms.copyFrom(other.alarms);
            log.copyFrom(other.log);
        }

        int smokeSum() {
            int sum = stairSmoke;
            for (int z = 0; z < plant.zones; z++) {
                sum += smoke[z];
            }
            return sum;
        }

        int thickestSmoke() {
            int most = 0;
            for (int z = 0; z < plant.zones; z++) {
                most = Math.max(most, smoke[z]);
            }
            return most;
        }

        int provenOpen() {
            int proven = 0;
            for (int d = 0; d < plant.dampers; d++) {
                proven = with(proven, d, position[d] == plant.span[d]);
            }
            return proven;
        }

        /** Whether the air of a fan has a way to go. */
        boolean hasWay(int fan, int provenOpen) {
            return plant.isStairFan(fan) || (plant.list[fan] & provenOpen) != 0;
        }

        int fanAir(int fan) {
            int ramp = plant.span[FIRST_FAN + fan];
            return ramp > 0 ? plant.flow[fan] * position[FIRST_FAN + fan] / ramp : 0;
        }

        int stairAir() {
            int air = 0;
            for (int fan = 0; fan < plant.fans; fan++) {
                air += plant.isStairFan(fan) ? fanAir(fan) : 0;
            }
            return air;
        }

        /** Counts the ticks for which something is late; at the limit it is trouble, with its event. */
        void supervise(int unit, boolean late, int limit, int eventCode, int number) {
            if (!late) {
                timer[unit] = 0;
                return;
            }
            timer[unit]++;
            if (timer[unit] == limit && !has(trouble, unit)) {
                trouble = with(trouble, unit, true);
                log.add(time, eventCode, number);
            }
        }
    }

    /** The alarms of the zones; first is NONE exactly while no alarm is on. */
    private static final class Alarms {
        int on;
        int disabled;
        int first;
        int since;

        void begin() {
            on = 0;
            disabled = 0;
            first = NONE;
            since = 0;
        }

        void copyFrom(Alarms other) {
            on = other.on;
            disabled = other.disabled;
            first = other.first;
            since = other.since;
        }

        void raise(State state) {
            for (int z = 0; z < state.plant.zones; z++) {
                if (state.smoke[z] >= ALARM_SMOKE && !has(on, z) && !has(disabled, z)) {
                    on = with(on, z, true);
                    state.log.add(state.time, ALARM_ON, z);
                    if (first < 0) {
                        first = z;
                        since = state.time;
                    }
                }
            }
        }

        void silence(State state) {
            for (int z = 0; z < state.plant.zones; z++) {
                if (state.smoke[z] < ALARM_SMOKE) {
                    on = with(on, z, false);
                }
            }
            if (first >= 0 && !has(on, first)) {
                first = lowest(state.plant.zones);
                since = state.time;
            }
        }

        private int lowest(int zones) {
            for (int z = 0; z < zones; z++) {
                if (has(on, z)) {
                    return z;
                }
            }
            return NONE;
        }
    }

    /** The latest events, in rows that are written round and round. */
    private static final class Log {
        static final int SIZE = 50;

        int total;
        final int[] time = new int[SIZE];
        final int[] code = new int[SIZE];
        final int[] number = new int[SIZE];

        void add(int itsTime, int itsCode, int itsNumber) {
            int place = Math.floorMod(total, SIZE);
            time[place] = itsTime;
            code[place] = itsCode;
            number[place] = itsNumber;
            total++;
        }

        int kept() {
            return Math.min(total, SIZE);
        }

        /** Where an event stands in the rows; event 0 is the latest. */
        int place(int event) {
            return Math.floorMod(total - 1 - event, SIZE);
        }

        void copyFrom(Log other) {
            total = other.total;
            copyRow(other.time, time);
            copyRow(other.code, code);
            copyRow(other.number, number);
        }
    }

    /** Finds the command of each damper and fan (section 2); its rows are used again for each state. */
    private static final class Commands {
        final int[] ruled = new int[UNITS];
        final int[] command = new int[UNITS];
        final int[] source = new int[UNITS];

        void determine(State state) {
            Plant plant = state.plant;
            followRules(state);
            for (int d = 0; d < plant.dampers; d++) {
                settle(state, d, has(plant.normallyOpen, d) ? ON : OFF);
            }
            for (int f = 0; f < plant.fans; f++) {
                settle(state, FIRST_FAN + f, OFF);
            }
        }

        private void settle(State state, int unit, int normal) {
            if (state.key && state.switches[unit] != 0) {
                give(unit, state.switches[unit], BY_PANEL);
            } else if (ruled[unit] != 0) {
                give(unit, ruled[unit], BY_RULES);
            } else if (state.operator[unit] != 0) {
                give(unit, state.operator[unit], BY_OPERATOR);
            } else {
                give(unit, normal, BY_NORMAL);
            }
        }

        private void give(int unit, int itsCommand, int itsSource) {
            command[unit] = itsCommand;
            source[unit] = itsSource;
        }

        private void followRules(State state) {
            Arrays.fill(ruled, 0);
            if (state.alarms.on == 0) {
                return;
            }
            RuleBook book = state.plant.rules;
            for (int rule = 0; rule < book.rules; rule++) {
                if (holds(state, rule)) {
                    for (int i = book.actionStart(rule); i < book.actionEnd[rule]; i++) {
                        act(state.plant, book.action[i], book.actionNumber[i]);
                    }
                }
            }
        }

        private void act(Plant plant, int verb, int number) {
            switch (verb) {
                case ACT_OPEN: rule(number, ON); break;
                case ACT_SHUT: rule(number, OFF); break;
                case ACT_START: rule(FIRST_FAN + number, ON); break;
                case ACT_STOP: rule(FIRST_FAN + number, OFF); break;
                case ACT_EXTRACT: ruleZone(plant, number, OFF, ON); break;
                case ACT_PRESS: ruleZone(plant, number, ON, OFF); break;
                case ACT_CLOSE: ruleZone(plant, number, OFF, OFF); break;
                default: ruleZone(plant, number, ON, ON); break;
            }
        }

        private void ruleZone(Plant plant, int zone, int supplyCommand, int exhaustCommand) {
            for (int d = 0; d < plant.dampers; d++) {
                if (plant.damperZone[d] == zone) {
                    rule(d, plant.kind[d] == SUPPLY ? supplyCommand : exhaustCommand);
                }
            }
        }

        /** Only the first action for a damper or fan counts. */
        private void rule(int unit, int itsCommand) {
            if (ruled[unit] == 0) {
                ruled[unit] = itsCommand;
            }
        }

        /** Works off a condition in postfix order on a stack of bits, the top of which is the lowest bit. */
        boolean holds(State state, int rule) {
            RuleBook book = state.plant.rules;
            long stack = 0;
            for (int i = book.codeStart(rule); i < book.codeEnd[rule]; i++) {
                switch (book.code[i]) {
                    case NOT: stack ^= 1; break;
                    case AND: stack = stack >> 1 & (stack | ~1L); break;
                    case OR: stack = stack >> 1 | stack & 1; break;
                    default: stack = stack << 1 | (testHolds(state, book.code[i], book.codeNumber[i]) ? 1 : 0); break;
                }
            }
            return (stack & 1) != 0;
        }

        private static boolean testHolds(State state, int test, int number) {
            Alarms alarms = state.alarms;
            switch (test) {
                case TEST_ALARM: return has(alarms.on, number);
                case TEST_FIRST: return alarms.first == number;
                case TEST_AJAR: return has(state.openDoors, number);
                case TEST_AFTER: return alarms.on != 0 && state.time - alarms.since >= number;
                case TEST_RUNNING: return state.position[FIRST_FAN + number] == state.plant.span[FIRST_FAN + number];
                default: return state.trouble != 0;
            }
        }
    }

    /** Lets ticks pass (section 4); its rows are used again for each tick. */
    private static final class Engine {
        final Commands commands = new Commands();
        final int[] supplies = new int[MAX_ZONES];
        final int[] exhausts = new int[MAX_ZONES];
        final int[] gains = new int[MAX_ZONES];

        /** The number of ticks that passed: none does at the end of time. */
        int pass(State state, int ticks) {
            int passed = 0;
            while (passed < ticks && state.time < LAST_TIME) {
                commands.determine(state);
                state.time++;
                moveDampers(state);
                runFans(state);
                int air = state.stairAir() * state.throttle / 100;
                controlPressure(state, air);
                divideAir(state);
                moveSmoke(state, air);
                state.alarms.raise(state);
                passed++;
            }
            return passed;
        }

        private void moveDampers(State state) {
            Plant plant = state.plant;
            for (int d = 0; d < plant.dampers; d++) {
                int wanted = commands.command[d];
                int goal = wanted == ON ? plant.span[d] : 0;
                if (!has(state.faulty, d) && state.position[d] != goal) {
                    state.position[d] += wanted == ON ? 1 : -1;
                }
                boolean late = wanted == state.previous[d] && state.position[d] != goal;
                state.previous[d] = wanted;
                state.supervise(d, late, plant.span[d] + plant.proof, DAMPER_TROUBLE, d);
            }
        }

        private void runFans(State state) {
            Plant plant = state.plant;
            int proven = state.provenOpen();
            for (int fan = 0; fan < plant.fans; fan++) {
                int unit = FIRST_FAN + fan;
                boolean due = commands.command[unit] == ON && state.hasWay(fan, proven);
                changeLevel(state, fan, due && !has(state.faulty, unit));
                boolean late = due && state.position[unit] < plant.span[unit];
                state.supervise(unit, late, plant.span[unit] + plant.proof, FAN_TROUBLE, fan);
            }
        }

        private static void changeLevel(State state, int fan, boolean up) {
            int unit = FIRST_FAN + fan;
            int goal = up ? state.plant.span[unit] : 0;
            if (state.position[unit] == goal) {
                return;
            }
            state.position[unit] += up ? 1 : -1;
            if (state.position[unit] == goal) {
                state.log.add(state.time, up ? FAN_FULL : FAN_STILL, fan);
            }
        }

        private void controlPressure(State state, int air) {
            int target = state.plant.target;
            state.pressure = state.plant.pressureOf(air, state.openDoors);
            boolean low = state.pressure < target;
            if (state.pressure > target + 5) {
                state.throttle = Math.max(20, state.throttle - 5);
            } else if (low) {
                state.throttle = Math.min(100, state.throttle + 5);
            }
            state.supervise(STAIRS, low && isStairFanStarted(state.plant), 30, PRESSURE_TROUBLE, 0);
        }

        private boolean isStairFanStarted(Plant plant) {
            for (int fan = 0; fan < plant.fans; fan++) {
                if (plant.isStairFan(fan) && commands.command[FIRST_FAN + fan] == ON) {
                    return true;
                }
            }
            return false;
        }

        /** Finds the supply and the exhaust of each zone. */
        void divideAir(State state) {
            Plant plant = state.plant;
            int proven = state.provenOpen();
            Arrays.fill(supplies, 0);
            Arrays.fill(exhausts, 0);
            for (int fan = 0; fan < plant.fans; fan++) {
                int open = plant.list[fan] & proven;
                int n = Integer.bitCount(open);
                int share = n > 0 ? state.fanAir(fan) / n : 0;
                int[] row = plant.kind[FIRST_FAN + fan] == SUPPLY ? supplies : exhausts;
                for (int d = 0; d < plant.dampers; d++) {
                    row[plant.damperZone[d]] += has(open, d) ? share : 0;
                }
            }
        }

        private void moveSmoke(State state, int air) {
            int zones = state.plant.zones;
            for (int z = 0; z < zones; z++) {
                int fresh = Math.min(MAX_SMOKE, state.smoke[z] + state.sources[z]);
                int cleared = Math.min(1000, exhausts[z] + supplies[z] / 2);
                state.smoke[z] = fresh - fresh * cleared / 2000;
            }
            fillStair(state, air);
            Arrays.fill(gains, 0);
            for (int z = 0; z + 1 < zones; z++) {
                int up = flowBetween(state, z, z + 1);
                int down = flowBetween(state, z + 1, z);
                gains[z] += down - up;
                gains[z + 1] += up - down;
            }
            for (int z = 0; z < zones; z++) {
                state.smoke[z] = Math.max(0, Math.min(MAX_SMOKE, state.smoke[z] + gains[z]));
            }
        }

        private int flowBetween(State state, int from, int to) {
            int netFrom = supplies[from] - exhausts[from];
            int netTo = supplies[to] - exhausts[to];
            int part = Math.max(0, Math.min(500, 100 + netFrom - netTo));
            return state.smoke[from] * part / 5000;
        }

        /** The doors let in the smoke as it is before it moves between the zones. */
        private static void fillStair(State state, int air) {
            Plant plant = state.plant;
            int missing = Math.max(0, 12 - state.pressure);
            int let = 0;
            for (int door = 0; door < plant.doors; door++) {
                int width = has(state.openDoors, door) ? 20 : 1;
                let += state.smoke[plant.doorZone[door]] * missing * width / 2400;
            }
            int filled = Math.min(MAX_SMOKE, state.stairSmoke + let);
            state.stairSmoke = filled - filled * Math.min(1000, air) / 4000;
        }
    }
}
