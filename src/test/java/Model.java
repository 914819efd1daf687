import java.util.ArrayList;
import java.util.HashMap;
import java.util.List;
import java.util.Map;
import java.util.TreeSet;

/**
 * The document once more, written apart from the program and as plainly as can be, for RandomRunsTest to compare
 * the program with. It copies freely and throws freely, which the program may not.
 */
final class Model {
    /** An error in a text. */
    static final class TextError extends RuntimeException {
        private static final long serialVersionUID = 1L;
        final int position;
        final int code;

        TextError(int position, int code) {
            this.position = position;
            this.code = code;
        }
    }

    record Token(int position, String text, boolean bad) {
        boolean isNumber() {
            return !bad && !text.isEmpty() && Character.isDigit(text.charAt(0));
        }

        int number() {
            return Integer.parseInt(text);
        }
    }

    interface Test {
        boolean holds(Model m);
    }

    record Action(String verb, int number) {
    }

    static final class Rule {
        Test condition;
        final List<Action> actions = new ArrayList<>();
    }

    static final class Damper {
        boolean supply;
        int zone;
        int travel;
        boolean normallyOpen;
        int position;
        boolean jammed;
        boolean trouble;
        int timer;
        Boolean before;
        int panel;
        int operator;

        boolean provenOpen() {
            return position == travel;
        }

        Damper copy() {
            Damper d = new Damper();
            d.supply = supply;
            d.zone = zone;
            d.travel = travel;
            d.normallyOpen = normallyOpen;
            d.position = position;
            d.jammed = jammed;
            d.trouble = trouble;
            d.timer = timer;
            d.before = before;
            d.panel = panel;
            d.operator = operator;
            return d;
        }
    }

    static final class Fan {
        String kind;
        int flow;
        int ramp;
        List<Integer> list = new ArrayList<>();
        int level;
        boolean broken;
        boolean trouble;
        int timer;
        int panel;
        int operator;

        int air() {
            return flow * level / ramp;
        }

        boolean isStair() {
            return kind.equals("stair");
        }

        Fan copy() {
            Fan f = new Fan();
            f.kind = kind;
            f.flow = flow;
            f.ramp = ramp;
            f.list = list;
            f.level = level;
            f.broken = broken;
            f.trouble = trouble;
            f.timer = timer;
            f.panel = panel;
            f.operator = operator;
            return f;
        }
    }

    static final class Door {
        int zone;
        int closed;
        int opened;
        boolean open;

        int area() {
            return open ? opened : closed;
        }

        Door copy() {
            Door d = new Door();
            d.zone = zone;
            d.closed = closed;
            d.opened = opened;
            d.open = open;
            return d;
        }
    }

    static final class Zone {
        int smoke;
        int source;
        boolean alarm;
        boolean disabled;

        Zone copy() {
            Zone z = new Zone();
            z.smoke = smoke;
            z.source = source;
            z.alarm = alarm;
            z.disabled = disabled;
            return z;
        }
    }

    /** A plant and its state. */
    List<Zone> zones = new ArrayList<>(List.of(new Zone()));
    List<Damper> dampers = new ArrayList<>();
    List<Fan> fans = new ArrayList<>();
    List<Door> doors = new ArrayList<>();
    List<Rule> rules = new ArrayList<>();
    int target = 50;
    int proof = 10;
    int time;
    int pressure;
    int throttle = 100;
    int stairSmoke;
    boolean key;
    int first = -1;
    int alarmTime;
    boolean pressureTrouble;
    int pressureTimer;
    List<int[]> log = new ArrayList<>();

    /** What is not of the state: the input and the slots. */
    private StringBuilder buffer = new StringBuilder();
    private int errorCode;
    private int errorPosition = -1;
    private Model[] slots = new Model[3];

    private void take(Model from) {
        zones = new ArrayList<>();
        from.zones.forEach(z -> zones.add(z.copy()));
        dampers = new ArrayList<>();
        from.dampers.forEach(d -> dampers.add(d.copy()));
        fans = new ArrayList<>();
        from.fans.forEach(f -> fans.add(f.copy()));
        doors = new ArrayList<>();
        from.doors.forEach(d -> doors.add(d.copy()));
        rules = from.rules;
        target = from.target;
        proof = from.proof;
        time = from.time;
        pressure = from.pressure;
        throttle = from.throttle;
        stairSmoke = from.stairSmoke;
        key = from.key;
        first = from.first;
        alarmTime = from.alarmTime;
        pressureTrouble = from.pressureTrouble;
        pressureTimer = from.pressureTimer;
        log = new ArrayList<>(from.log);
    }

    private Model copy() {
        Model m = new Model();
        m.take(this);
        return m;
    }

    // ---- the text

    private static final class Parser {
        private final List<Token> tokens;
        private int at;
        private int open;
        private final Model m = new Model();
        private int items;

        Parser(String text) {
            tokens = tokensOf(text);
        }

        private static List<Token> tokensOf(String text) {
            List<Token> found = new ArrayList<>();
            int i = 0;
            while (i < text.length()) {
                char c = text.charAt(i);
                int end = i + 1;
                if (c == ' ' || c == '\n') {
                    i++;
                    continue;
                }
                boolean bad = false;
                if (letter(c) || digit(c)) {
                    while (end < text.length() && (letter(c) ? letter(text.charAt(end)) : digit(text.charAt(end)))) {
                        end++;
                    }
                    bad = i > 0 && (letter(text.charAt(i - 1)) || digit(text.charAt(i - 1)));
                    bad = bad || digit(c) && end - i > 3;
                } else if (";,()".indexOf(c) < 0) {
                    bad = true;
                }
                found.add(new Token(i, text.substring(i, end), bad));
                i = end;
            }
            found.add(new Token(text.length(), "", false));
            return found;
        }

        private static boolean letter(char c) {
            return c >= 'a' && c <= 'z';
        }

        private static boolean digit(char c) {
            return c >= '0' && c <= '9';
        }

        private Token now() {
            return tokens.get(at);
        }

        private boolean is(String word) {
            return !now().bad() && now().text().equals(word);
        }

        private void error(int code) {
            throw new TextError(now().position(), code);
        }

        private String oneOf(String... words) {
            for (String word : words) {
                if (is(word)) {
                    at++;
                    return word;
                }
            }
            error(1);
            return "";
        }

        private int number(int low, int high) {
            if (!now().isNumber()) {
                error(1);
            }
            int n = now().number();
            if (n < low || n > high) {
                error(2);
            }
            at++;
            return n;
        }

        Model plant() {
            boolean target = false;
            boolean proof = false;
            while (!now().text().isEmpty()) {
                if (is("zones") && items > 0 || is("target") && target || is("proof") && proof) {
                    error(1);
                }
                limit("damper", m.dampers.size(), 16);
                limit("fan", m.fans.size(), 6);
                limit("door", m.doors.size(), 10);
                limit("rule", m.rules.size(), 12);
                String word = oneOf("zones", "damper", "fan", "door", "target", "proof", "rule");
                switch (word) {
                    case "zones" -> {
                        int n = number(1, 8);
                        while (m.zones.size() < n) {
                            m.zones.add(new Zone());
                        }
                    }
                    case "damper" -> damper();
                    case "fan" -> fan();
                    case "door" -> door();
                    case "target" -> {
                        target = true;
                        m.target = number(1, 200);
                    }
                    case "proof" -> {
                        proof = true;
                        m.proof = number(0, 999);
                    }
                    default -> rule();
                }
                oneOf(";");
                items++;
            }
            return m;
        }

        private void limit(String word, int size, int most) {
            if (is(word) && size == most) {
                error(3);
            }
        }

        private void damper() {
            Damper d = new Damper();
            d.supply = oneOf("supply", "exhaust").equals("supply");
            d.zone = number(0, m.zones.size() - 1);
            d.travel = number(1, 30);
            if (is("open")) {
                oneOf("open");
                d.normallyOpen = true;
                d.position = d.travel;
            }
            m.dampers.add(d);
        }

        private void fan() {
            Fan f = new Fan();
            f.kind = oneOf("supply", "exhaust", "stair");
            f.flow = number(1, 999);
            f.ramp = number(1, 30);
            while (now().isNumber()) {
                int n = now().number();
                if (n >= m.dampers.size() || f.list.contains(n)
                    || !f.kind.equals(m.dampers.get(n).supply ? "supply" : "exhaust")) {
                    error(2);
                }
                f.list.add(n);
                at++;
            }
            m.fans.add(f);
        }

        private void door() {
            Door d = new Door();
            d.zone = number(0, m.zones.size() - 1);
            d.closed = number(1, 50);
            d.opened = number(51, 500);
            m.doors.add(d);
        }

        private void rule() {
            Rule r = new Rule();
            r.condition = condition();
            oneOf("do");
            r.actions.add(action(1));
            while (is(",")) {
                at++;
                r.actions.add(action(r.actions.size() + 1));
            }
            m.rules.add(r);
        }

        private Test condition() {
            Test left = both();
            while (is("or")) {
                at++;
                Test a = left;
                Test b = both();
                left = s -> a.holds(s) || b.holds(s);
            }
            return left;
        }

        private Test both() {
            Test left = test();
            while (is("and")) {
                at++;
                Test a = left;
                Test b = test();
                left = s -> a.holds(s) && b.holds(s);
            }
            return left;
        }

        private Test test() {
            if ((is("not") || is("(")) && open == 6) {
                error(3);
            }
            String word = oneOf("not", "(", "alarm", "first", "ajar", "after", "running", "trouble");
            switch (word) {
                case "not": {
                    open++;
                    Test t = test();
                    open--;
                    return s -> !t.holds(s);
                }
                case "(": {
                    open++;
                    Test t = condition();
                    oneOf(")");
                    open--;
                    return t;
                }
                case "alarm": {
                    int z = number(0, m.zones.size() - 1);
                    return s -> s.zones.get(z).alarm;
                }
                case "first": {
                    int z = number(0, m.zones.size() - 1);
                    return s -> s.first == z;
                }
                case "ajar": {
                    int d = number(0, m.doors.size() - 1);
                    return s -> s.doors.get(d).open;
                }
                case "after": {
                    int n = number(0, 999);
                    return s -> s.first >= 0 && s.time >= s.alarmTime + n;
                }
                case "running": {
                    int f = number(0, m.fans.size() - 1);
                    return s -> s.fans.get(f).level == s.fans.get(f).ramp;
                }
                default:
                    return Model::anyTrouble;
            }
        }

        private Action action(int ordinal) {
            int before = at;
            String verb = oneOf("open", "shut", "start", "stop", "extract", "press", "close", "purge");
            if (ordinal == 9) {
                at = before;
                error(3);
            }
            int size = switch (verb) {
                case "open", "shut" -> m.dampers.size();
                case "start", "stop" -> m.fans.size();
                default -> m.zones.size();
            };
            return new Action(verb, number(0, size - 1));
        }
    }

    boolean anyTrouble() {
        return pressureTrouble || dampers.stream().anyMatch(d -> d.trouble) || fans.stream().anyMatch(f -> f.trouble);
    }

    // ---- commands: each is {1 or 2, source}

    private Map<String, Integer> ruled() {
        Map<String, Integer> given = new HashMap<>();
        if (zones.stream().noneMatch(z -> z.alarm)) {
            return given;
        }
        for (Rule r : rules) {
            if (!r.condition.holds(this)) {
                continue;
            }
            for (Action a : r.actions) {
                switch (a.verb()) {
                    case "open" -> given.putIfAbsent("d" + a.number(), 1);
                    case "shut" -> given.putIfAbsent("d" + a.number(), 2);
                    case "start" -> given.putIfAbsent("f" + a.number(), 1);
                    case "stop" -> given.putIfAbsent("f" + a.number(), 2);
                    default -> {
                        for (int d = 0; d < dampers.size(); d++) {
                            if (dampers.get(d).zone == a.number()) {
                                boolean supply = dampers.get(d).supply;
                                boolean opens = a.verb().equals("purge") || a.verb().equals("extract") && !supply
                                    || a.verb().equals("press") && supply;
                                given.putIfAbsent("d" + d, opens ? 1 : 2);
                            }
                        }
                    }
                }
            }
        }
        return given;
    }

    private int[] commandOf(Map<String, Integer> ruled, String name, int panel, int operator, int normal) {
        if (key && panel != 0) {
            return new int[] {panel, 3};
        }
        if (ruled.containsKey(name)) {
            return new int[] {ruled.get(name), 2};
        }
        return operator != 0 ? new int[] {operator, 1} : new int[] {normal, 0};
    }

    private List<int[]> damperCommands() {
        Map<String, Integer> ruled = ruled();
        List<int[]> found = new ArrayList<>();
        for (int d = 0; d < dampers.size(); d++) {
            Damper it = dampers.get(d);
            found.add(commandOf(ruled, "d" + d, it.panel, it.operator, it.normallyOpen ? 1 : 2));
        }
        return found;
    }

    private List<int[]> fanCommands() {
        Map<String, Integer> ruled = ruled();
        List<int[]> found = new ArrayList<>();
        for (int f = 0; f < fans.size(); f++) {
            found.add(commandOf(ruled, "f" + f, fans.get(f).panel, fans.get(f).operator, 2));
        }
        return found;
    }

    // ---- a tick

    private void record(int code, int number) {
        log.add(new int[] {time, code, number});
        if (log.size() > 50) {
            log.remove(0);
        }
    }

    private boolean hasProvenDamper(Fan f) {
        return f.list.stream().anyMatch(d -> dampers.get(d).provenOpen());
    }

    private void oneTick() {
        List<int[]> forDampers = damperCommands();
        List<int[]> forFans = fanCommands();
        time++;
        for (int d = 0; d < dampers.size(); d++) {
            stepB(d, forDampers.get(d)[0] == 1);
        }
        boolean stairStarted = false;
        for (int f = 0; f < fans.size(); f++) {
            boolean start = forFans.get(f)[0] == 1;
            stairStarted |= start && fans.get(f).isStair();
            stepC(f, start);
        }
        int q = stairAir() * throttle / 100;
        stepD(q, stairStarted);
        stepE(q);
        stepF();
    }

    private void stepB(int number, boolean open) {
        Damper d = dampers.get(number);
        if (!d.jammed) {
            if (open && d.position < d.travel) {
                d.position++;
            } else if (!open && d.position > 0) {
                d.position--;
            }
        }
        boolean changed = d.before == null || d.before != open;
        d.before = open;
        if (changed || (open ? d.position == d.travel : d.position == 0)) {
            d.timer = 0;
        } else {
            d.timer++;
            if (d.timer == d.travel + proof && !d.trouble) {
                d.trouble = true;
                record(1, number);
            }
        }
    }

    private void stepC(int number, boolean start) {
        Fan f = fans.get(number);
        boolean way = f.isStair() || hasProvenDamper(f);
        int before = f.level;
        if (start && !f.broken && way) {
            f.level = Math.min(f.ramp, f.level + 1);
        } else {
            f.level = Math.max(0, f.level - 1);
        }
        if (f.level != before && f.level == f.ramp) {
            record(4, number);
        }
        if (f.level != before && f.level == 0) {
            record(5, number);
        }
        if (start && way && f.level < f.ramp) {
            f.timer++;
            if (f.timer == f.ramp + proof && !f.trouble) {
                f.trouble = true;
                record(2, number);
            }
        } else {
            f.timer = 0;
        }
    }

    private int stairAir() {
        return fans.stream().filter(Fan::isStair).mapToInt(Fan::air).sum();
    }

    private int areas() {
        return doors.stream().mapToInt(Door::area).sum();
    }

    private void stepD(int q, boolean stairStarted) {
        int a = areas();
        pressure = doors.isEmpty() ? 0 : Math.min(999, q * q / (a * a));
        if (pressure > target + 5) {
            throttle = Math.max(20, throttle - 5);
        } else if (pressure < target) {
            throttle = Math.min(100, throttle + 5);
        }
        if (stairStarted && pressure < target) {
            pressureTimer++;
            if (pressureTimer == 30 && !pressureTrouble) {
                pressureTrouble = true;
                record(3, 0);
            }
        } else {
            pressureTimer = 0;
        }
    }

    private int airOf(int zone, boolean supply) {
        int sum = 0;
        for (Fan f : fans) {
            int n = (int) f.list.stream().filter(d -> dampers.get(d).provenOpen()).count();
            for (int d : f.list) {
                Damper it = dampers.get(d);
                if (it.provenOpen() && it.zone == zone && it.supply == supply) {
                    sum += f.air() / n;
                }
            }
        }
        return sum;
    }

    private int net(int zone) {
        return airOf(zone, true) - airOf(zone, false);
    }

    private int flow(int[] s, int a, int b) {
        if (b < 0 || b >= s.length) {
            return 0;
        }
        return s[a] * Math.max(0, Math.min(500, 100 + net(a) - net(b))) / 5000;
    }

    private void stepE(int q) {
        int[] s = new int[zones.size()];
        for (int z = 0; z < s.length; z++) {
            int smoke = Math.min(1000, zones.get(z).smoke + zones.get(z).source);
            int m = Math.min(1000, airOf(z, false) + airOf(z, true) / 2);
            s[z] = smoke - smoke * m / 2000;
        }
        for (int z = 0; z < s.length; z++) {
            int after = s[z] - flow(s, z, z - 1) - flow(s, z, z + 1);
            after += z > 0 ? flow(s, z - 1, z) : 0;
            after += z + 1 < s.length ? flow(s, z + 1, z) : 0;
            zones.get(z).smoke = Math.max(0, Math.min(1000, after));
        }
        if (pressure < 12) {
            for (Door d : doors) {
                stairSmoke += s[d.zone] * (12 - pressure) * (d.open ? 20 : 1) / 2400;
            }
            stairSmoke = Math.min(1000, stairSmoke);
        }
        stairSmoke -= stairSmoke * Math.min(1000, q) / 4000;
    }

    private void stepF() {
        boolean none = zones.stream().noneMatch(z -> z.alarm);
        for (int z = 0; z < zones.size(); z++) {
            Zone it = zones.get(z);
            if (it.smoke >= 100 && !it.alarm && !it.disabled) {
                it.alarm = true;
                record(0, z);
                if (none) {
                    none = false;
                    first = z;
                    alarmTime = time;
                }
            }
        }
    }

    private int pass(int n) {
        int passed = 0;
        for (int i = 0; i < n; i++) {
            if (time < 9999) {
                oneTick();
                passed++;
            }
        }
        return passed;
    }

    private int sumOfSmoke() {
        return stairSmoke + zones.stream().mapToInt(z -> z.smoke).sum();
    }

    // ---- the face

    int feed(int... words) {
        if (buffer.length() + 20 > 900) {
            return -4;
        }
        for (int w : words) {
            for (int shift = 24; shift >= 0; shift -= 8) {
                buffer.append((char) (w >> shift & 255));
            }
        }
        return buffer.length();
    }

    int load(int length) {
        if (length < 0 || length > buffer.length()) {
            return -2;
        }
        String text = buffer.substring(0, length);
        buffer = new StringBuilder();
        Parser p = new Parser(text);
        try {
            take(p.plant());
        } catch (TextError e) {
            errorCode = e.code;
            errorPosition = e.position;
            return -4;
        }
        errorCode = 0;
        errorPosition = -1;
        slots = new Model[3];
        return p.items;
    }

    int errorCode() {
        return errorCode;
    }

    int errorPosition() {
        return errorPosition;
    }

    int count(int what) {
        return switch (what) {
            case 0 -> zones.size();
            case 1 -> dampers.size();
            case 2 -> fans.size();
            case 3 -> doors.size();
            case 4 -> rules.size();
            case 5 -> target;
            case 6 -> proof;
            case 7 -> rules.stream().mapToInt(r -> r.actions.size()).sum();
            default -> -2;
        };
    }

    private static boolean in(int number, List<?> list) {
        return number >= 0 && number < list.size();
    }

    private static int toInt(boolean b) {
        return b ? 1 : 0;
    }

    int setSource(int zone, int rate) {
        if (!in(zone, zones)) {
            return -1;
        }
        if (rate < 0 || rate > 50) {
            return -2;
        }
        int before = zones.get(zone).source;
        zones.get(zone).source = rate;
        return before;
    }

    int setDetector(int zone, boolean disabled) {
        if (!in(zone, zones)) {
            return -1;
        }
        boolean before = zones.get(zone).disabled;
        zones.get(zone).disabled = disabled;
        return toInt(before != disabled);
    }

    int setDoor(int door, boolean open) {
        if (!in(door, doors)) {
            return -1;
        }
        boolean before = doors.get(door).open;
        doors.get(door).open = open;
        return toInt(before != open);
    }

    int jam(int damper, boolean jammed) {
        if (!in(damper, dampers)) {
            return -1;
        }
        boolean before = dampers.get(damper).jammed;
        dampers.get(damper).jammed = jammed;
        return toInt(before != jammed);
    }

    int breakFan(int fan, boolean broken) {
        if (!in(fan, fans)) {
            return -1;
        }
        boolean before = fans.get(fan).broken;
        fans.get(fan).broken = broken;
        return toInt(before != broken);
    }

    int turnKey(boolean on) {
        if (key == on) {
            return 0;
        }
        key = on;
        record(on ? 6 : 7, 0);
        return 1;
    }

    private static boolean badCommand(int c) {
        return c < 0 || c > 2;
    }

    int switchDamper(int damper, int position) {
        if (!in(damper, dampers)) {
            return -1;
        }
        if (badCommand(position)) {
            return -2;
        }
        int before = dampers.get(damper).panel;
        dampers.get(damper).panel = position;
        return before;
    }

    int switchFan(int fan, int position) {
        if (!in(fan, fans)) {
            return -1;
        }
        if (badCommand(position)) {
            return -2;
        }
        int before = fans.get(fan).panel;
        fans.get(fan).panel = position;
        return before;
    }

    int operateDamper(int damper, int command) {
        if (!in(damper, dampers)) {
            return -1;
        }
        if (badCommand(command)) {
            return -2;
        }
        int before = dampers.get(damper).operator;
        dampers.get(damper).operator = command;
        return before;
    }

    int operateFan(int fan, int command) {
        if (!in(fan, fans)) {
            return -1;
        }
        if (badCommand(command)) {
            return -2;
        }
        int before = fans.get(fan).operator;
        fans.get(fan).operator = command;
        return before;
    }

    int tick(int n) {
        return n < 1 || n > 200 ? -2 : pass(n);
    }

    int reset() {
        dampers.forEach(d -> {
            d.trouble = false;
            d.timer = 0;
        });
        fans.forEach(f -> {
            f.trouble = false;
            f.timer = 0;
        });
        pressureTrouble = false;
        pressureTimer = 0;
        TreeSet<Integer> on = new TreeSet<>();
        for (int z = 0; z < zones.size(); z++) {
            Zone it = zones.get(z);
            it.alarm = it.alarm && it.smoke >= 100;
            if (it.alarm) {
                on.add(z);
            }
        }
        if (on.isEmpty()) {
            first = -1;
        } else if (!on.contains(first)) {
            first = on.first();
            alarmTime = time;
        }
        return on.size();
    }

    int time() {
        return time;
    }

    int smoke(int zone) {
        return in(zone, zones) ? zones.get(zone).smoke : -1;
    }

    int stair(int what) {
        return switch (what) {
            case 0 -> pressure;
            case 1 -> throttle;
            case 2 -> stairSmoke;
            case 3 -> areas();
            case 4 -> stairAir();
            case 5 -> toInt(pressureTrouble);
            default -> -2;
        };
    }

    int alarm(int zone) {
        return in(zone, zones) ? toInt(zones.get(zone).alarm) : -1;
    }

    int firstAlarm() {
        return first < 0 ? -4 : first;
    }

    int supply(int zone) {
        return in(zone, zones) ? airOf(zone, true) : -1;
    }

    int exhaust(int zone) {
        return in(zone, zones) ? airOf(zone, false) : -1;
    }

    int damper(int damper, int what) {
        if (!in(damper, dampers)) {
            return -1;
        }
        Damper d = dampers.get(damper);
        int[] command = damperCommands().get(damper);
        return switch (what) {
            case 0 -> d.position;
            case 1 -> toInt(command[0] == 1);
            case 2 -> command[1];
            case 3 -> toInt(d.trouble);
            case 4 -> d.timer;
            case 5 -> d.zone;
            case 6 -> d.travel;
            default -> -2;
        };
    }

    int fan(int fan, int what) {
        if (!in(fan, fans)) {
            return -1;
        }
        Fan f = fans.get(fan);
        int[] command = fanCommands().get(fan);
        return switch (what) {
            case 0 -> f.level;
            case 1 -> toInt(command[0] == 1);
            case 2 -> command[1];
            case 3 -> toInt(f.trouble);
            case 4 -> f.timer;
            case 5 -> f.air();
            case 6 -> toInt(command[0] == 1 && !f.isStair() && !hasProvenDamper(f));
            default -> -2;
        };
    }

    int ruleHolds(int rule) {
        return in(rule, rules) ? toInt(rules.get(rule).condition.holds(this)) : -1;
    }

    int commandsBy(int source) {
        if (source < 0 || source > 3) {
            return -2;
        }
        List<int[]> all = damperCommands();
        all.addAll(fanCommands());
        return (int) all.stream().filter(c -> c[1] == source).count();
    }

    int events() {
        return log.size();
    }

    int event(int event, int what) {
        if (event < 0 || event >= log.size()) {
            return -1;
        }
        return what < 0 || what > 2 ? -2 : log.get(log.size() - 1 - event)[what];
    }

    int smokeAfter(int zone, int n) {
        if (!in(zone, zones)) {
            return -1;
        }
        if (n < 0 || n > 200) {
            return -2;
        }
        Model trial = copy();
        trial.pass(n);
        return trial.smoke(zone);
    }

    int allSmokeAfter(int n) {
        if (n < 0 || n > 200) {
            return -2;
        }
        Model trial = copy();
        trial.pass(n);
        return trial.sumOfSmoke();
    }

    int pressureAfter(int n) {
        if (n < 0 || n > 200) {
            return -2;
        }
        Model trial = copy();
        trial.pass(n);
        return trial.pressure;
    }

    int clearAfter(int limit) {
        if (limit < 1 || limit > 1000) {
            return -2;
        }
        Model trial = copy();
        for (int n = 0; n <= 200; n++) {
            if (trial.zones.stream().allMatch(z -> z.smoke < limit)) {
                return n;
            }
            trial.pass(1);
        }
        return -4;
    }

    int bestSwitch(int n) {
        if (n < 1 || n > 60) {
            return -2;
        }
        int units = dampers.size() + fans.size();
        int best = 0;
        int least = Integer.MAX_VALUE;
        for (int choice = 0; choice <= 2 * units; choice++) {
            Model trial = copy();
            trial.key = true;
            int unit = (choice - 1) / 2;
            int position = choice % 2 == 1 ? 1 : 2;
            if (choice > 0 && unit < dampers.size()) {
                trial.dampers.get(unit).panel = position;
            } else if (choice > 0) {
                trial.fans.get(unit - dampers.size()).panel = position;
            }
            trial.pass(n);
            if (trial.sumOfSmoke() < least) {
                least = trial.sumOfSmoke();
                best = choice == 0 ? 0 : 10 * (1 + unit) + position;
            }
        }
        return best;
    }

    int purgeTime(int zone) {
        if (!in(zone, zones)) {
            return -1;
        }
        Model trial = copy();
        trial.key = true;
        for (Damper d : trial.dampers) {
            d.panel = d.zone == zone ? 1 : d.panel;
        }
        for (Fan f : trial.fans) {
            f.panel = f.list.stream().anyMatch(d -> dampers.get(d).zone == zone) ? 1 : f.panel;
        }
        for (int n = 0; n <= 200; n++) {
            if (trial.smoke(zone) < 100) {
                return n;
            }
            trial.pass(1);
        }
        return -4;
    }

    int pressureWith(int set) {
        if (set < 0 || set >= 1 << doors.size()) {
            return -2;
        }
        int q = fans.stream().filter(Fan::isStair).mapToInt(f -> f.flow).sum();
        int a = 0;
        for (int d = 0; d < doors.size(); d++) {
            a += (set & 1 << d) != 0 ? doors.get(d).opened : doors.get(d).closed;
        }
        return doors.isEmpty() ? 0 : Math.min(999, q * q / (a * a));
    }

    int mostOpenDoors() {
        int most = -4;
        for (int set = 0; set < 1 << doors.size(); set++) {
            if (pressureWith(set) >= target) {
                most = Math.max(most, Integer.bitCount(set));
            }
        }
        return most;
    }

    int worstDoor() {
        int openNow = 0;
        for (int d = 0; d < doors.size(); d++) {
            openNow |= doors.get(d).open ? 1 << d : 0;
        }
        int worst = -4;
        for (int d = 0; d < doors.size(); d++) {
            if (!doors.get(d).open
                && (worst < 0 || pressureWith(openNow | 1 << d) < pressureWith(openNow | 1 << worst))) {
                worst = d;
            }
        }
        return worst;
    }

    int keep(int slot) {
        if (slot < 0 || slot > 2) {
            return -1;
        }
        slots[slot] = copy();
        return time;
    }

    int restore(int slot) {
        if (slot < 0 || slot > 2) {
            return -1;
        }
        if (slots[slot] == null) {
            return -4;
        }
        take(slots[slot]);
        return time;
    }
}
