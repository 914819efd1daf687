/** The five examples of the document. */
final class ExamplesTest {
    private static SmokeControl x;

    private static void due(String call, int got, int want) {
        Check.due(call, got, want);
    }

    public static void main(String[] args) {
        first();
        second();
        third();
        fourth();
        fifth();
        Check.end();
    }

    private static void first() {
        x = new SmokeControl();
        due("1: feed", x.feed(1684106608, 1701978213, 2020106613, 1936990256, 540162918), 20);
        due("1: feed", x.feed(1634607205, 2020106613, 1936990261, 808460338, 540031841), 40);
        due("1: load(39)", x.load(39), 2);
        due("1: operateFan(0, 1)", x.operateFan(0, 1), 0);
        due("1: fan(0, 6)", x.fan(0, 6), 1);
        due("1: operateDamper(0, 1)", x.operateDamper(0, 1), 0);
        due("1: tick(3)", x.tick(3), 3);
        due("1: damper(0, 0)", x.damper(0, 0), 2);
        due("1: fan(0, 5)", x.fan(0, 5), 500);
    }

    private static void second() {
        x = new SmokeControl();
        due("2: feed", x.feed(2054123109, 1931489851, 2054123109, 1931490107, 1633771873), 20);
        due("2: load(16)", x.load(16), -4);
        due("2: errorCode()", x.errorCode(), 1);
        due("2: errorPosition()", x.errorPosition(), 8);
        due("2: count(0)", x.count(0), 1);
    }

    private static void third() {
        x = new SmokeControl();
        due("3: feed", x.feed(1684106608, 1701978227, 1970303084, 2032152608, 825979509), 20);
        due("3: feed", x.feed(1818566753, 1818325613, 540024932, 1864396656, 1701716016), 40);
        due("3: feed", x.feed(996237665, 1633771873, 1633771873, 1633771873, 1633771873), 60);
        due("3: load(41)", x.load(41), 2);
        due("3: setSource(0, 50)", x.setSource(0, 50), 0);
        due("3: tick(2)", x.tick(2), 2);
        due("3: alarm(0)", x.alarm(0), 1);
        due("3: damper(0, 2)", x.damper(0, 2), 2);
        due("3: turnKey(true)", x.turnKey(true), 1);
        due("3: switchDamper(0, 2)", x.switchDamper(0, 2), 0);
        due("3: damper(0, 2)", x.damper(0, 2), 3);
    }

    private static void fourth() {
        x = new SmokeControl();
        due("4: feed", x.feed(1717661216, 1937006953, 1914712880, 807416123, 1685024626), 20);
        due("4: feed", x.feed(540024881, 807418160, 996237665, 1633771873, 1633771873), 40);
        due("4: load(29)", x.load(29), 2);
        due("4: pressureWith(0)", x.pressureWith(0), 900);
        due("4: pressureWith(1)", x.pressureWith(1), 11);
        due("4: mostOpenDoors()", x.mostOpenDoors(), 0);
        due("4: operateFan(0, 1)", x.operateFan(0, 1), 0);
        due("4: tick(1)", x.tick(1), 1);
        due("4: stair(0)", x.stair(0), 900);
        due("4: stair(1)", x.stair(1), 95);
    }

    private static void fifth() {
        x = new SmokeControl();
        due("5: feed", x.feed(1684106608, 1701978213, 2020106613, 1936990256, 540228464), 20);
        due("5: feed", x.feed(1919905638, 540097377, 1633771873, 1633771873, 1633771873), 40);
        due("5: load(27)", x.load(27), 2);
        due("5: jam(0, true)", x.jam(0, true), 1);
        due("5: operateDamper(0, 1)", x.operateDamper(0, 1), 0);
        due("5: tick(5)", x.tick(5), 5);
        due("5: damper(0, 3)", x.damper(0, 3), 1);
        due("5: event(0, 1)", x.event(0, 1), 1);
        due("5: reset()", x.reset(), 0);
        due("5: damper(0, 3)", x.damper(0, 3), 0);
    }
}
