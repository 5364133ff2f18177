/** Promises 1 to 7: a new object, way, steps, days, rain, weather, keep. */
public final class PlacesDaysTest {
    private static final Due due = new Due();

    public static void main(String[] args) {
        aNewObject();
        way();
        steps();
        days();
        rain();
        weather();
        weatherIsDrawn();
        keep();
        due.end();
    }

    private static void aNewObject() {
        EchoValley x = new EchoValley();
        int[] counts = {0, 0, 0, 0, 9, 0, 1, 0};
        for (int what = 0; what < counts.length; what++) {
            due.due("1: count(" + what + ")", x.count(what), counts[what]);
        }
        for (int which = -1; which <= 6; which++) {
            due.due("1: status(" + which + ")", x.status(which), 0);
        }
        for (int person = 0; person < 6; person++) {
            for (int hour = 0; hour < 24; hour++) {
                due.due("1: where", x.where(person, hour), -1);
            }
        }
        for (int a = 0; a < 10; a++) {
            for (int b = 0; b < 10; b++) {
                due.due("1: steps", x.steps(a, b), a == b ? 0 : Due.NONE);
            }
        }
        due.due("1: undo()", x.undo(), Due.NONE);
        due.due("1: tear()", x.tear(), 0);
        due.due("1: step(0)", x.step(0), Due.NONE);
        for (int spot = 0; spot < 10; spot++) {
            due.due("1: as", x.as(spot, 0), Due.MISSING);
        }
        for (int s = 0; s < 4; s++) {
            due.due("1: write", x.write(s, 0, 0), Due.MISSING);
        }
        due.due("1: wipe()", x.wipe(), 0);
    }

    private static void way() {
        EchoValley x = new EchoValley();
        due.due("2: way is made", x.way(3, 7, true), 0);
        due.due("2: it goes both ways", x.way(7, 3, true), 1);
        due.due("2: made twice counts once", x.count(2), 1);
        due.due("2: taken", x.way(7, 3, false), 1);
        due.due("2: gone in both ways", x.way(3, 7, false), 0);
        due.due("2: count", x.count(2), 0);
        x.way(0, 9, true);
        for (int place = 0; place < 10; place++) {
            due.due("2: to itself", x.way(place, place, true), Due.BEYOND);
        }
        for (int far : Due.FAR) {
            due.due("2: way(far, 0)", x.way(far, 0, true), Due.BEYOND);
            due.due("2: way(0, far)", x.way(0, far, false), Due.BEYOND);
        }
        due.due("2: way(-1, 0)", x.way(-1, 0, true), Due.BEYOND);
        due.due("2: way(0, 10)", x.way(0, 10, true), Due.BEYOND);
        due.due("2: refused ones change nothing", x.count(2), 1);
    }

    private static void steps() {
        EchoValley x = new EchoValley();
        Due.row(x);
        for (int a = 0; a < 10; a++) {
            for (int b = 0; b < 10; b++) {
                due.due("3: in a row", x.steps(a, b), Math.abs(a - b));
            }
        }
        x.way(0, 8, true);
        due.due("3: the fewest", x.steps(0, 9), 2);
        due.due("3: the fewest", x.steps(5, 0), 4);
        x.way(8, 9, false);
        due.due("3: cut off", x.steps(0, 9), Due.NONE);
        due.due("3: to itself", x.steps(9, 9), 0);
        due.due("3: steps(10, 0)", x.steps(10, 0), Due.BEYOND);
        due.due("3: steps(0, 10)", x.steps(0, 10), Due.BEYOND);
        due.due("3: steps(-1, -1)", x.steps(-1, -1), Due.BEYOND);
        for (int far : Due.FAR) {
            due.due("3: steps(far, 0)", x.steps(far, 0), Due.BEYOND);
            due.due("3: steps(0, far)", x.steps(0, far), Due.BEYOND);
        }
    }

    private static void days() {
        EchoValley x = new EchoValley();
        due.due("4: days(1)", x.days(1), 1);
        due.due("4: days(20)", x.days(20), 21);
        due.due("4: days(0)", x.days(0), Due.BEYOND);
        due.due("4: days(21)", x.days(21), Due.BEYOND);
        due.due("4: days(-1)", x.days(-1), Due.BEYOND);
        for (int far : Due.FAR) {
            due.due("4: days(far)", x.days(far), Due.BEYOND);
        }
        Due.days(x, 60);
        due.due("4: to 100", x.days(19), Due.STATE);
        due.due("4: it stays", x.count(0), 81);
        due.due("4: to 99", x.days(18), 99);
        due.due("4: beyond 99", x.days(1), Due.STATE);
        due.due("4: BEYOND ahead of STATE", x.days(21), Due.BEYOND);
        due.due("4: it stays", x.count(0), 99);
    }

    private static void rain() {
        EchoValley x = new EchoValley();
        due.due("5: rain(0)", x.rain(0, true), 0);
        due.due("5: rain(99)", x.rain(99, true), 0);
        due.due("5: again", x.rain(99, true), 1);
        due.due("5: count", x.count(3), 2);
        due.due("5: ends", x.rain(0, false), 1);
        due.due("5: ended", x.rain(0, false), 0);
        due.due("5: count", x.count(3), 1);
        due.due("5: rain(-1)", x.rain(-1, true), Due.BEYOND);
        due.due("5: rain(100)", x.rain(100, true), Due.BEYOND);
        for (int far : Due.FAR) {
            due.due("5: rain(far)", x.rain(far, true), Due.BEYOND);
        }
        due.due("5: count", x.count(3), 1);
        Due.days(x, 50);
        due.due("5: on a day gone by", x.rain(10, true), 0);
    }

    private static void weather() {
        EchoValley x = new EchoValley();
        due.due("6: all", x.weather(0, 99, 100), 100);
        due.due("6: count", x.count(3), 100);
        due.due("6: none on some", x.weather(10, 19, 0), 0);
        due.due("6: others stay", x.count(3), 90);
        due.due("6: ahead", x.rain(9, true), 1);
        due.due("6: behind", x.rain(20, true), 1);
        due.due("6: one day", x.weather(15, 15, 100), 1);
        int z = x.count(6);
        int[][] wrong = {{-1, 5, 50}, {5, 100, 50}, {5, 4, 50}, {0, 1, -1}, {0, 1, 101}, {100, 100, 0}, {-1, -1, 0}};
        for (int[] w : wrong) {
            due.due("6: wrong", x.weather(w[0], w[1], w[2]), Due.BEYOND);
        }
        for (int far : Due.FAR) {
            due.due("6: far", x.weather(far, 99, 0), Due.BEYOND);
            due.due("6: far", x.weather(0, far, 0), Due.BEYOND);
            due.due("6: far", x.weather(0, 99, far), Due.BEYOND);
        }
        due.due("6: refused ones draw nothing", x.count(6), z);
        due.due("6: refused ones change nothing", x.count(3), 91);
    }

    private static void weatherIsDrawn() {
        for (int seed : new int[] {1, 0, -1, 12345, Integer.MIN_VALUE, Integer.MAX_VALUE}) {
            for (int chance : new int[] {1, 30, 50, 99}) {
                EchoValley x = new EchoValley();
                x.seed(seed);
                x.weather(20, 40, 100);
                x.seed(seed);
                int z = seed;
                int wet = 0;
                boolean[] is = new boolean[100];
                for (int day = 30; day <= 60; day++) {
                    z = z * 1103515245 + 12345;
                    is[day] = (z >>> 8) % 100 < chance;
                    wet += is[day] ? 1 : 0;
                }
                due.due("6: drawn", x.weather(30, 60, chance), wet);
                due.due("6: z", x.count(6), z);
                for (int day = 30; day <= 60; day++) {
                    due.due("6: day " + day, x.rain(day, is[day]), is[day] ? 1 : 0);
                }
                due.due("6: others stay", x.count(3), wet + 10);
            }
        }
    }

    private static void keep() {
        EchoValley x = new EchoValley();
        due.due("7: keep(20)", x.keep(20), 9);
        due.due("7: keep(1)", x.keep(1), 20);
        due.due("7: keep(0)", x.keep(0), Due.BEYOND);
        due.due("7: keep(21)", x.keep(21), Due.BEYOND);
        due.due("7: keep(-1)", x.keep(-1), Due.BEYOND);
        for (int far : Due.FAR) {
            due.due("7: keep(far)", x.keep(far), Due.BEYOND);
        }
        due.due("7: count", x.count(4), 1);
    }
}
