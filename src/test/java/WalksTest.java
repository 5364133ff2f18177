/** Promises 30 to 33: walk, step, crowd, seed. */
public final class WalksTest {
    private static final Due due = new Due();

    public static void main(String[] args) {
        walk();
        ofSeveralTheFirst();
        aDetourThatPays();
        step();
        crowd();
        seed();
        wrongInputs();
        due.end();
    }

    private static void dueSteps(String run, EchoValley x, int... places) {
        for (int i = 0; i < places.length; i++) {
            due.due(run + ", step(" + i + ")", x.step(i), places[i]);
        }
        if (places.length < 24) {
            due.due(run + ", behind its end", x.step(places.length), Due.NONE);
        }
    }

    private static void walk() {
        EchoValley x = new EchoValley();
        Due.row(x);
        x.say(Due.LOW, 0, 1, 2, 5);
        x.say(Due.LOW, 0, 1, 2, 5);
        x.say(Due.LOW, 0, 1, 1, 6);
        x.say(Due.LOW, 0, 1, 3, 6);
        x.say(Due.LOW, 0, 1, 3, 7);
        due.due("30: its own day", x.walk(2, 5, 3), 0);
        dueSteps("30: its own day", x, 2, 1, 0);
        due.due("30: two, one, one", x.walk(2, 105, 3), 4);
        dueSteps("30: two, one, one", x, 2, 3, 3);
        due.due("30: two hours", x.walk(2, 105, 2), 3);
        dueSteps("30: two hours", x, 2, 1);
        due.due("30: an hour", x.walk(2, 105, 1), 2);
        dueSteps("30: an hour", x, 2);
        due.due("30: from elsewhere", x.walk(4, 105, 3), 2);
        dueSteps("30: from elsewhere", x, 4, 3, 3);
        due.due("30: from afar", x.walk(9, 105, 3), 0);
        dueSteps("30: from afar", x, 9, 8, 7);
        due.due("30: from hour 6 on", x.walk(3, 106, 2), 2);
        dueSteps("30: from hour 6 on", x, 3, 3);
        due.due("30: on a later day", x.walk(2, 905, 3), 4);
        due.due("30: too late", x.walk(2, 1005, 3), 0);
        x.way(2, 3, false);
        due.due("30: no way", x.walk(2, 105, 3), 3);
        dueSteps("30: no way", x, 2, 1, 0);
        due.due("30: all hours", x.walk(0, 100, 24), 3);
        due.due("30: all hours, its end", x.step(23), 0);
    }

    private static void ofSeveralTheFirst() {
        EchoValley x = new EchoValley();
        x.way(5, 9, true);
        x.way(5, 6, true);
        x.way(6, 2, true);
        x.way(9, 0, true);
        x.say(Due.LOW, 0, 1, 2, 10);
        x.say(Due.LOW, 0, 1, 0, 10);
        due.due("30: two that are alike", x.walk(5, 108, 3), 1);
        dueSteps("30: the lesser place in the first hour", x, 5, 6, 2);
        x.way(5, 0, true);
        due.due("30: a shorter one", x.walk(5, 108, 3), 1);
        dueSteps("30: the lesser place again", x, 5, 0, 0);
        EchoValley y = new EchoValley();
        due.due("30: alone it stays", y.walk(4, 0, 3), 0);
        dueSteps("30: alone it stays", y, 4, 4, 4);
    }

    /** What is near at hand is passed by for what comes later. */
    private static void aDetourThatPays() {
        EchoValley x = new EchoValley();
        Due.row(x);
        x.say(Due.LOW, 0, 1, 4, 1);
        x.say(Due.LOW, 0, 1, 4, 2);
        for (int i = 0; i < 3; i++) {
            x.say(Due.LOW, 0, 1, 7, 3);
        }
        due.due("30: the detour", x.walk(4, 100, 4), 3);
        dueSteps("30: the detour", x, 4, 5, 6, 7);
        due.due("30: without it", x.walk(4, 100, 3), 2);
        dueSteps("30: without it", x, 4, 4, 4);
        x.say(Due.ONCE, 0, 3, 5, 1);
        due.due("30: on the way, and at its begin's place", x.walk(4, 100, 4), 4);
        dueSteps("30: on the way", x, 4, 5, 6, 7);
    }

    private static void step() {
        EchoValley x = new EchoValley();
        due.due("31: none was told", x.step(0), Due.NONE);
        due.due("31: none was told", x.step(23), Due.NONE);
        due.due("31: i -1", x.step(-1), Due.BEYOND);
        due.due("31: i 24", x.step(24), Due.BEYOND);
        for (int far : Due.FAR) {
            due.due("31: i far", x.step(far), Due.BEYOND);
        }
        x.walk(3, 0, 5);
        dueSteps("31: told", x, 3, 3, 3, 3, 3);
        due.due("31: refused", x.walk(4, 0, 25), Due.BEYOND);
        dueSteps("31: a refused one isn't told", x, 3, 3, 3, 3, 3);
        x.walk(6, 0, 2);
        dueSteps("31: the latest", x, 6, 6);
        x.way(6, 1, true);
        dueSteps("31: as it was told", x, 6, 6);
    }

    private static void crowd() {
        EchoValley x = new EchoValley();
        due.due("32: all are away", x.crowd(), Due.NONE);
        x.person(3, 9, 23, 23);
        due.due("32: one", x.crowd(), 2309);
        x.person(0, 8, 20, 23);
        due.due("32: the first hour", x.crowd(), 2008);
        x.person(1, 2, 20, 20);
        due.due("32: the least place", x.crowd(), 2002);
        x.person(1, 8, 22, 22);
        due.due("32: two", x.crowd(), 2208);
        x.person(4, 9, 23, 23);
        x.person(5, 9, 23, 23);
        due.due("32: three", x.crowd(), 2309);
        for (int person = 0; person < 6; person++) {
            x.person(person, 0, 0, 0);
        }
        due.due("32: all", x.crowd(), 0);
        for (int person = 0; person < 6; person++) {
            x.person(person, -1, 0, 23);
        }
        due.due("32: all are away again", x.crowd(), Due.NONE);
    }

    private static void seed() {
        EchoValley x = new EchoValley();
        due.due("33: 1 at first", x.seed(77), 1);
        due.due("33: what it was", x.seed(-1000001), 77);
        due.due("33: it may look as a finding", x.count(6), -1000001);
        due.due("33: it may look as a finding", x.seed(Integer.MIN_VALUE), -1000001);
        due.due("33: it may be any int", x.seed(0), Integer.MIN_VALUE);
        due.due("33: it is none", x.status(-1), 0);
        x.weather(0, 0, 50);
        due.due("33: a draw", x.seed(5), 12345);
    }

    private static void wrongInputs() {
        EchoValley x = new EchoValley();
        due.due("30: n 0", x.walk(0, 0, 0), Due.BEYOND);
        due.due("30: n 25", x.walk(0, 0, 25), Due.BEYOND);
        due.due("30: the last hour is 24", x.walk(0, 1, 24), Due.BEYOND);
        due.due("30: the last hour is 24", x.walk(0, 23, 2), Due.BEYOND);
        due.due("30: hour 24", x.walk(0, 24, 1), Due.BEYOND);
        due.due("30: day 100", x.walk(0, 10000, 1), Due.BEYOND);
        due.due("30: when -1", x.walk(0, -1, 1), Due.BEYOND);
        due.due("30: place -1", x.walk(-1, 0, 1), Due.BEYOND);
        due.due("30: place 10", x.walk(10, 0, 1), Due.BEYOND);
        for (int far : Due.FAR) {
            due.due("30: place far", x.walk(far, 0, 1), Due.BEYOND);
            due.due("30: when far", x.walk(0, far, 1), Due.BEYOND);
            due.due("30: n far", x.walk(0, 0, far), Due.BEYOND);
            due.due("30: n far", x.walk(0, 9923, far), Due.BEYOND);
        }
        due.due("31: none was told", x.step(0), Due.NONE);
        due.due("30: the last hour of all", x.walk(9, 9923, 1), 0);
        dueSteps("30: the last hour of all", x, 9);
    }
}
