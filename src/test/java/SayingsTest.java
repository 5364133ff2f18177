/** Promises 8 to 15: say, sayingOf, turn, age, over, until, reaches, drowns. */
public final class SayingsTest {
    private static final Due due = new Due();

    public static void main(String[] args) {
        say();
        sayIsFull();
        sayingOf();
        lastsAndReach();
        turn();
        age();
        overOfEachKind();
        over();
        until();
        reaches();
        drowns();
        wrongSayings();
        due.end();
    }

    private static void say() {
        EchoValley x = new EchoValley();
        due.due("8: the first", x.say(0, 0, 1, 0, 0), 0);
        due.due("8: the second", x.say(6, 15, 9, 9, 23), 1);
        int[][] wrong = {{-1, 0, 1, 0, 0}, {7, 0, 1, 0, 0}, {0, -1, 1, 0, 0}, {0, 16, 1, 0, 0}, {0, 0, 0, 0, 0},
            {0, 0, 10, 0, 0}, {0, 0, 1, -1, 0}, {0, 0, 1, 10, 0}, {0, 0, 1, 0, -1}, {0, 0, 1, 0, 24}};
        for (int[] w : wrong) {
            due.due("8: wrong", x.say(w[0], w[1], w[2], w[3], w[4]), Due.BEYOND);
        }
        for (int far : Due.FAR) {
            due.due("8: far", x.say(far, 0, 1, 0, 0), Due.BEYOND);
            due.due("8: far", x.say(0, far, 1, 0, 0), Due.BEYOND);
            due.due("8: far", x.say(0, 0, far, 0, 0), Due.BEYOND);
            due.due("8: far", x.say(0, 0, 1, far, 0), Due.BEYOND);
            due.due("8: far", x.say(0, 0, 1, 0, far), Due.BEYOND);
        }
        due.due("8: refused ones change nothing", x.count(1), 2);
    }

    private static void sayIsFull() {
        EchoValley x = new EchoValley();
        for (int i = 0; i < 40; i++) {
            due.due("8: say " + i, x.say(i % 7, i % 16, 1 + i % 9, i % 10, i % 24), i);
        }
        due.due("8: the 41st", x.say(0, 0, 1, 0, 0), Due.FULL);
        due.due("8: BEYOND ahead of FULL", x.say(7, 0, 1, 0, 0), Due.BEYOND);
        due.due("8: it stays", x.count(1), 40);
        due.due("8: the last one", x.sayingOf(39, 1), 7);
    }

    private static void sayingOf() {
        EchoValley x = new EchoValley();
        x.say(1, 2, 3, 4, 5);
        x.days(7);
        x.say(4, 15, 9, 8, 23);
        int[] one = {1, 2, 3, 4, 5, 0, 18, 1};
        int[] other = {4, 15, 9, 8, 23, 7, 18, 5};
        for (int what = 0; what < 8; what++) {
            due.due("9: of 0, " + what, x.sayingOf(0, what), one[what]);
            due.due("9: of 1, " + what, x.sayingOf(1, what), other[what]);
        }
        due.due("9: what -1", x.sayingOf(0, -1), Due.BEYOND);
        due.due("9: what 8", x.sayingOf(0, 8), Due.BEYOND);
        for (int far : Due.FAR) {
            due.due("9: what far", x.sayingOf(0, far), Due.BEYOND);
        }
    }

    private static void lastsAndReach() {
        for (int keep = 1; keep <= 20; keep++) {
            EchoValley x = new EchoValley();
            int[] lasts = {keep, 2 * keep, keep, keep, 2 * keep, keep + 5, keep <= 3 ? 1 : keep - 3};
            for (int kind = 0; kind < Due.KINDS; kind++) {
                x.say(kind, 0, 1, 0, 0);
            }
            x.keep(keep);
            for (int kind = 0; kind < Due.KINDS; kind++) {
                due.due("9: LASTS, keep " + keep + ", kind " + kind, x.sayingOf(kind, 6), lasts[kind]);
            }
        }
        for (int loud = 1; loud <= 9; loud++) {
            EchoValley x = new EchoValley();
            int by3 = loud / 3;
            int[] reach = {by3, by3, 0, by3, by3 + 2, by3, 0};
            for (int kind = 0; kind < Due.KINDS; kind++) {
                x.say(kind, 0, loud, 0, 0);
                due.due("9: REACH, loud " + loud + ", kind " + kind, x.sayingOf(kind, 7), reach[kind]);
            }
        }
    }

    private static void turn() {
        EchoValley x = new EchoValley();
        x.say(0, 3, 9, 0, 0);
        due.due("10: to HUSHED", x.turn(0, 6), 0);
        due.due("10: KIND", x.sayingOf(0, 0), 6);
        due.due("10: LASTS", x.sayingOf(0, 6), 6);
        due.due("10: REACH", x.sayingOf(0, 7), 0);
        due.due("10: WORD stays", x.sayingOf(0, 1), 3);
        due.due("10: to KEPT", x.turn(0, 1), 6);
        due.due("10: to the same", x.turn(0, 1), 1);
        due.due("10: kind -1", x.turn(0, -1), Due.BEYOND);
        due.due("10: kind 7", x.turn(0, 7), Due.BEYOND);
        for (int far : Due.FAR) {
            due.due("10: kind far", x.turn(0, far), Due.BEYOND);
        }
        due.due("10: it stays", x.sayingOf(0, 0), 1);
        x.say(3, 0, 1, 0, 0);
        due.due("10: drowned", x.over(0), 1);
        x.turn(0, 5);
        due.due("10: a CURSED one doesn't yield", x.over(0), Due.NONE);
        x.turn(1, 5);
        due.due("10: but to a CURSED one", x.over(0), 1);
        x.turn(0, 0);
        x.turn(1, 2);
        due.due("10: a LOW one drowns none", x.over(0), Due.NONE);
    }

    private static void age() {
        EchoValley x = new EchoValley();
        x.days(10);
        x.say(0, 0, 1, 0, 0);
        x.days(20);
        x.rain(9, true);
        x.rain(10, true);
        x.rain(12, true);
        x.rain(15, true);
        due.due("11: the next day", x.age(0, 11), 1);
        due.due("11: that day's rain counts", x.age(0, 12), 3);
        due.due("11: dry days", x.age(0, 14), 5);
        due.due("11: more rain", x.age(0, 15), 7);
        due.due("11: the last day", x.age(0, 99), 91);
        due.due("11: its own day", x.age(0, 10), Due.STATE);
        due.due("11: ahead of it", x.age(0, 0), Due.STATE);
        due.due("11: day -1", x.age(0, -1), Due.BEYOND);
        due.due("11: day 100", x.age(0, 100), Due.BEYOND);
        for (int far : Due.FAR) {
            due.due("11: day far", x.age(0, far), Due.BEYOND);
        }
        x.weather(0, 99, 100);
        due.due("11: rain on all days", x.age(0, 99), 178);
    }

    /** Each KIND behind each KIND, less loud, as loud, louder. */
    private static void overOfEachKind() {
        for (int a = 0; a < Due.KINDS; a++) {
            for (int b = 0; b < Due.KINDS; b++) {
                for (int loud = 4; loud <= 6; loud++) {
                    EchoValley x = new EchoValley();
                    x.say(a, 0, 5, 2, 3);
                    x.say(b, 0, loud, 2, 3);
                    boolean drowns = b == Due.OVER || b == Due.CURSED
                        || loud >= 5 && b != Due.LOW && b != Due.HUSHED;
                    boolean yields = a != Due.CURSED || b == Due.CURSED;
                    String run = "12: kind " + b + ", loud " + loud + " over kind " + a;
                    due.due(run, x.over(0), drowns && yields ? 1 : Due.NONE);
                    due.due(run + ", of the second", x.over(1), Due.NONE);
                    due.due(run + ", heard", x.until(0) == Due.NONE ? 1 : 0, drowns && yields ? 1 : 0);
                }
            }
        }
    }

    private static void over() {
        EchoValley x = new EchoValley();
        x.say(0, 0, 5, 2, 3);
        x.say(3, 0, 9, 3, 3);
        x.say(3, 0, 9, 2, 4);
        due.due("12: at another place or hour", x.over(0), Due.NONE);
        x.say(0, 0, 4, 2, 3);
        due.due("12: not so loud", x.over(0), Due.NONE);
        x.say(0, 0, 5, 2, 3);
        x.say(0, 0, 9, 2, 3);
        due.due("12: the first of several", x.over(0), 4);
        due.due("12: of one that drowns", x.over(4), 5);
        due.due("12: the last", x.over(5), Due.NONE);
    }

    private static void until() {
        EchoValley x = new EchoValley();
        x.say(0, 0, 1, 0, 0);
        due.due("13: nine days", x.until(0), 9);
        x.rain(5, true);
        due.due("13: less a day", x.until(0), 8);
        x.rain(8, true);
        due.due("13: a day that is too much", x.until(0), 7);
        x.keep(20);
        due.due("13: as it is kept now", x.until(0), 18);
        x.keep(1);
        due.due("13: a day", x.until(0), 1);
        x.rain(1, true);
        due.due("13: never", x.until(0), Due.NONE);
        x.turn(0, 1);
        due.due("13: two days, of rain", x.until(0), 1);
        EchoValley y = new EchoValley();
        y.say(0, 0, 1, 0, 0);
        y.days(3);
        y.say(3, 0, 1, 0, 0);
        due.due("13: till it is said over", y.until(0), 2);
        due.due("13: heard till then", y.heard(0, 200), 1);
        y.days(9);
        y.say(3, 0, 1, 0, 0);
        due.due("13: the first one counts", y.until(0), 2);
        due.due("13: said over on its last day", y.until(1), 11);
        EchoValley z = new EchoValley();
        Due.days(z, 95);
        z.say(0, 0, 1, 0, 0);
        z.days(4);
        z.say(0, 0, 1, 1, 0);
        due.due("13: 99 at most", z.until(0), 99);
        due.due("13: said on day 99", z.until(1), Due.NONE);
    }

    private static void reaches() {
        EchoValley x = new EchoValley();
        Due.row(x);
        x.days(2);
        x.say(0, 0, 6, 4, 0);
        x.say(2, 0, 9, 4, 1);
        x.say(4, 0, 9, 0, 2);
        due.due("14: its own day", x.reaches(0, 2), 0);
        due.due("14: ahead", x.reaches(0, 0), 0);
        due.due("14: two steps", x.reaches(0, 3), Due.set(2, 3, 4, 5, 6));
        due.due("14: low", x.reaches(1, 3), Due.set(4));
        due.due("14: carried", x.reaches(2, 3), Due.set(0, 1, 2, 3, 4, 5));
        due.due("14: its last day", x.reaches(0, 11), Due.set(2, 3, 4, 5, 6));
        due.due("14: too late", x.reaches(0, 12), 0);
        due.due("14: kept longer", x.reaches(2, 20), Due.set(0, 1, 2, 3, 4, 5));
        x.way(4, 5, false);
        due.due("14: cut off", x.reaches(0, 3), Due.set(2, 3, 4));
        x.say(3, 0, 1, 4, 0);
        due.due("14: said over", x.reaches(0, 3), 0);
        due.due("14: day -1", x.reaches(0, -1), Due.BEYOND);
        due.due("14: day 100", x.reaches(0, 100), Due.BEYOND);
        for (int far : Due.FAR) {
            due.due("14: day far", x.reaches(0, far), Due.BEYOND);
        }
    }

    private static void drowns() {
        for (int kind = 0; kind < Due.KINDS; kind++) {
            EchoValley x = new EchoValley();
            for (int loud = 1; loud <= 9; loud++) {
                x.say(kind, 0, loud, 0, 0);
                due.due("15: kind " + kind, x.drowns(loud - 1), kind == Due.CURSED ? Due.NONE : loud);
            }
        }
    }

    private static void wrongSayings() {
        EchoValley x = new EchoValley();
        x.say(0, 0, 1, 0, 0);
        for (int i = 0; i < Due.FAR.length + 2; i++) {
            int s = i < Due.FAR.length ? Due.FAR[i] : i == Due.FAR.length ? -1 : 1;
            due.due("9: sayingOf " + s, x.sayingOf(s, 0), Due.BEYOND);
            due.due("10: turn " + s, x.turn(s, 0), Due.BEYOND);
            due.due("11: age " + s, x.age(s, 5), Due.BEYOND);
            due.due("12: over " + s, x.over(s), Due.BEYOND);
            due.due("13: until " + s, x.until(s), Due.BEYOND);
            due.due("14: reaches " + s, x.reaches(s, 5), Due.BEYOND);
            due.due("15: drowns " + s, x.drowns(s), Due.BEYOND);
        }
    }
}
