import java.util.function.Supplier;

/**
 * For each number of each act: the least and the greatest that is allowed, with what the act answers then; none between
 * is BEYOND, and the next one beyond each is, as are those far from both.
 */
public final class BoundsTest {
    private static final Due due = new Due();

    /** An act with one number left open. */
    private interface OfNumber {
        int on(EchoValley x, int v);
    }

    public static void main(String[] args) {
        placesAndDays();
        weather();
        todayIs99AtMost();
        say();
        sayings();
        sayingsByDays();
        heard();
        which();
        whens();
        people();
        hoursOfAPerson();
        needs();
        walks();
        lastHourOfAWalk();
        feed();
        spots();
        sheets();
        numbersOfASheet();
        copy();
        countAndStatus();
        due.end();
    }

    private static void bounds(String what, Supplier<EchoValley> ready, OfNumber act,
            int least, int atLeast, int greatest, int atGreatest) {
        due.due(what + " " + least, act.on(ready.get(), least), atLeast);
        due.due(what + " " + greatest, act.on(ready.get(), greatest), atGreatest);
        for (int v = least; v <= greatest; v++) {
            due.due(what + " " + v + " is BEYOND", act.on(ready.get(), v) == Due.BEYOND ? 1 : 0, 0);
        }
        due.due(what + " " + (least - 1), act.on(ready.get(), least - 1), Due.BEYOND);
        due.due(what + " " + (greatest + 1), act.on(ready.get(), greatest + 1), Due.BEYOND);
        for (int far : Due.FAR) {
            if (far < least || far > greatest) {
                due.due(what + " " + far, act.on(ready.get(), far), Due.BEYOND);
            }
        }
    }

    /**
     * A row of PLACES. TODAY is 2; of DAY 1 are SAYING 0 (ONCE, LOUD 9, at 4 in HOUR 0), 1 (LOW, at 0 in HOUR 23),
     * 2 (LOW, at 9 in HOUR 23) and 3 (OVER, LOUD 9, at 4 in HOUR 0, so OVER 0). PERSON 0 is at 0 all HOURS, PERSON 5
     * at 9, others are away. SHEET 0 and 3 have three numbers of 8 bits.
     */
    private static EchoValley valley() {
        EchoValley x = new EchoValley();
        Due.row(x);
        x.days(1);
        x.say(Due.ONCE, 0, 9, 4, 0);
        x.say(Due.LOW, 15, 2, 0, 23);
        x.say(Due.LOW, 15, 2, 9, 23);
        x.say(Due.OVER, 1, 9, 4, 0);
        x.days(1);
        x.person(0, 0, 0, 23);
        x.person(5, 9, 0, 23);
        x.sheet(0, 8, 3);
        x.sheet(3, 8, 3);
        x.hold(0, 1);
        x.hold(9, 2);
        return x;
    }

    // ---- places, days

    private static void placesAndDays() {
        bounds("2: way from", BoundsTest::valley, (x, v) -> x.way(v, v == 0 ? 1 : v - 1, true), 0, 1, 9, 1);
        bounds("2: way to", BoundsTest::valley, (x, v) -> x.way(v < 5 ? 9 : 0, v, true), 0, 0, 9, 0);
        bounds("3: steps from", BoundsTest::valley, (x, v) -> x.steps(v, 0), 0, 0, 9, 9);
        bounds("3: steps to", BoundsTest::valley, (x, v) -> x.steps(9, v), 0, 9, 9, 0);
        bounds("4: days", BoundsTest::valley, (x, v) -> x.days(v), 1, 3, 20, 22);
        bounds("5: rain", BoundsTest::valley, (x, v) -> x.rain(v, true), 0, 0, 99, 0);
        bounds("7: keep", BoundsTest::valley, (x, v) -> x.keep(v), 1, 9, 20, 9);
    }

    private static void weather() {
        bounds("6: weather from", BoundsTest::valley, (x, v) -> x.weather(v, 99, 100), 0, 100, 99, 1);
        bounds("6: weather to", BoundsTest::valley, (x, v) -> x.weather(0, v, 100), 0, 1, 99, 100);
        bounds("6: weather's chance", BoundsTest::valley, (x, v) -> x.weather(0, 99, v), 0, 0, 100, 100);
        bounds("6: weather's second no less", BoundsTest::valley, (x, v) -> x.weather(40, v, 100), 40, 1, 99, 60);
        bounds("6: weather's first no more", BoundsTest::valley, (x, v) -> x.weather(v, 40, 100), 0, 41, 40, 1);
    }

    private static void todayIs99AtMost() {
        for (int today = 79; today < 99; today++) {
            for (int n = 1; n <= 20; n++) {
                EchoValley x = new EchoValley();
                Due.days(x, today);
                due.due("4: " + n + " days on day " + today, x.days(n), today + n > 99 ? Due.STATE : today + n);
                due.due("4: TODAY behind it", x.count(0), today + n > 99 ? today : today + n);
            }
        }
    }

    // ---- sayings

    private static void say() {
        bounds("8: kind", BoundsTest::valley, (x, v) -> x.say(v, 0, 1, 0, 0), 0, 4, 6, 4);
        bounds("8: word", BoundsTest::valley, (x, v) -> x.say(0, v, 1, 0, 0), 0, 4, 15, 4);
        bounds("8: loud", BoundsTest::valley, (x, v) -> x.say(0, 0, v, 0, 0), 1, 4, 9, 4);
        bounds("8: place", BoundsTest::valley, (x, v) -> x.say(0, 0, 1, v, 0), 0, 4, 9, 4);
        bounds("8: hour", BoundsTest::valley, (x, v) -> x.say(0, 0, 1, 0, v), 0, 4, 23, 4);
    }

    private static void sayings() {
        bounds("9: sayingOf", BoundsTest::valley, (x, v) -> x.sayingOf(v, 3), 0, 4, 3, 4);
        bounds("9: what", BoundsTest::valley, (x, v) -> x.sayingOf(0, v), 0, 0, 7, 3);
        bounds("10: turn", BoundsTest::valley, (x, v) -> x.turn(v, 1), 0, Due.ONCE, 3, Due.OVER);
        bounds("10: to a kind", BoundsTest::valley, (x, v) -> x.turn(3, v), 0, Due.OVER, 6, Due.OVER);
        bounds("11: age", BoundsTest::valley, (x, v) -> x.age(v, 5), 0, 4, 3, 4);
        bounds("12: over", BoundsTest::valley, (x, v) -> x.over(v), 0, 3, 3, Due.NONE);
        bounds("13: until", BoundsTest::valley, (x, v) -> x.until(v), 0, Due.NONE, 3, 10);
        bounds("14: reaches", BoundsTest::valley, (x, v) -> x.reaches(v, 2), 0, 0, 3, Due.set(1, 2, 3, 4, 5, 6, 7));
        bounds("15: drowns", BoundsTest::valley, (x, v) -> x.drowns(v), 0, 9, 3, 9);
        bounds("26: who", BoundsTest::valley, (x, v) -> x.who(v), 0, 0, 3, 0);
        bounds("27: said", BoundsTest::valley, (x, v) -> x.said(v), 0, 0, 3, 0);
        due.due("26: who of 1", valley().who(1), Due.set(0));
        due.due("27: said of 2", valley().said(2), Due.set(5));
    }

    private static void sayingsByDays() {
        bounds("11: age on a day", BoundsTest::valley, (x, v) -> x.age(3, v), 0, Due.STATE, 99, 98);
        bounds("14: reaches on a day", BoundsTest::valley, (x, v) -> x.reaches(1, v), 0, 0, 99, 0);
        for (int own = 0; own <= 99; own++) {
            EchoValley x = new EchoValley();
            Due.days(x, own);
            x.say(Due.ONCE, 0, 1, 0, 0);
            due.due("11: on its own day " + own, x.age(0, own), Due.STATE);
            due.due("11: on the next day", x.age(0, own + 1), own == 99 ? Due.BEYOND : 1);
            due.due("11: on the last day", x.age(0, 99), own == 99 ? Due.STATE : 99 - own);
        }
    }

    // ---- what is heard

    private static void heard() {
        bounds("16: heard at", BoundsTest::valley, (x, v) -> x.heard(v, 223), 0, 1, 9, 1);
        bounds("17: which at", BoundsTest::valley, (x, v) -> x.which(v, 223, 0), 0, 1, 9, 2);
        bounds("18: words at", BoundsTest::valley, (x, v) -> x.words(v, 223), 0, Due.set(15), 9, Due.set(15));
        bounds("19: plain at", BoundsTest::valley, (x, v) -> x.plain(v, 223), 0, 2, 9, 2);
        bounds("21: full at", BoundsTest::valley, (x, v) -> x.full(v, 2), 0, 1, 9, 1);
        bounds("21: full on", BoundsTest::valley, (x, v) -> x.full(0, v), 0, 0, 99, 0);
    }

    private static void which() {
        bounds("17: which of one", BoundsTest::valley, (x, v) -> x.which(0, 223, v), 0, 1, 39, Due.NONE);
        bounds("17: which of none", BoundsTest::valley, (x, v) -> x.which(5, 223, v), 0, Due.NONE, 39, Due.NONE);
        for (int n = 1; n <= 40; n++) {
            EchoValley x = new EchoValley();
            for (int s = 0; s < n; s++) {
                x.say(Due.LOW, 0, 1, 7, 7);
            }
            due.due("17: the first of " + n, x.which(7, 107, 0), 0);
            due.due("17: the last of " + n, x.which(7, 107, n - 1), n - 1);
            due.due("17: one more than " + n, x.which(7, 107, n), n == 40 ? Due.BEYOND : Due.NONE);
        }
    }

    /** When: 100 times a DAY of 0 to 99, and an HOUR of 0 to 23, alone. */
    private static void whens() {
        for (int when = -130; when <= 10130; when++) {
            boolean is = when >= 0 && when <= 9923 && when % 100 <= 23;
            EchoValley x = new EchoValley();
            x.sheet(0, 8, 0);
            due.due("16: heard, when " + when, x.heard(0, when), is ? 0 : Due.BEYOND);
            due.due("20: alone, when " + when, x.alone(when), is ? 1023 : Due.BEYOND);
            due.due("30: walk, when " + when, x.walk(0, when, 1), is ? 0 : Due.BEYOND);
            due.due("43: judge, when " + when, x.judge(0, when), is ? 0 : Due.BEYOND);
            due.due("17: which, when " + when, x.which(0, when, 0), is ? Due.NONE : Due.BEYOND);
            due.due("18: words, when " + when, x.words(0, when), is ? 0 : Due.BEYOND);
            due.due("19: plain, when " + when, x.plain(0, when), is ? Due.NONE : Due.BEYOND);
        }
    }

    // ---- people

    private static void people() {
        bounds("22: person", BoundsTest::valley, (x, v) -> x.person(v, 3, 0, 23), 0, 1, 5, 1);
        bounds("22: at", BoundsTest::valley, (x, v) -> x.person(0, v, 0, 23), -1, 1, 9, 1);
        bounds("23: where", BoundsTest::valley, (x, v) -> x.where(v, 0), 0, 0, 5, 9);
        bounds("23: in an hour", BoundsTest::valley, (x, v) -> x.where(5, v), 0, 9, 23, 9);
        bounds("24: hears", BoundsTest::valley, (x, v) -> x.hears(v, 2), 0, 1, 5, 1);
        bounds("24: on a day", BoundsTest::valley, (x, v) -> x.hears(0, v), 0, 0, 99, 0);
        bounds("25: first", BoundsTest::valley, (x, v) -> x.first(v, 15), 0, 3, 5, 3);
        bounds("25: a word", BoundsTest::valley, (x, v) -> x.first(0, v), 0, Due.NONE, 15, 3);
        bounds("28: tell her", BoundsTest::valley, (x, v) -> x.tell(v, v == 1 ? 2 : 1), 0, 10000, 5, 10009);
        bounds("28: not him", BoundsTest::valley, (x, v) -> x.tell(v == 0 ? 5 : 0, v), 0, 10009, 5, 10000);
        for (int person = 0; person <= 5; person++) {
            due.due("28: one and the same", valley().tell(person, person), Due.BEYOND);
        }
    }

    private static void hoursOfAPerson() {
        bounds("22: from", BoundsTest::valley, (x, v) -> x.person(0, 3, v, 23), 0, 1, 23, 1);
        bounds("22: to", BoundsTest::valley, (x, v) -> x.person(0, 3, 0, v), 0, 1, 23, 1);
        for (int from = 0; from <= 23; from++) {
            for (int to = 0; to <= 23; to++) {
                EchoValley x = new EchoValley();
                due.due("22: from " + from + " to " + to, x.person(2, 7, from, to), to < from ? Due.BEYOND : 1);
                for (int hour = 0; hour <= 23; hour++) {
                    due.due("22: from " + from + " to " + to + ", in " + hour, x.where(2, hour),
                        from <= hour && hour <= to ? 7 : -1);
                }
            }
        }
    }

    private static void needs() {
        bounds("29: needs", EchoValley::new, (x, v) -> x.needs(v), 0, Due.STATE, 99, 11);
        for (int today = 0; today <= 99; today++) {
            EchoValley x = new EchoValley();
            Due.days(x, today);
            due.due("29: ahead of day " + today, x.needs(today - 1), today == 0 ? Due.BEYOND : Due.STATE);
            due.due("29: on day " + today, x.needs(today), Due.STATE);
            due.due("29: behind day " + today, x.needs(today + 1), today == 99 ? Due.BEYOND : 1);
        }
    }

    // ---- walks

    private static void walks() {
        bounds("30: from a place", BoundsTest::valley, (x, v) -> x.walk(v, 223, 1), 0, 1, 9, 1);
        bounds("30: n", BoundsTest::valley, (x, v) -> x.walk(0, 200, v), 1, 0, 24, 1);
        bounds("31: step", EchoValley::new, (x, v) -> x.step(v), 0, Due.NONE, 23, Due.NONE);
    }

    private static void lastHourOfAWalk() {
        for (int hour = 0; hour <= 23; hour++) {
            for (int n = 1; n <= 24; n++) {
                EchoValley x = valley();
                boolean is = hour + n - 1 <= 23;
                boolean hearsLast = hour + n - 1 == 23;
                String run = "30: " + n + " hours from " + hour;
                due.due(run, x.walk(0, 200 + hour, n), is ? hearsLast ? 1 : 0 : Due.BEYOND);
                due.due(run + ", the last step", x.step(n - 1), is ? 0 : Due.NONE);
                due.due(run + ", behind it", x.step(n), n == 24 ? Due.BEYOND : Due.NONE);
            }
        }
    }

    private static void feed() {
        bounds("34: n", BoundsTest::valley, (x, v) -> x.feed(0, v), 1, 1, 4, 4);
    }

    // ---- spots, sheets

    private static void spots() {
        bounds("37: spot", BoundsTest::valley, (x, v) -> x.hold(v, 0), 0, 1, 9, 1);
        bounds("37: holds", BoundsTest::valley, (x, v) -> x.hold(0, v), -1, 1, 3, 1);
        bounds("38: spot", BoundsTest::valley, (x, v) -> x.as(v, 0), 0, 1, 9, 2);
        bounds("38: as a kind", BoundsTest::valley, (x, v) -> x.as(0, v), 0, 1, 6, Due.KIND);
    }

    private static void sheets() {
        bounds("39: sheet", BoundsTest::valley, (x, v) -> x.sheet(v, 16, 7), 0, 7, 3, 7);
        bounds("40: sheet", BoundsTest::valley, (x, v) -> x.write(v, 0, 0), 0, 1, 3, 1);
        bounds("40: number", BoundsTest::valley, (x, v) -> x.write(3, v, 0), 0, 1, 2, 1);
        bounds("41: of a sheet", BoundsTest::valley, (x, v) -> x.copy(v, 0, 0, 0, 3), 0, 3, 3, 3);
        bounds("41: to a sheet", BoundsTest::valley, (x, v) -> x.copy(0, 0, v, 0, 3), 0, 3, 3, 3);
        bounds("42: sheet", BoundsTest::valley, (x, v) -> x.load(v, 0), 0, 3, 3, 3);
        bounds("42: person", BoundsTest::valley, (x, v) -> x.load(0, v), 0, 3, 5, 3);
        bounds("43: sheet", BoundsTest::valley, (x, v) -> x.judge(v, 223), 0, 2, 3, 2);
        for (int bits = -1; bits <= 65; bits++) {
            boolean is = bits == 0 || bits == 8 || bits == 16 || bits == 32;
            due.due("39: " + bits + " bits", valley().sheet(1, bits, 5), !is ? Due.BEYOND : bits == 0 ? 0 : 5);
        }
        for (int n = -2; n <= 42; n++) {
            int answer = n < 0 ? Due.SIZE : n > 40 ? Due.BEYOND : n;
            for (int bits : new int[] {8, 16, 32}) {
                EchoValley x = valley();
                due.due("39: " + n + " numbers of " + bits + " bits", x.sheet(1, bits, n), answer);
                boolean is = answer >= 0;
                due.due("40: the last one", x.write(1, n - 1, 0), !is ? Due.MISSING : n == 0 ? Due.BEYOND : 1);
                due.due("40: one behind it", x.write(1, n, 0), is ? Due.BEYOND : Due.MISSING);
            }
            due.due("39: missing, n " + n, valley().sheet(1, 0, n), Math.min(answer, 0));
        }
    }

    /** A number that is -1 to 9 comes, the next one beyond each ends it; what is 0 to 9 is a PLACE of a WALK. */
    private static void numbersOfASheet() {
        for (int v = -4; v <= 13; v++) {
            for (int bits : new int[] {8, 16, 32}) {
                EchoValley x = new EchoValley();
                x.sheet(2, bits, 2);
                x.write(2, 0, v);
                x.write(2, 1, 4);
                boolean comes = v >= -1 && v <= 9;
                due.due("42: a number " + v, x.load(2, 3), comes ? 2 : 0);
                due.due("42: that place", x.where(3, 0), comes ? v : -1);
                due.due("42: the one behind it", x.where(3, 1), comes ? 4 : -1);
                boolean isPlace = v >= 0 && v <= 9;
                x.say(Due.LOW, 0, 1, isPlace ? v : 0, 5);
                x.say(Due.LOW, 0, 1, 4, 6);
                x.way(4, isPlace && v != 4 ? v : 0, true);
                due.due("43: a number " + v, x.judge(2, 105), isPlace ? 0 : 1);
                x.write(2, 0, 4);
                x.write(2, 1, v);
                x.say(Due.LOW, 0, 1, 4, 5);
                x.say(Due.LOW, 0, 1, isPlace ? v : 0, 6);
                due.due("43: a second number " + v, x.judge(2, 105), isPlace ? 0 : 2);
            }
        }
    }

    private static void copy() {
        for (int from = -1; from <= 4; from++) {
            for (int to = -1; to <= 6; to++) {
                for (int n = -1; n <= 6; n++) {
                    EchoValley x = new EchoValley();
                    x.sheet(0, 32, 3);
                    x.sheet(1, 32, 5);
                    boolean is = from >= 0 && to >= 0 && n >= 0 && from + n <= 3 && to + n <= 5;
                    due.due("41: " + n + " from " + from + " to " + to, x.copy(0, from, 1, to, n), is ? n : Due.BEYOND);
                    is = from >= 0 && to >= 0 && n >= 0 && from + n <= 5 && to + n <= 3;
                    due.due("41: back", x.copy(1, from, 0, to, n), is ? n : Due.BEYOND);
                }
            }
        }
    }

    private static void countAndStatus() {
        bounds("47: count", BoundsTest::valley, (x, v) -> x.count(v), 0, 2, 7, 3);
        bounds("48: status", BoundsTest::valley, (x, v) -> x.status(v), -1, 0, 6, 0);
    }
}
