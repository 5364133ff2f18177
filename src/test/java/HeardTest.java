/** Promises 16 to 21: heard, which, words, plain, alone, full. */
public final class HeardTest {
    private static final Due due = new Due();

    public static void main(String[] args) {
        atAPlace();
        untilWhen();
        alone();
        full();
        all40();
        wrongInputs();
        due.end();
    }

    /** Six SAYINGS of DAY 1 in a row of PLACES, four of them in HOUR 7. */
    private static EchoValley valley() {
        EchoValley x = new EchoValley();
        Due.row(x);
        x.days(1);
        x.say(Due.ONCE, 3, 2, 0, 7);
        x.say(Due.ONCE, 5, 3, 1, 7);
        x.say(Due.LOW, 15, 9, 1, 7);
        x.say(Due.CARRIED, 0, 1, 3, 7);
        x.say(Due.ONCE, 1, 9, 0, 8);
        x.say(Due.HUSHED, 2, 9, 9, 23);
        return x;
    }

    private static void atAPlace() {
        EchoValley x = valley();
        due.due("16: 0 and 1 of the next place", x.heard(0, 207), 2);
        due.due("16: three", x.heard(1, 207), 3);
        due.due("16: two", x.heard(2, 207), 2);
        due.due("16: one", x.heard(5, 207), 1);
        due.due("16: none", x.heard(6, 207), 0);
        due.due("16: another hour", x.heard(3, 208), 1);
        due.due("16: another hour", x.heard(4, 208), 0);
        due.due("16: no hour of any", x.heard(0, 209), 0);
        due.due("16: the last hour", x.heard(9, 223), 1);
        int[] three = {1, 2, 3};
        for (int i = 0; i < 3; i++) {
            due.due("17: which " + i, x.which(1, 207, i), three[i]);
        }
        due.due("17: no more", x.which(1, 207, 3), Due.NONE);
        due.due("17: no more", x.which(1, 207, 39), Due.NONE);
        due.due("17: none", x.which(6, 207, 0), Due.NONE);
        due.due("18: words", x.words(1, 207), Due.set(0, 5, 15));
        due.due("18: words", x.words(0, 207), Due.set(3, 5));
        due.due("18: none", x.words(6, 207), 0);
        due.due("19: the loudest", x.plain(1, 207), 9);
        due.due("19: the loudest", x.plain(0, 207), 3);
        due.due("19: one", x.plain(5, 207), 1);
        due.due("19: none", x.plain(6, 207), Due.NONE);
        EchoValley y = new EchoValley();
        y.say(Due.LOW, 0, 8, 0, 0);
        y.say(Due.LOW, 0, 7, 0, 0);
        due.due("19: the loudest comes first", y.plain(0, 100), 8);
        x.say(Due.ONCE, 5, 1, 1, 7);
        due.due("18: one word twice", x.words(1, 207), Due.set(0, 5, 15));
        due.due("16: it counts twice", x.heard(1, 207), 4);
    }

    private static void untilWhen() {
        EchoValley x = valley();
        due.due("16: its own day", x.heard(1, 107), 0);
        due.due("16: ahead", x.heard(1, 7), 0);
        due.due("16: the ninth day", x.heard(1, 1007), 3);
        due.due("16: the tenth day", x.heard(1, 1107), 1);
        due.due("16: carried the 18th day", x.heard(1, 1907), 1);
        due.due("16: not the 19th", x.heard(1, 2007), 0);
        due.due("16: hushed the sixth day", x.heard(9, 723), 1);
        due.due("16: not the seventh", x.heard(9, 823), 0);
        x.rain(10, true);
        due.due("16: rain on the ninth day", x.heard(1, 1007), 1);
        due.due("16: none on the eighth", x.heard(1, 907), 3);
        x.rain(10, false);
        x.rain(1, true);
        due.due("16: rain on its own day", x.heard(1, 1007), 3);
        x.days(4);
        x.say(Due.OVER, 6, 1, 1, 7);
        due.due("16: ahead of that", x.heard(1, 407), 3);
        due.due("16: on that day", x.heard(1, 507), 1);
        due.due("17: carried from elsewhere", x.which(1, 507, 0), 3);
        due.due("16: behind it", x.heard(1, 607), 2);
        due.due("17: the new one", x.which(1, 607, 1), 6);
    }

    private static void alone() {
        EchoValley x = new EchoValley();
        due.due("20: all", x.alone(0), 1023);
        due.due("20: the last", x.alone(9923), 1023);
        x = valley();
        due.due("20: heard at 0 to 5", x.alone(207), Due.set(6, 7, 8, 9));
        due.due("20: heard at 0 to 3", x.alone(208), Due.set(4, 5, 6, 7, 8, 9));
        x.person(0, 8, 7, 7);
        x.person(5, 8, 7, 7);
        x.person(3, 1, 7, 8);
        due.due("20: people", x.alone(207), Due.set(6, 7, 9));
        x.person(0, 9, 9, 9);
        due.due("20: person 0", x.alone(209), 1023 & ~Due.set(9));
        EchoValley y = new EchoValley();
        y.say(Due.ONCE, 0, 1, 4, 9);
        due.due("20: saying 0", y.alone(109), 1023 & ~Due.set(4));
        due.due("20: people where nothing is heard", x.alone(107), 1023 & ~Due.set(1, 8));
        due.due("20: another hour", x.alone(108), 1023 & ~Due.set(1));
        due.due("20: too late", x.alone(2008), 1023 & ~Due.set(1));
    }

    private static void full() {
        EchoValley x = valley();
        due.due("21: hours 7 and 8", x.full(1, 2), 2);
        due.due("21: one", x.full(4, 2), 1);
        due.due("21: none", x.full(6, 2), 0);
        due.due("21: the last hour", x.full(9, 2), 1);
        due.due("21: its own day", x.full(1, 1), 0);
        due.due("21: later", x.full(1, 11), 1);
        EchoValley y = new EchoValley();
        for (int hour = 0; hour < 24; hour++) {
            y.say(Due.ONCE, 0, 1, 5, hour);
        }
        due.due("21: all hours", y.full(5, 1), 24);
    }

    private static void all40() {
        EchoValley x = new EchoValley();
        for (int i = 0; i < 40; i++) {
            x.say(Due.LOW, i % 16, 1 + i % 9, 9, 23);
        }
        due.due("16: all 40", x.heard(9, 123), 40);
        for (int i = 0; i < 40; i++) {
            due.due("17: which " + i, x.which(9, 123, i), i);
        }
        due.due("18: all words", x.words(9, 123), 65535);
        due.due("47: heard today", x.count(7), 0);
        x.days(1);
        due.due("47: heard today", x.count(7), 40);
        EchoValley y = new EchoValley();
        for (int i = 0; i < 40; i++) {
            y.say(i % 2 == 0 ? Due.LOW : Due.CURSED, i % 16, 1 + i % 9, 9, 23);
        }
        due.due("17: the last alone isn't said over", y.which(9, 123, 0), 39);
        due.due("17: no other", y.which(9, 123, 1), Due.NONE);
    }

    private static void wrongInputs() {
        EchoValley x = valley();
        int[] whens = {-1, -100, 24, 99, 124, 199, 9924, 9999, 10000, 10007};
        for (int i = 0; i < whens.length + Due.FAR.length; i++) {
            int when = i < whens.length ? whens[i] : Due.FAR[i - whens.length];
            due.due("16: heard(1, " + when + ")", x.heard(1, when), Due.BEYOND);
            due.due("17: which(1, " + when + ", 0)", x.which(1, when, 0), Due.BEYOND);
            due.due("18: words(1, " + when + ")", x.words(1, when), Due.BEYOND);
            due.due("19: plain(1, " + when + ")", x.plain(1, when), Due.BEYOND);
            due.due("20: alone(" + when + ")", x.alone(when), Due.BEYOND);
        }
        due.due("17: i -1", x.which(1, 207, -1), Due.BEYOND);
        due.due("17: i 40", x.which(1, 207, 40), Due.BEYOND);
        due.due("21: day -1", x.full(1, -1), Due.BEYOND);
        due.due("21: day 100", x.full(1, 100), Due.BEYOND);
        for (int i = 0; i < Due.FAR.length + 2; i++) {
            int far = i < Due.FAR.length ? Due.FAR[i] : i == Due.FAR.length ? -1 : 10;
            due.due("16: heard(" + far + ")", x.heard(far, 207), Due.BEYOND);
            due.due("17: which(" + far + ")", x.which(far, 207, 0), Due.BEYOND);
            due.due("18: words(" + far + ")", x.words(far, 207), Due.BEYOND);
            due.due("19: plain(" + far + ")", x.plain(far, 207), Due.BEYOND);
            due.due("21: full(" + far + ")", x.full(far, 2), Due.BEYOND);
        }
        for (int far : Due.FAR) {
            due.due("17: i far", x.which(1, 207, far), Due.BEYOND);
            due.due("21: day far", x.full(1, far), Due.BEYOND);
        }
    }
}
