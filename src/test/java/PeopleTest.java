/** Promises 22 to 29: person, where, hears, first, who, said, tell, needs. */
public final class PeopleTest {
    private static final Due due = new Due();

    public static void main(String[] args) {
        personAndWhere();
        hears();
        first();
        who();
        said();
        tell();
        needs();
        needsInRain();
        wrongInputs();
        due.end();
    }

    private static void personAndWhere() {
        EchoValley x = new EchoValley();
        due.due("22: person", x.person(5, 9, 6, 9), 1);
        due.due("22: one hour", x.person(5, 2, 8, 8), 1);
        due.due("22: all hours", x.person(0, 0, 0, 23), 1);
        due.due("22: away", x.person(0, -1, 22, 23), 1);
        int[] places = {-1, 9, 9, 2, 9, -1};
        for (int i = 0; i < places.length; i++) {
            due.due("23: where(5, " + (5 + i) + ")", x.where(5, 5 + i), places[i]);
        }
        due.due("23: where(0, 0)", x.where(0, 0), 0);
        due.due("23: where(0, 21)", x.where(0, 21), 0);
        due.due("23: where(0, 22)", x.where(0, 22), -1);
        due.due("23: where(0, 23)", x.where(0, 23), -1);
        due.due("23: another one", x.where(1, 8), -1);
        int[][] wrong = {{-1, 0, 0, 0}, {6, 0, 0, 0}, {0, -2, 0, 0}, {0, 10, 0, 0}, {0, 1, -1, 0}, {0, 1, 24, 24},
            {0, 1, 0, 24}, {0, 1, 5, 4}, {0, 1, -1, -1}};
        for (int[] w : wrong) {
            due.due("22: wrong", x.person(w[0], w[1], w[2], w[3]), Due.BEYOND);
        }
        due.due("22: refused ones change nothing", x.where(0, 5), 0);
        due.due("23: person -1", x.where(-1, 0), Due.BEYOND);
        due.due("23: person 6", x.where(6, 0), Due.BEYOND);
        due.due("23: hour -1", x.where(0, -1), Due.BEYOND);
        due.due("23: hour 24", x.where(0, 24), Due.BEYOND);
    }

    /** A row of PLACES, four SAYINGS of DAY 2. */
    private static EchoValley valley() {
        EchoValley x = new EchoValley();
        Due.row(x);
        x.days(2);
        x.say(Due.ONCE, 4, 3, 2, 6);
        x.say(Due.LOW, 4, 9, 2, 7);
        x.say(Due.KEPT, 7, 1, 3, 6);
        x.say(Due.CARRIED, 9, 1, 5, 8);
        x.person(0, 2, 0, 23);
        x.person(1, 3, 6, 7);
        x.person(2, 3, 8, 8);
        return x;
    }

    private static void hears() {
        EchoValley x = valley();
        due.due("24: its own day", x.hears(0, 2), 0);
        due.due("24: two at 2", x.hears(0, 3), 2);
        due.due("24: two at 3 in hour 6", x.hears(1, 3), 2);
        due.due("24: one from afar", x.hears(2, 3), 1);
        due.due("24: who is away", x.hears(3, 3), 0);
        due.due("24: kept ones later", x.hears(1, 12), 1);
        due.due("24: too late", x.hears(0, 12), 0);
        due.due("24: carried ones last as kept ones", x.hears(2, 20), 1);
        due.due("24: till then", x.hears(2, 21), 0);
    }

    private static void first() {
        EchoValley x = valley();
        due.due("25: tomorrow", x.first(0, 4), 3);
        due.due("25: not that word", x.first(0, 7), Due.NONE);
        due.due("25: from the next place", x.first(1, 4), 3);
        due.due("25: away", x.first(3, 4), Due.NONE);
        x.days(5);
        due.due("25: behind today", x.first(0, 4), 8);
        x.days(3);
        due.due("25: the last day", x.first(0, 4), 11);
        x.days(1);
        due.due("25: heard today for the last time", x.first(0, 4), Due.NONE);
        due.due("25: a kept one still", x.first(1, 7), 12);
        x.say(Due.OVER, 0, 1, 3, 6);
        due.due("25: said over", x.first(1, 7), Due.NONE);
        due.due("25: what is new", x.first(1, 0), 12);
        EchoValley y = new EchoValley();
        Due.days(y, 98);
        y.person(0, 0, 0, 23);
        y.say(Due.ONCE, 1, 1, 0, 0);
        due.due("25: the last of all days", y.first(0, 1), 99);
        y.days(1);
        due.due("25: no day is left", y.first(0, 1), Due.NONE);
    }

    private static void who() {
        EchoValley x = valley();
        due.due("26: at 2 and 3", x.who(0), Due.set(0, 1));
        due.due("26: low", x.who(1), Due.set(0));
        due.due("26: loud 1", x.who(2), Due.set(1));
        due.due("26: carried", x.who(3), Due.set(2));
        Due.days(x, 60);
        due.due("26: on any day", x.who(0), Due.set(0, 1));
        x.say(Due.OVER, 0, 1, 2, 6);
        due.due("26: said over later", x.who(0), Due.set(0, 1));
        EchoValley y = new EchoValley();
        y.person(4, 0, 0, 0);
        y.keep(1);
        y.say(Due.ONCE, 0, 1, 0, 0);
        due.due("26: a day", y.who(0), Due.set(4));
        y.rain(1, true);
        due.due("26: washed off", y.who(0), 0);
        y.rain(1, false);
        y.say(Due.ONCE, 0, 1, 0, 0);
        due.due("26: said over at once", y.who(0), 0);
        Due.days(y, 99);
        y.say(Due.ONCE, 0, 1, 0, 0);
        due.due("26: said on day 99", y.who(2), 0);
    }

    private static void said() {
        EchoValley x = valley();
        x.person(5, 2, 6, 6);
        due.due("27: at 2 in hour 6", x.said(0), Due.set(0, 5));
        due.due("27: at 2 in hour 7", x.said(1), Due.set(0));
        due.due("27: at 3 in hour 6", x.said(2), Due.set(1));
        due.due("27: none", x.said(3), 0);
        for (int person = 0; person < 6; person++) {
            x.person(person, 5, 8, 8);
        }
        due.due("27: all", x.said(3), 63);
    }

    private static void tell() {
        EchoValley x = new EchoValley();
        due.due("28: both are away", x.tell(0, 1), Due.NONE);
        x.person(1, 4, 0, 23);
        due.due("28: she is away", x.tell(0, 1), Due.NONE);
        due.due("28: he is away", x.tell(1, 0), 10004);
        x.person(0, 4, 3, 20);
        due.due("28: always with him", x.tell(0, 1), Due.NONE);
        due.due("28: he is with her later", x.tell(1, 0), 10004);
        x.person(0, 7, 11, 12);
        due.due("28: apart from hour 11 on", x.tell(0, 1), 11107);
        x.person(0, 9, 23, 23);
        x.person(0, 4, 11, 12);
        due.due("28: apart in the last hour", x.tell(0, 1), 12309);
        Due.row(x);
        due.due("28: ways don't matter to a low voice", x.tell(0, 1), 12309);
        x.keep(1);
        x.weather(0, 99, 100);
        x.say(Due.OVER, 0, 9, 9, 23);
        due.due("28: rain and others neither", x.tell(0, 1), 12309);
        for (int person = 0; person < 6; person++) {
            due.due("28: one and the same", x.tell(person, person), Due.BEYOND);
        }
    }

    private static void needs() {
        EchoValley x = new EchoValley();
        due.due("29: today", x.needs(0), Due.STATE);
        due.due("29: a day", x.needs(1), 1);
        due.due("29: nine days", x.needs(9), 1);
        due.due("29: ten days", x.needs(10), 2);
        due.due("29: 18 days", x.needs(18), 2);
        due.due("29: all", x.needs(99), 11);
        x.keep(1);
        due.due("29: each day", x.needs(99), 99);
        x.keep(20);
        due.due("29: each 20", x.needs(99), 5);
        x.days(19);
        due.due("29: today", x.needs(19), Due.STATE);
        due.due("29: ahead", x.needs(0), Due.STATE);
        due.due("29: from today", x.needs(99), 4);
        due.due("29: one", x.needs(39), 1);
        due.due("29: two", x.needs(40), 2);
    }

    private static void needsInRain() {
        EchoValley x = new EchoValley();
        x.keep(3);
        x.rain(0, true);
        due.due("29: today's rain", x.needs(3), 1);
        x.rain(2, true);
        due.due("29: a day less", x.needs(3), 2);
        due.due("29: a day less", x.needs(2), 1);
        x.rain(2, false);
        x.rain(3, true);
        due.due("29: one that washes off itself", x.needs(2), 1);
        due.due("29: one that washes off itself", x.needs(3), 2);
        x.keep(2);
        x.weather(0, 99, 100);
        due.due("29: each day", x.needs(99), 99);
        x.keep(3);
        due.due("29: each day still", x.needs(99), 99);
        x.keep(4);
        due.due("29: each second one", x.needs(99), 50);
        x.keep(1);
        due.due("29: never", x.needs(99), Due.NONE);
        due.due("29: never", x.needs(1), Due.NONE);
        x.weather(0, 99, 0);
        x.rain(50, true);
        due.due("29: up to the rain", x.needs(49), 49);
        due.due("29: not behind it", x.needs(50), Due.NONE);
        due.due("29: STATE ahead of NONE", x.needs(0), Due.STATE);
    }

    private static void wrongInputs() {
        EchoValley x = valley();
        for (int i = 0; i < Due.FAR.length + 2; i++) {
            int far = i < Due.FAR.length ? Due.FAR[i] : i == Due.FAR.length ? -1 : 6;
            due.due("22: person far", x.person(far, 0, 0, 0), Due.BEYOND);
            due.due("23: person far", x.where(far, 0), Due.BEYOND);
            due.due("24: person far", x.hears(far, 3), Due.BEYOND);
            due.due("25: person far", x.first(far, 4), Due.BEYOND);
            due.due("26: saying far", x.who(far), Due.BEYOND);
            due.due("27: saying far", x.said(far), Due.BEYOND);
            due.due("28: she far", x.tell(far, 0), Due.BEYOND);
            due.due("28: he far", x.tell(0, far), Due.BEYOND);
        }
        due.due("26: the saying behind the last", x.who(4), Due.BEYOND);
        due.due("27: the saying behind the last", x.said(4), Due.BEYOND);
        for (int i = 0; i < Due.FAR.length + 2; i++) {
            int far = i < Due.FAR.length ? Due.FAR[i] : i == Due.FAR.length ? -1 : 100;
            due.due("22: place far", x.person(0, far == -1 ? -3 : far, 0, 0), Due.BEYOND);
            due.due("22: from far", x.person(0, 0, far, 23), Due.BEYOND);
            due.due("22: to far", x.person(0, 0, 0, far), Due.BEYOND);
            due.due("23: hour far", x.where(0, far), Due.BEYOND);
            due.due("24: day far", x.hears(0, far), Due.BEYOND);
            due.due("25: word far", x.first(0, far), Due.BEYOND);
            due.due("29: day far", x.needs(far), Due.BEYOND);
        }
        due.due("25: word 16", x.first(0, 16), Due.BEYOND);
        due.due("22: refused ones change nothing", x.where(0, 0), 2);
    }
}
