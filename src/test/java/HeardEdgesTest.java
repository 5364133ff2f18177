/** The first and the last DAY, STEP, HOUR and LOUD for which a sentence holds, and the next one beyond. */
public final class HeardEdgesTest {
    private static final Due due = new Due();

    public static void main(String[] args) {
        rainThatCounts();
        lasts();
        lastsTill99();
        rainOnTheLastDay();
        reach();
        stepsAreTheFewest();
        inItsHour();
        overFromItsDayOn();
        overForGood();
        overAtTheSamePlaceAndHour();
        overByLoud();
        overBehindIt();
        cursed();
        firstBehindToday();
        thereInItsHour();
        aloneAndFull();
        needsToTheDay();
        needsNewOnes();
        tellTheLeast();
        due.end();
    }

    private static EchoValley said(int kind, int loud, int place, int hour, int day) {
        EchoValley x = new EchoValley();
        Due.days(x, day);
        x.say(kind, 0, loud, place, hour);
        return x;
    }

    /** RAIN behind its own DAY up to that DAY, it too; not on its own DAY, not behind that DAY. */
    private static void rainThatCounts() {
        for (int rain = 0; rain <= 99; rain++) {
            EchoValley x = said(Due.ONCE, 1, 0, 0, 30);
            x.rain(rain, true);
            for (int day = 31; day <= 99; day += 4) {
                boolean counts = rain > 30 && rain <= day;
                due.due("11: rain on " + rain + ", age on " + day, x.age(0, day), day - 30 + (counts ? 1 : 0));
            }
        }
    }

    private static int lastsOf(int kind, int keep) {
        int[] lasts = {keep, 2 * keep, keep, keep, 2 * keep, keep + 5, keep < 4 ? 1 : keep - 3};
        return lasts[kind];
    }

    private static void lasts() {
        for (int kind = 0; kind < Due.KINDS; kind++) {
            for (int keep = 1; keep <= 20; keep++) {
                EchoValley x = said(kind, 1, 6, 6, 5);
                x.keep(keep);
                int last = 5 + lastsOf(kind, keep);
                String run = "kind " + kind + ", keep " + keep;
                due.due("9: LASTS, " + run, x.sayingOf(0, 6), last - 5);
                due.due("13: until, " + run, x.until(0), last);
                due.due("16: on its own day, " + run, x.heard(6, 506), 0);
                due.due("16: on the next day, " + run, x.heard(6, 606), 1);
                due.due("16: on the last day, " + run, x.heard(6, 100 * last + 6), 1);
                due.due("16: a day later, " + run, x.heard(6, 100 * last + 106), 0);
                due.due("14: on its own day, " + run, x.reaches(0, 5), 0);
                due.due("14: on the next day, " + run, x.reaches(0, 6), Due.set(6));
                due.due("14: on the last day, " + run, x.reaches(0, last), Due.set(6));
                due.due("14: a day later, " + run, x.reaches(0, last + 1), 0);
            }
        }
    }

    private static void lastsTill99() {
        for (int own = 75; own <= 99; own++) {
            EchoValley x = said(Due.ONCE, 1, 6, 6, own);
            int last = Math.min(99, own + 9);
            due.due("13: until, said on " + own, x.until(0), own == 99 ? Due.NONE : last);
            due.due("16: on day 99, said on " + own, x.heard(6, 9906), own >= 90 && own < 99 ? 1 : 0);
        }
    }

    /** A DAY of RAIN makes the AGE two more: as much as LASTS is heard, more is not. */
    private static void rainOnTheLastDay() {
        for (int keep = 2; keep <= 20; keep++) {
            EchoValley x = said(Due.ONCE, 1, 0, 0, 0);
            x.keep(keep);
            x.rain(keep - 1, true);
            due.due("13: rain ahead of its last day, keep " + keep, x.until(0), keep - 1);
            x.rain(keep - 1, false);
            x.rain(keep, true);
            due.due("13: rain on its last day, keep " + keep, x.until(0), keep - 1);
            x.rain(keep, false);
            x.rain(keep + 1, true);
            due.due("13: rain behind its last day, keep " + keep, x.until(0), keep);
            x.rain(0, true);
            due.due("13: rain on its own day, keep " + keep, x.until(0), keep);
        }
        EchoValley x = said(Due.ONCE, 1, 0, 0, 0);
        x.keep(1);
        x.rain(1, true);
        due.due("13: never heard", x.until(0), Due.NONE);
        due.due("16: never heard", x.heard(0, 100), 0);
        x.keep(2);
        due.due("13: heard on a day of rain", x.until(0), 1);
    }

    private static void reach() {
        for (int kind = 0; kind < Due.KINDS; kind++) {
            for (int loud = 1; loud <= 9; loud++) {
                int by3 = loud < 3 ? 0 : loud < 6 ? 1 : loud < 9 ? 2 : 3;
                int[] reaches = {by3, by3, 0, by3, by3 + 2, by3, 0};
                EchoValley x = said(kind, loud, 0, 8, 0);
                Due.row(x);
                String run = "kind " + kind + ", loud " + loud;
                due.due("9: REACH, " + run, x.sayingOf(0, 7), reaches[kind]);
                due.due("14: places, " + run, x.reaches(0, 1), (2 << reaches[kind]) - 1);
                due.due("16: at the last place, " + run, x.heard(reaches[kind], 108), 1);
                due.due("16: a step beyond, " + run, x.heard(reaches[kind] + 1, 108), 0);
            }
        }
    }

    private static void stepsAreTheFewest() {
        EchoValley x = said(Due.CARRIED, 9, 0, 8, 0);
        Due.row(x);
        due.due("14: five steps", x.reaches(0, 1), Due.set(0, 1, 2, 3, 4, 5));
        x.way(0, 9, true);
        due.due("3: from the other side", x.steps(0, 5), 5);
        due.due("3: as far both ways round", x.steps(0, 6), 4);
        due.due("14: around", x.reaches(0, 1), 1023);
        x.way(5, 6, false);
        due.due("3: five again", x.steps(0, 5), 5);
        x.way(0, 1, false);
        due.due("3: none", x.steps(0, 5), Due.NONE);
        due.due("14: one side alone", x.reaches(0, 1), Due.set(0, 9, 8, 7, 6));
    }

    private static void inItsHour() {
        for (int hour = 0; hour <= 23; hour++) {
            EchoValley x = said(Due.ONCE, 5, 2, hour, 0);
            x.person(1, 2, hour, hour);
            for (int h = 0; h <= 23; h++) {
                due.due("16: of hour " + hour + ", in " + h, x.heard(2, 100 + h), h == hour ? 1 : 0);
                due.due("18: of hour " + hour + ", in " + h, x.words(2, 100 + h), h == hour ? 1 : 0);
                due.due("19: of hour " + hour + ", in " + h, x.plain(2, 100 + h), h == hour ? 5 : Due.NONE);
                due.due("30: of hour " + hour + ", in " + h, x.walk(2, 100 + h, 1), h == hour ? 1 : 0);
            }
            due.due("24: at its place in its hour alone", x.hears(1, 1), 1);
            x.person(1, 2, 0, 23);
            x.person(1, 3, hour, hour);
            due.due("24: there in all other hours", x.hears(1, 1), 0);
        }
    }

    // ---- said over

    private static void overFromItsDayOn() {
        for (int later = 0; later <= 9; later++) {
            EchoValley x = said(Due.ONCE, 1, 4, 4, 10);
            if (later > 0) {
                x.days(later);
            }
            x.say(Due.OVER, 0, 1, 4, 4);
            String run = ", said over " + later + " days later";
            due.due("12: over" + run, x.over(0), 1);
            due.due("13: until" + run, x.until(0), later < 2 ? Due.NONE : 10 + later - 1);
            for (int day = 10; day <= 20; day++) {
                boolean is = day > 10 && day < 10 + later;
                due.due("14: on day " + day + run, x.reaches(0, day), is ? Due.set(4) : 0);
            }
        }
    }

    /** Also when what was said OVER it isn't HEARD any more, or is said OVER itself. */
    private static void overForGood() {
        EchoValley x = said(Due.KEPT, 1, 4, 4, 0);
        x.days(2);
        x.say(Due.HUSHED, 1, 9, 4, 4);
        due.due("13: a hushed one drowns none", x.until(0), 18);
        x.say(Due.OVER, 2, 1, 4, 4);
        due.due("16: both are said over", x.heard(4, 304), 1);
        due.due("17: the last alone", x.which(4, 304, 0), 2);
        due.due("13: till then", x.until(0), 1);
        due.due("13: the last", x.until(2), 11);
        due.due("16: none behind that", x.heard(4, 1204), 0);
        due.due("16: nor on day 18", x.heard(4, 1804), 0);
        x.say(Due.CURSED, 3, 1, 4, 4);
        due.due("12: by the first", x.over(0), 2);
        due.due("12: which is said over", x.over(2), 3);
        due.due("13: till then still", x.until(0), 1);
        due.due("13: at once", x.until(2), Due.NONE);
    }

    private static void overAtTheSamePlaceAndHour() {
        for (int place = 0; place <= 9; place++) {
            for (int hour = 0; hour <= 23; hour++) {
                EchoValley x = said(Due.LOW, 9, 5, 12, 0);
                x.say(Due.OVER, 0, 9, place, hour);
                boolean is = place == 5 && hour == 12;
                due.due("12: over from " + place + " in " + hour, x.over(0), is ? 1 : Due.NONE);
            }
        }
    }

    private static void overByLoud() {
        for (int loud = 1; loud <= 9; loud++) {
            EchoValley x = said(Due.ONCE, loud, 5, 12, 0);
            due.due("15: drowns, loud " + loud, x.drowns(0), loud);
            if (loud > 1) {
                x.say(Due.ONCE, 0, loud - 1, 5, 12);
                due.due("12: less loud than " + loud, x.over(0), Due.NONE);
            }
            int next = x.say(Due.ONCE, 0, loud, 5, 12);
            due.due("12: as loud as " + loud, x.over(0), next);
            EchoValley y = said(Due.ONCE, loud, 5, 12, 0);
            y.say(Due.ONCE, 0, 9, 5, 12);
            due.due("12: louder than " + loud + ", or as loud", y.over(0), 1);
        }
    }

    private static void overBehindIt() {
        EchoValley x = said(Due.OVER, 9, 5, 12, 0);
        x.say(Due.LOW, 0, 1, 5, 12);
        due.due("12: not by one ahead of it", x.over(1), Due.NONE);
        due.due("12: not by itself", x.over(0), Due.NONE);
        x.say(Due.LOW, 0, 1, 5, 12);
        x.say(Due.CURSED, 0, 1, 5, 12);
        x.say(Due.OVER, 0, 9, 5, 12);
        due.due("12: the first of two", x.over(0), 3);
        due.due("12: the first of two", x.over(2), 3);
        due.due("12: a cursed one by none", x.over(3), Due.NONE);
        due.due("12: none behind the last", x.over(4), Due.NONE);
    }

    private static void cursed() {
        for (int kind = 0; kind < Due.KINDS; kind++) {
            EchoValley x = said(Due.CURSED, 1, 5, 12, 0);
            x.say(kind, 0, 9, 5, 12);
            due.due("12: cursed, kind " + kind + " behind it", x.over(0), kind == Due.CURSED ? 1 : Due.NONE);
            due.due("15: cursed", x.drowns(0), Due.NONE);
            x.turn(0, Due.OVER);
            due.due("15: cursed no more", x.drowns(0), 1);
        }
    }

    // ---- people

    private static void firstBehindToday() {
        EchoValley x = said(Due.ONCE, 1, 3, 3, 0);
        x.person(2, 3, 3, 3);
        for (int today = 0; today <= 12; today++) {
            due.due("25: today " + today, x.first(2, 0), today < 9 ? today + 1 : Due.NONE);
            due.due("24: today " + today, x.hears(2, today), today >= 1 && today <= 9 ? 1 : 0);
            due.due("47: today " + today, x.count(7), today >= 1 && today <= 9 ? 1 : 0);
            due.due("26: today " + today, x.who(0), Due.set(2));
            x.days(1);
        }
    }

    private static void thereInItsHour() {
        for (int person = 0; person < 6; person++) {
            EchoValley x = said(Due.ONCE, 3, 0, 12, 0);
            x.way(0, 1, true);
            x.person(person, 0, 11, 11);
            x.person(person, 0, 13, 13);
            due.due("27: an hour ahead, and behind", x.said(0), 0);
            due.due("26: an hour ahead, and behind", x.who(0), 0);
            x.person(person, 1, 12, 12);
            due.due("27: at the next place", x.said(0), 0);
            due.due("26: at the next place", x.who(0), Due.set(person));
            x.person(person, 0, 12, 12);
            due.due("27: there", x.said(0), Due.set(person));
            due.due("26: there", x.who(0), Due.set(person));
            x.person(person, -1, 12, 12);
            due.due("27: away", x.said(0), 0);
            due.due("26: away", x.who(0), 0);
        }
    }

    private static void aloneAndFull() {
        for (int place = 0; place <= 9; place++) {
            for (int hour = 0; hour <= 23; hour++) {
                EchoValley x = said(Due.LOW, 1, place, hour, 3);
                int but = 1023 & ~Due.set(place);
                due.due("20: on its own day", x.alone(300 + hour), 1023);
                due.due("20: on the next day", x.alone(400 + hour), but);
                due.due("20: on the last day", x.alone(1200 + hour), but);
                due.due("20: a day later", x.alone(1300 + hour), 1023);
                due.due("20: another hour", x.alone(400 + (hour + 1) % 24), 1023);
                due.due("21: on its own day", x.full(place, 3), 0);
                due.due("21: on the next day", x.full(place, 4), 1);
                due.due("21: on the last day", x.full(place, 12), 1);
                due.due("21: a day later", x.full(place, 13), 0);
                x.person(5, place, hour, hour);
                due.due("20: a person, on all days", x.alone(hour), but);
                due.due("20: a person, on all days", x.alone(9900 + hour), but);
                due.due("20: a person, another hour", x.alone(9900 + (hour + 1) % 24), 1023);
            }
        }
    }

    private static void needsToTheDay() {
        for (int keep = 1; keep <= 20; keep++) {
            for (int today = 0; today <= 40; today += 20) {
                EchoValley x = new EchoValley();
                Due.days(x, today);
                x.keep(keep);
                for (int day = today + 1; day <= 99; day++) {
                    int n = 1;
                    while (n * keep < day - today) {
                        n++;
                    }
                    due.due("29: keep " + keep + ", from " + today + " to " + day, x.needs(day), n);
                }
            }
        }
    }

    /** What is said already doesn't count, nor does RAIN up to TODAY. */
    private static void needsNewOnes() {
        EchoValley x = said(Due.KEPT, 1, 0, 0, 0);
        due.due("29: one", x.needs(9), 1);
        due.due("29: two", x.needs(10), 2);
        x.say(Due.OVER, 1, 9, 0, 0);
        due.due("29: one still", x.needs(9), 1);
        x.days(5);
        x.weather(0, 5, 100);
        due.due("29: one behind today's rain", x.needs(14), 1);
        due.due("29: two", x.needs(15), 2);
        x.rain(6, true);
        due.due("29: one in tomorrow's rain", x.needs(13), 1);
        due.due("29: two", x.needs(14), 2);
    }

    /** The least LOUD, then the least HOUR, then the PLACE: no louder one, no later one. */
    private static void tellTheLeast() {
        for (int hour = 0; hour <= 23; hour++) {
            EchoValley x = new EchoValley();
            Due.row(x);
            x.person(0, 4, 0, 23);
            x.person(1, 4, 0, 23);
            due.due("28: always together", x.tell(0, 1), Due.NONE);
            x.person(1, 5, hour, 23);
            due.due("28: apart from hour " + hour, x.tell(0, 1), 10004 + 100 * hour);
            due.due("28: the other one", x.tell(1, 0), 10005 + 100 * hour);
            x.person(0, -1, hour, hour);
            due.due("28: away then", x.tell(0, 1), hour == 23 ? Due.NONE : 10104 + 100 * hour);
            due.due("28: the other one", x.tell(1, 0), 10005 + 100 * hour);
        }
    }
}
