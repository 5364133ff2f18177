/** The empty and the full: SAYINGS, THE TAPE, SHEETS, WALKS, what is kept, WAYS, RAIN, PERSONS, SPOTS. */
public final class EmptyFullTest {
    private static final Due due = new Due();

    public static void main(String[] args) {
        noSayings();
        allSayings();
        allSayingsAtOnePlace();
        fullByTexts();
        roomBehindAnUndo();
        tapeEmpty();
        tapeFull();
        tapeEmptiedIsNew();
        textOf120();
        sheetsMissing();
        sheetsOfNone();
        sheetsOf40();
        noWalk();
        walksOfOneAndAll();
        nothingKept();
        keptOfNothing();
        waysAndRain();
        persons();
        spots();
        due.end();
    }

    // ---- sayings

    private static void noSayings() {
        EchoValley x = new EchoValley();
        x.person(0, 0, 0, 23);
        Act[] ofSaying = {y -> y.sayingOf(0, 0), y -> y.turn(0, 0), y -> y.age(0, 1), y -> y.over(0), y -> y.until(0),
            y -> y.reaches(0, 1), y -> y.drowns(0), y -> y.who(0), y -> y.said(0), y -> y.hold(0, 0)};
        for (int i = 0; i < ofSaying.length; i++) {
            due.due("none: act " + i, ofSaying[i].on(x), Due.BEYOND);
        }
        due.due("16: none", x.heard(0, 100), 0);
        due.due("17: none", x.which(0, 100, 0), Due.NONE);
        due.due("18: none", x.words(0, 100), 0);
        due.due("19: none", x.plain(0, 100), Due.NONE);
        due.due("20: none", x.alone(100), 1022);
        due.due("21: none", x.full(0, 1), 0);
        due.due("24: none", x.hears(0, 1), 0);
        due.due("25: none", x.first(0, 0), Due.NONE);
        due.due("30: none", x.walk(0, 100, 24), 0);
        due.due("37: nothing", x.hold(0, -1), 1);
        due.due("38: nothing", x.as(0, 0), Due.MISSING);
        due.due("47: none", x.count(1), 0);
        due.due("47: none", x.count(7), 0);
        due.due("8: the first", x.say(0, 0, 1, 0, 0), 0);
        for (int i = 0; i < ofSaying.length; i++) {
            due.due("one: act " + i, ofSaying[i].on(x) == Due.BEYOND ? 1 : 0, 0);
        }
    }

    /** Each at a PLACE and in an HOUR of its own. */
    private static EchoValley withSayings(int n) {
        EchoValley x = new EchoValley();
        for (int s = 0; s < n; s++) {
            due.due("8: saying " + s, x.say(Due.ONCE, s % 16, 1, s % 10, s / 10), s);
        }
        return x;
    }

    private static void allSayings() {
        EchoValley x = withSayings(40);
        due.due("8: the 41st", x.say(Due.ONCE, 0, 1, 0, 0), Due.FULL);
        due.due("8: the 41st still", x.say(Due.HUSHED, 15, 9, 9, 23), Due.FULL);
        due.due("47: all", x.count(1), 40);
        x.person(4, 9, 3, 3);
        due.due("9: the last", x.sayingOf(39, 3), 9);
        due.due("9: behind it", x.sayingOf(40, 3), Due.BEYOND);
        due.due("11: the last", x.age(39, 1), 1);
        due.due("11: behind it", x.age(40, 1), Due.BEYOND);
        due.due("12: the last", x.over(39), Due.NONE);
        due.due("12: behind it", x.over(40), Due.BEYOND);
        due.due("13: the last", x.until(39), 9);
        due.due("13: behind it", x.until(40), Due.BEYOND);
        due.due("14: the last", x.reaches(39, 1), Due.set(9));
        due.due("14: behind it", x.reaches(40, 1), Due.BEYOND);
        due.due("15: the last", x.drowns(39), 1);
        due.due("15: behind it", x.drowns(40), Due.BEYOND);
        due.due("26: the last", x.who(39), Due.set(4));
        due.due("26: behind it", x.who(40), Due.BEYOND);
        due.due("27: the last", x.said(39), Due.set(4));
        due.due("27: behind it", x.said(40), Due.BEYOND);
        due.due("37: the last", x.hold(9, 39), 1);
        due.due("37: behind it", x.hold(9, 40), Due.BEYOND);
        due.due("38: the last", x.as(9, 0), 39);
        due.due("16: the last", x.heard(9, 103), 1);
        due.due("17: the last", x.which(9, 103, 0), 39);
        due.due("24: the last", x.hears(4, 1), 1);
        due.due("25: the last", x.first(4, 7), 1);
        due.due("21: in four hours", x.full(9, 1), 4);
        due.due("20: none is alone", x.alone(103), 0);
        due.due("10: the last", x.turn(39, Due.CURSED), Due.ONCE);
        due.due("10: behind it", x.turn(40, Due.CURSED), Due.BEYOND);
        x.days(1);
        due.due("47: all are heard", x.count(7), 40);
    }

    private static void allSayingsAtOnePlace() {
        EchoValley x = new EchoValley();
        for (int s = 0; s < 40; s++) {
            x.say(Due.LOW, s % 16, 1 + s % 9, 0, 0);
        }
        x.person(0, 0, 0, 0);
        due.due("16: all", x.heard(0, 100), 40);
        due.due("17: the last", x.which(0, 100, 39), 39);
        due.due("17: behind it", x.which(0, 100, 40), Due.BEYOND);
        due.due("18: all words", x.words(0, 100), 65535);
        due.due("19: the loudest", x.plain(0, 100), 9);
        due.due("21: one hour", x.full(0, 1), 1);
        due.due("24: all", x.hears(0, 1), 40);
        due.due("30: all", x.walk(0, 100, 1), 40);
        due.due("30: all, once alone", x.walk(0, 100, 24), 40);
        x.turn(39, Due.OVER);
        due.due("12: over the first", x.over(0), 39);
        due.due("12: over the one ahead", x.over(38), 39);
        due.due("16: the last alone", x.heard(0, 100), 1);
    }

    private static void fullByTexts() {
        EchoValley x = withSayings(39);
        due.due("36: two, but there is room for one", Due.read(x, "low 1 at 2 hour 3;once 1 at 2 hour 3"), -1 - 18);
        due.due("36: none came", x.count(1), 39);
        due.due("36: one", Due.read(x, "low 1 at 2 hour 3"), 1);
        due.due("36: it came", x.count(1), 40);
        String[] kinds = {"once", "kept", "low", "over", "carried", "cursed", "hushed"};
        for (String kind : kinds) {
            due.due("36: no room for " + kind, Due.read(x, "keep 3; " + kind + " 1 at 2 hour 3"), -1 - 8);
        }
        due.due("36: nothing changes", x.count(4), 9);
        due.due("36: no finding", x.status(-1), 0);
        due.due("36: all others come", Due.read(x, "way 0 1;person 0 at 1;keep 3;rain 4"), 4);
        due.due("8: the 41st", x.say(0, 0, 1, 0, 0), Due.FULL);
    }

    private static void roomBehindAnUndo() {
        EchoValley x = withSayings(38);
        x.image();
        x.say(0, 0, 1, 0, 0);
        x.say(0, 0, 1, 0, 0);
        due.due("8: full", x.say(0, 0, 1, 0, 0), Due.FULL);
        due.due("45: undo", x.undo(), 38);
        due.due("8: room again", x.say(0, 0, 1, 0, 0), 38);
        due.due("8: room again", x.say(0, 0, 1, 0, 0), 39);
        due.due("8: full", x.say(0, 0, 1, 0, 0), Due.FULL);
        x.image();
        x.undo();
        due.due("45: undo to all", x.undo(), 40);
        due.due("8: full still", x.say(0, 0, 1, 0, 0), Due.FULL);
    }

    // ---- the tape

    private static void tapeEmpty() {
        EchoValley x = new EchoValley();
        due.due("47: empty", x.count(5), 0);
        due.due("35: empty", x.wipe(), 0);
        due.due("36: it ends too early, at 0", x.text(), -1);
        due.due("36: empty still", x.count(5), 0);
        due.due("35: empty still", x.wipe(), 0);
    }

    private static void fill(EchoValley x, int bytes) {
        for (int i = 0; i < bytes; i++) {
            due.due("34: byte " + i, x.feed('a', 1), i + 1);
        }
    }

    private static void tapeFull() {
        for (int has = 114; has <= 120; has++) {
            for (int n = 1; n <= 4; n++) {
                EchoValley x = new EchoValley();
                fill(x, has);
                due.due("34: " + n + " to " + has, x.feed(0, n), has + n > 120 ? Due.FULL : has + n);
                due.due("47: behind it", x.count(5), has + n > 120 ? has : has + n);
            }
        }
        EchoValley x = new EchoValley();
        fill(x, 120);
        due.due("35: full", x.wipe(), 120);
        due.due("47: empty", x.count(5), 0);
    }

    private static void tapeEmptiedIsNew() {
        EchoValley x = new EchoValley();
        fill(x, 120);
        due.due("36: 120 letters are no such WORD", x.text(), -1);
        due.due("36: empty", x.count(5), 0);
        fill(x, 120);
        due.due("35: full", x.wipe(), 120);
        fill(x, 120);
        due.due("34: full again", x.feed(0, 1), Due.FULL);
    }

    private static void textOf120() {
        EchoValley x = new EchoValley();
        due.due("36: 120 bytes", Due.read(x, "keep" + " ".repeat(114) + "20"), 1);
        due.due("36: to the last byte", x.count(4), 20);
        due.due("36: a fault in the last byte", Due.read(x, "keep" + " ".repeat(113) + "20?"), -1 - 119);
        due.due("36: it ends too early", Due.read(x, "keep" + " ".repeat(113) + "20;"), -1 - 120);
        due.due("36: as many items as go on it", Due.read(x, "rain1;".repeat(19) + "rain 9"), 20);
        due.due("36: all came", x.count(3), 2);
    }

    // ---- sheets

    private static void sheetsMissing() {
        for (int s = 0; s < 4; s++) {
            EchoValley x = new EchoValley();
            int t = (s + 1) % 4;
            x.sheet(t, 8, 2);
            due.due("40: missing", x.write(s, 0, 0), Due.MISSING);
            due.due("41: from a missing one", x.copy(s, 0, t, 0, 0), Due.MISSING);
            due.due("41: to a missing one", x.copy(t, 0, s, 0, 0), Due.MISSING);
            due.due("41: of a missing one to itself", x.copy(s, 0, s, 0, 0), Due.MISSING);
            due.due("42: missing", x.load(s, 0), Due.MISSING);
            due.due("43: missing", x.judge(s, 0), Due.MISSING);
            due.due("39: it is there", x.sheet(s, 8, 2), 2);
            due.due("40: it is there", x.write(s, 1, 7), 1);
            due.due("39: missing again", x.sheet(s, 0, 2), 0);
            due.due("40: missing again", x.write(s, 1, 7), Due.MISSING);
            due.due("40: the other one stays", x.write(t, 1, 7), 1);
        }
    }

    private static void sheetsOfNone() {
        for (int bits : new int[] {8, 16, 32}) {
            EchoValley x = new EchoValley();
            due.due("39: of none", x.sheet(1, bits, 0), 0);
            x.sheet(2, bits, 1);
            x.person(0, 4, 0, 23);
            due.due("40: no such number", x.write(1, 0, 0), Due.BEYOND);
            due.due("41: none of none", x.copy(1, 0, 2, 0, 0), 0);
            due.due("41: none of none, to its end", x.copy(1, 0, 2, 1, 0), 0);
            due.due("41: none to none", x.copy(2, 1, 1, 0, 0), 0);
            due.due("41: one of none", x.copy(1, 0, 2, 0, 1), Due.BEYOND);
            due.due("41: one to none", x.copy(2, 0, 1, 0, 1), Due.BEYOND);
            due.due("41: none from 1 of none", x.copy(1, 1, 2, 0, 0), Due.BEYOND);
            due.due("42: none came", x.load(1, 0), 0);
            due.due("42: the first hour stays", x.where(0, 0), 4);
            due.due("43: none is wrong", x.judge(1, 23), 0);
        }
    }

    private static void sheetsOf40() {
        for (int bits : new int[] {8, 16, 32}) {
            EchoValley x = new EchoValley();
            x.sheet(0, bits, 40);
            x.sheet(3, bits, 40);
            for (int i = 0; i < 40; i++) {
                due.due("40: number " + i, x.write(0, i, i % 10), 1);
            }
            due.due("40: number 40", x.write(0, 40, 0), Due.BEYOND);
            due.due("41: all", x.copy(0, 0, 3, 0, 40), 40);
            due.due("41: 41", x.copy(0, 0, 3, 0, 41), Due.BEYOND);
            due.due("42: for 24 there are hours", x.load(3, 2), 24);
            due.due("42: the last hour", x.where(2, 23), 3);
            due.due("41: the last to the first", x.copy(0, 39, 3, 0, 1), 1);
            due.due("41: the first to the last", x.copy(0, 0, 3, 39, 1), 1);
            due.due("41: behind the last", x.copy(0, 40, 3, 0, 1), Due.BEYOND);
            due.due("41: none behind the last", x.copy(0, 40, 3, 40, 0), 0);
            x.load(3, 2);
            due.due("41: the first is the last", x.where(2, 0), 9);
            due.due("39: all anew", x.sheet(3, bits, 40), 40);
            x.load(3, 2);
            due.due("39: all 0", x.where(2, 0), 0);
            due.due("39: all 0", x.where(2, 23), 0);
        }
    }

    // ---- walks

    private static void noWalk() {
        EchoValley x = new EchoValley();
        for (int i = 0; i <= 23; i++) {
            due.due("31: none was told, step " + i, x.step(i), Due.NONE);
        }
        x.walk(0, 0, 25);
        x.walk(10, 0, 1);
        due.due("31: refused ones aren't told", x.step(0), Due.NONE);
        x.image();
        x.walk(6, 0, 1);
        x.undo();
        due.due("31: told, also behind an undo", x.step(0), 6);
        due.due("31: it has not so many", x.step(1), Due.NONE);
    }

    private static void walksOfOneAndAll() {
        for (int n = 1; n <= 24; n++) {
            EchoValley x = new EchoValley();
            x.walk(0, 0, 24);
            x.walk(9, 0, n);
            for (int i = 0; i <= 24; i++) {
                due.due("31: step " + i + " of " + n, x.step(i), i == 24 ? Due.BEYOND : i < n ? 9 : Due.NONE);
            }
        }
    }

    // ---- images

    private static void nothingKept() {
        EchoValley x = new EchoValley();
        due.due("45: nothing", x.undo(), Due.NONE);
        due.due("46: nothing", x.tear(), 0);
        due.due("45: nothing still", x.undo(), Due.NONE);
        due.due("44: kept", x.image(), 1);
        due.due("44: kept once more", x.image(), 1);
        due.due("45: none", x.undo(), 0);
        due.due("45: it stays", x.undo(), 0);
        due.due("46: something", x.tear(), 1);
        due.due("46: one image alone", x.tear(), 0);
        due.due("45: nothing", x.undo(), Due.NONE);
        due.due("48: three", x.status(3), 3);
    }

    /** An image of a new object makes all as at first, but for THE TAPE, SHEETS and the WALK. */
    private static void keptOfNothing() {
        EchoValley x = new EchoValley();
        x.image();
        Due.row(x);
        x.weather(0, 99, 100);
        x.keep(20);
        x.days(20);
        for (int s = 0; s < 40; s++) {
            x.say(s % Due.KINDS, 0, 9, 0, 0);
        }
        for (int i = 0; i < 6; i++) {
            x.person(i, i, 0, 23);
        }
        for (int spot = 0; spot < 10; spot++) {
            x.hold(spot, 39);
        }
        due.due("45: no sayings", x.undo(), 0);
        int[] counts = {0, 0, 0, 0, 9, 0, 1, 0};
        for (int what = 0; what < counts.length; what++) {
            due.due("45: count(" + what + ")", x.count(what), counts[what]);
        }
        for (int i = 0; i < 6; i++) {
            due.due("45: away", x.where(i, 0), -1);
            due.due("45: away", x.where(i, 23), -1);
        }
        for (int spot = 0; spot < 10; spot++) {
            due.due("45: spots hold nothing", x.as(spot, 0), Due.MISSING);
        }
        due.due("45: no way", x.steps(0, 1), Due.NONE);
        due.due("45: all are away", x.crowd(), Due.NONE);
    }

    // ---- others

    private static void waysAndRain() {
        EchoValley x = new EchoValley();
        int ways = 0;
        for (int a = 0; a < 10; a++) {
            for (int b = a + 1; b < 10; b++) {
                due.due("2: none yet", x.way(a, b, true), 0);
                ways++;
                due.due("47: so many", x.count(2), ways);
            }
        }
        due.due("47: all", x.count(2), 45);
        for (int a = 0; a < 10; a++) {
            for (int b = 0; b < 10; b++) {
                due.due("3: one step", x.steps(a, b), a == b ? 0 : 1);
            }
        }
        due.due("6: all days", x.weather(0, 99, 100), 100);
        due.due("47: all days", x.count(3), 100);
        due.due("5: there was", x.rain(0, true), 1);
        due.due("47: all days still", x.count(3), 100);
        due.due("6: none", x.weather(0, 99, 0), 0);
        due.due("47: none", x.count(3), 0);
        due.due("5: there was none", x.rain(99, false), 0);
        due.due("47: none still", x.count(3), 0);
    }

    private static void persons() {
        EchoValley x = new EchoValley();
        due.due("32: none", x.crowd(), Due.NONE);
        due.due("20: none", x.alone(23), 1023);
        for (int i = 0; i < 6; i++) {
            x.person(i, 9, 23, 23);
            due.due("32: " + (i + 1) + " at one place", x.crowd(), 2309);
        }
        x.say(Due.ONCE, 0, 1, 9, 23);
        due.due("26: all", x.who(0), 63);
        due.due("27: all", x.said(0), 63);
        due.due("20: all at one place", x.alone(23), 511);
        for (int i = 0; i < 6; i++) {
            x.person(i, i, 22, 22);
        }
        due.due("20: each at one of their own", x.alone(22), 1023 & ~63);
        due.due("32: all at one place still", x.crowd(), 2309);
        for (int i = 0; i < 6; i++) {
            x.person(i, -1, 0, 23);
        }
        due.due("32: none", x.crowd(), Due.NONE);
        due.due("26: none", x.who(0), 0);
        due.due("27: none", x.said(0), 0);
    }

    private static void spots() {
        EchoValley x = withSayings(10);
        for (int spot = 0; spot < 10; spot++) {
            due.due("38: nothing at first", x.as(spot, 0), Due.MISSING);
            due.due("37: holds", x.hold(spot, 9 - spot), 1);
        }
        for (int spot = 0; spot < 10; spot++) {
            due.due("38: each its own", x.as(spot, 0), 9 - spot);
        }
        for (int spot = 0; spot < 10; spot++) {
            due.due("37: nothing", x.hold(spot, -1), 1);
            due.due("38: nothing", x.as(spot, 0), Due.MISSING);
            due.due("38: the next one holds still", x.as((spot + 1) % 10, 0), spot == 9 ? Due.MISSING : 8 - spot);
        }
    }
}
