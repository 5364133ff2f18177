/** Objects in which there is something of everything, so that a call that changes what it should leave is seen. */
final class Valleys {
    private Valleys() {
    }

    /** What its image keeps is unlike what stands. */
    static EchoValley busy() {
        EchoValley x = new EchoValley();
        x.way(8, 9, true);
        x.rain(60, true);
        x.keep(4);
        x.say(Due.KEPT, 1, 2, 9, 3);
        x.person(4, 8, 0, 11);
        x.seed(-5);
        x.hold(9, 0);
        x.image();
        x.way(8, 9, false);
        x.rain(60, false);
        x.hold(9, -1);
        x.person(4, -1, 0, 23);
        fillValley(x);
        fillRest(x);
        return x;
    }

    /** TODAY 3; SAYING 3 is said OVER 1, and 6 OVER 5 on the same DAY; PERSON 3 is away. */
    private static void fillValley(EchoValley x) {
        x.way(0, 1, true);
        x.way(1, 2, true);
        x.way(2, 3, true);
        x.way(5, 6, true);
        for (int day : new int[] {0, 2, 4, 50, 99}) {
            x.rain(day, true);
        }
        x.keep(7);
        x.days(1);
        x.say(Due.ONCE, 4, 6, 1, 7);
        x.say(Due.CURSED, 15, 9, 2, 7);
        x.days(2);
        x.say(Due.OVER, 0, 1, 1, 7);
        x.say(Due.HUSHED, 8, 3, 0, 23);
        x.say(Due.LOW, 2, 5, 7, 0);
        x.say(Due.OVER, 3, 5, 7, 0);
        x.person(0, 1, 0, 23);
        x.person(1, 1, 0, 23);
        x.person(1, 2, 12, 13);
        x.person(2, 0, 6, 9);
        x.person(5, 5, 20, 23);
        x.seed(4711);
        x.hold(0, 3);
        x.hold(1, 2);
    }

    private static void fillRest(EchoValley x) {
        x.sheet(0, 8, 3);
        x.write(0, 0, 1);
        x.write(0, 1, 2);
        x.write(0, 2, 2);
        x.sheet(1, 16, 2);
        x.write(1, 1, 5);
        x.sheet(3, 8, 1);
        x.write(3, 0, 7);
        x.walk(0, 406, 4);
        Due.put(x, "keep 12");
    }

    static EchoValley withAllSayings() {
        EchoValley x = busy();
        for (int s = 7; s < 40; s++) {
            x.say(s % Due.KINDS, s % 16, 1 + s % 9, s % 10, s % 24);
        }
        return x;
    }

    static EchoValley onDay(int day) {
        EchoValley x = busy();
        Due.days(x, day - 3);
        return x;
    }

    /** THE TAPE of so many bytes, a TEXT with many blanks. */
    static EchoValley withTape(int bytes) {
        EchoValley x = busy();
        x.wipe();
        Due.put(x, "rain");
        for (int left = bytes - 5; left > 0; left -= 4) {
            x.feed(0x20202020, Math.min(left, 4));
        }
        Due.put(x, "8");
        return x;
    }

    static EchoValley withNothingKept() {
        EchoValley x = busy();
        x.tear();
        return x;
    }

    static EchoValley withAllAway() {
        EchoValley x = busy();
        for (int person = 0; person < 6; person++) {
            x.person(person, -1, 0, 23);
        }
        return x;
    }

    /** There is RAIN on DAY 4, the next one. */
    static EchoValley withKeep1() {
        EchoValley x = busy();
        x.keep(1);
        return x;
    }
}
