import java.math.BigInteger;

/** What wraps around or is cut: DRAWS, the numbers of SHEETS, THE TAPE and a TEXT; and what must not go round. */
public final class WrapTest {
    private static final Due due = new Due();
    private static final int MIN = Integer.MIN_VALUE;
    private static final int MAX = Integer.MAX_VALUE;

    public static void main(String[] args) {
        drawsWrap();
        drawsAreShiftedWithoutSign();
        chanceIsTheRest();
        drawsByDay();
        seedIsAnyInt();
        sheetsOf8();
        sheetsOf16();
        sheetsOf32();
        copiesKeepTheSign();
        tapeTakesLowestBytes();
        bytesAbove127();
        numbersOfATextGoNotRound();
        sumsGoNotRound();
        quotientsAreCut();
        setsAreBits();
        due.end();
    }

    // ---- draws

    /** z * 1103515245 + 12345 by whole numbers, cut to 32 bits. */
    private static int next(int z) {
        return BigInteger.valueOf(z).multiply(BigInteger.valueOf(1103515245)).add(BigInteger.valueOf(12345)).intValue();
    }

    private static int drawnBy(int z) {
        EchoValley x = new EchoValley();
        x.seed(z);
        x.weather(0, 0, 0);
        return x.count(6);
    }

    private static void drawsWrap() {
        due.due("z of 0", drawnBy(0), 12345);
        due.due("z of 1", drawnBy(1), 1103527590);
        due.due("z of 2 goes round", drawnBy(2), -2087924461);
        due.due("z of -1", drawnBy(-1), -1103502900);
        due.due("z of the greatest", drawnBy(MAX), 1043980748);
        due.due("z of the least", drawnBy(MIN), -2147471303);
        for (int i = 0; i < 32; i++) {
            due.due("z of bit " + i, drawnBy(1 << i), next(1 << i));
            due.due("z without bit " + i, drawnBy(~(1 << i)), next(~(1 << i)));
        }
    }

    /** Does it rain, by one draw of z? */
    private static int isWet(int z, int chance) {
        EchoValley x = new EchoValley();
        x.seed(z);
        return x.weather(7, 7, chance);
    }

    /** Of 2 the z is below 0: 8621261 is drawn, its rest is 61; with its sign it would be below 0. */
    private static void drawsAreShiftedWithoutSign() {
        due.due("6: of 2, chance 0", isWet(2, 0), 0);
        due.due("6: of 2, chance 61", isWet(2, 61), 0);
        due.due("6: of 2, chance 62", isWet(2, 62), 1);
        due.due("6: of -1, chance 57", isWet(-1, 57), 0);
        due.due("6: of -1, chance 58", isWet(-1, 58), 1);
        due.due("6: of the least, chance 56", isWet(MIN, 56), 0);
        due.due("6: of the least, chance 57", isWet(MIN, 57), 1);
    }

    private static void chanceIsTheRest() {
        int[] seeds = {1, 109, 61, 18, 195, 190, 258};
        int[] rests = {54, 0, 0, 99, 1, 1, 50};
        for (int i = 0; i < seeds.length; i++) {
            for (int chance = 0; chance <= 100; chance++) {
                String run = "6: rest " + rests[i] + ", chance " + chance;
                due.due(run, isWet(seeds[i], chance), rests[i] < chance ? 1 : 0);
            }
        }
    }

    /** Each DAY has a draw of its own, in their order, whatever the chance. */
    private static void drawsByDay() {
        int[] rests = {54, 32, 56, 3, 87};
        for (int chance = 0; chance <= 100; chance++) {
            EchoValley x = new EchoValley();
            int wet = 0;
            for (int rest : rests) {
                wet += rest < chance ? 1 : 0;
            }
            due.due("6: of five days, chance " + chance, x.weather(40, 44, chance), wet);
            due.due("6: z behind five draws", x.count(6), -112468174);
            for (int i = 0; i < 5; i++) {
                due.due("6: day " + (40 + i), x.rain(40 + i, false), rests[i] < chance ? 1 : 0);
            }
        }
    }

    private static void seedIsAnyInt() {
        EchoValley x = new EchoValley();
        int was = 1;
        for (int z : new int[] {0, -1, MIN, MAX, Due.BEYOND, Due.SIZE, Due.BEYOND + 1, 1 << 16, -(1 << 16), 1}) {
            due.due("33: what it was", x.seed(z), was);
            due.due("47: what it is", x.count(6), z);
            was = z;
        }
        due.due("48: none is a finding", x.status(-1), 0);
    }

    // ---- sheets

    /** What load() makes of a number: -1 to 9, or that it doesn't come. */
    private static int asPlace(int bits, int v) {
        EchoValley x = new EchoValley();
        x.person(0, 3, 0, 0);
        x.sheet(2, bits, 1);
        due.due("40: write " + v, x.write(2, 0, v), 1);
        return x.load(2, 0) == 1 ? x.where(0, 0) : Due.NONE;
    }

    private static void sheetsOf8() {
        for (int v = -700; v <= 700; v++) {
            int cut = Math.floorMod(v + 128, 256) - 128;
            due.due("40: 8 bits, " + v, asPlace(8, v), cut >= -1 && cut <= 9 ? cut : Due.NONE);
        }
        due.due("40: 8 bits, 255 is -1", asPlace(8, 255), -1);
        due.due("40: 8 bits, 256 is 0", asPlace(8, 256), 0);
        due.due("40: 8 bits, -256 is 0", asPlace(8, -256), 0);
        due.due("40: 8 bits, the least is 0", asPlace(8, MIN), 0);
        due.due("40: 8 bits, the greatest is -1", asPlace(8, MAX), -1);
        due.due("40: 8 bits, 65535 is -1", asPlace(8, 65535), -1);
    }

    private static void sheetsOf16() {
        for (int times = -3; times <= 3; times++) {
            for (int v = -2; v <= 10; v++) {
                int place = v >= -1 && v <= 9 ? v : Due.NONE;
                due.due("40: 16 bits, " + v + " and " + times, asPlace(16, 65536 * times + v), place);
            }
        }
        due.due("40: 16 bits, 255", asPlace(16, 255), Due.NONE);
        due.due("40: 16 bits, 256", asPlace(16, 256), Due.NONE);
        due.due("40: 16 bits, 32767", asPlace(16, 32767), Due.NONE);
        due.due("40: 16 bits, 32768", asPlace(16, 32768), Due.NONE);
        due.due("40: 16 bits, 65535 is -1", asPlace(16, 65535), -1);
        due.due("40: 16 bits, the least is 0", asPlace(16, MIN), 0);
        due.due("40: 16 bits, the greatest is -1", asPlace(16, MAX), -1);
    }

    private static void sheetsOf32() {
        for (int v = -2; v <= 10; v++) {
            due.due("40: 32 bits, " + v, asPlace(32, v), v >= -1 && v <= 9 ? v : Due.NONE);
        }
        int[] noPlaces = {255, 256, 65535, 65536, -256, -65536, MIN, MAX, MIN + 1, MAX - 1, 1 << 24, -(1 << 24)};
        for (int v : noPlaces) {
            due.due("40: 32 bits, " + v, asPlace(32, v), Due.NONE);
        }
    }

    private static void copiesKeepTheSign() {
        int[] bits = {8, 16, 32};
        int[] ones = {255, 65535, -1};
        for (int i = 0; i < bits.length; i++) {
            EchoValley x = new EchoValley();
            x.sheet(0, bits[i], 2);
            x.sheet(1, bits[i], 2);
            x.write(0, 0, ones[i]);
            x.write(0, 1, 8);
            x.person(0, 3, 0, 23);
            due.due("41: of " + bits[i] + " bits", x.copy(0, 0, 1, 0, 2), 2);
            due.due("42: two came", x.load(1, 0), 2);
            due.due("42: -1 is away", x.where(0, 0), -1);
            due.due("42: and the other", x.where(0, 1), 8);
            due.due("43: -1 is no place", x.judge(1, 100), 1);
        }
    }

    // ---- the tape

    private static void tapeTakesLowestBytes() {
        int[] words = {'k' << 24 | 'e' << 16 | 'e' << 8 | 'p', '2' << 8 | '0'};
        EchoValley x = new EchoValley();
        x.feed(words[0], 4);
        due.due("34: two lowest", x.feed(0x41420000 | words[1], 2), 6);
        due.due("36: the highest of these first", x.text(), 1);
        due.due("36: 20", x.count(4), 20);
        x.feed('k', 1);
        x.feed(0xff000000 | 'e' << 16 | 'e' << 8 | 'p', 3);
        due.due("34: one lowest", x.feed(0x7fffff00 | '7', 1), 5);
        due.due("36: below 0 as well", x.text(), 1);
        due.due("36: 7", x.count(4), 7);
        x.feed('k' << 8 | 'e', 2);
        x.feed(MIN | 'e' << 16 | 'p' << 8 | '6', 3);
        due.due("36: without the highest", x.text(), 1);
        due.due("36: 6", x.count(4), 6);
    }

    /** Each byte as one of 0 to 255: none above 127 is a letter, a digit or a sign, with or without its sign. */
    private static void bytesAbove127() {
        for (int b = 128; b <= 255; b++) {
            EchoValley x = new EchoValley();
            Due.put(x, "keep 5");
            x.feed(b, 1);
            due.due("36: byte " + b + " behind an item", x.text(), -1 - 6);
            Due.put(x, "kee");
            x.feed(b << 24 | 'p' << 16 | ' ' << 8 | '5', 4);
            due.due("36: byte " + b + " within a word", x.text(), -1);
            x.feed(b, 1);
            Due.put(x, "keep 5");
            due.due("36: byte " + b + " ahead", x.text(), -1);
        }
    }

    private static void numbersOfATextGoNotRound() {
        for (int bits = 8; bits <= 96; bits++) {
            for (int more = 0; more <= 5; more += 5) {
                String number = BigInteger.ONE.shiftLeft(bits).add(BigInteger.valueOf(more)).toString();
                EchoValley x = new EchoValley();
                due.due("36: keep " + number, Due.read(x, "keep " + number), -6);
                due.due("36: rain " + number, Due.read(x, "rain 1;rain " + number), -13);
                due.due("36: way 0 " + number, Due.read(x, "way 0 " + number), -7);
                due.due("36: nothing changes", x.count(4), 9);
            }
        }
        EchoValley x = new EchoValley();
        due.due("36: 115 digits", Due.read(x, "keep " + "9".repeat(115)), -6);
        due.due("36: 115 digits", Due.read(x, "rain 1" + "0".repeat(114)), -6);
    }

    // ---- arguments

    private static EchoValley withSheets() {
        EchoValley x = new EchoValley();
        x.sheet(0, 8, 3);
        x.sheet(1, 8, 3);
        x.way(0, 1, true);
        x.days(5);
        x.say(Due.ONCE, 0, 1, 0, 0);
        return x;
    }

    private static void sumsGoNotRound() {
        Act[] acts = {x -> x.copy(0, 1, 1, 0, MAX), x -> x.copy(0, 0, 1, 1, MAX), x -> x.copy(0, MAX, 1, 0, 1),
            x -> x.copy(0, 0, 1, MAX, 1), x -> x.copy(0, MAX, 1, MAX, MAX), x -> x.copy(0, MIN, 1, 0, MIN),
            x -> x.copy(0, MAX, 1, 0, MIN), x -> x.copy(0, MIN, 1, 0, MAX), x -> x.walk(0, 23, MAX),
            x -> x.walk(0, 123, MIN), x -> x.days(MAX), x -> x.days(MIN), x -> x.feed(0, MAX), x -> x.feed(0, MIN),
            x -> x.way(32, 1, true), x -> x.way(1, 32, true), x -> x.way(-32, 1, true), x -> x.steps(32, 1),
            x -> x.steps(0, 33), x -> x.rain(256, true), x -> x.hold(256, 0), x -> x.hold(0, 256), x -> x.as(256, 0),
            x -> x.where(256, 0), x -> x.where(0, 24), x -> x.where(1, -1), x -> x.step(MIN), x -> x.count(MIN),
            x -> x.heard(0, MIN), x -> x.heard(0, MAX), x -> x.age(0, MAX), x -> x.age(0, MIN), x -> x.needs(MAX),
            x -> x.needs(MIN), x -> x.first(0, 32), x -> x.weather(0, MAX, 0), x -> x.weather(MIN, 0, 0)};
        for (int i = 0; i < acts.length; i++) {
            EchoValley x = withSheets();
            due.due("act " + i, acts[i].on(x), Due.BEYOND);
            due.due("act " + i + ", counted", x.status(0), 1);
            due.due("act " + i + ", today", x.count(0), 5);
        }
        due.due("39: far below", withSheets().sheet(0, 8, MIN), Due.SIZE);
        due.due("39: far above", withSheets().sheet(0, 8, MAX), Due.BEYOND);
    }

    /** LOUD by 3; and when is cut from 0 on alone: -1 to -99 are no HOURS of DAY 0. */
    private static void quotientsAreCut() {
        int[] by3 = {0, 0, 1, 1, 1, 2, 2, 2, 3};
        EchoValley x = new EchoValley();
        for (int loud = 1; loud <= 9; loud++) {
            x.say(Due.ONCE, 0, loud, 0, 0);
            due.due("9: loud " + loud + " by 3", x.sayingOf(loud - 1, 7), by3[loud - 1]);
        }
        for (int when = -199; when < 0; when++) {
            EchoValley y = new EchoValley();
            due.due("16: when " + when, y.heard(0, when), Due.BEYOND);
            due.due("20: when " + when, y.alone(when), Due.BEYOND);
        }
    }

    private static void setsAreBits() {
        for (int i = 0; i < 16; i++) {
            EchoValley x = new EchoValley();
            int place = i % 10;
            int person = i % 6;
            x.person(person, place, 5, 5);
            x.say(Due.LOW, i, 1, place, 5);
            due.due("18: word " + i, x.words(place, 105), 1 << i);
            due.due("14: place " + place, x.reaches(0, 1), 1 << place);
            due.due("20: place " + place, x.alone(105), 1023 - (1 << place));
            due.due("26: person " + person, x.who(0), 1 << person);
            due.due("27: person " + person, x.said(0), 1 << person);
        }
    }
}
