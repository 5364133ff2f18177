/** Promises 37 to 43: hold, as, sheet, write, copy, load, judge. */
public final class SpotsSheetsTest {
    private static final Due due = new Due();

    public static void main(String[] args) {
        hold();
        as();
        sheet();
        write();
        copy();
        copyWithin();
        copyRefused();
        load();
        judge();
        orderOfFindings();
        wrongInputs();
        due.end();
    }

    private static void hold() {
        EchoValley x = new EchoValley();
        due.due("37: no saying", x.hold(0, 0), Due.BEYOND);
        x.say(0, 0, 1, 0, 0);
        x.say(0, 0, 1, 0, 0);
        due.due("37: holds", x.hold(0, 1), 1);
        due.due("37: holds", x.hold(9, 0), 1);
        due.due("37: as", x.as(0, 0), 1);
        due.due("37: as", x.as(9, 0), 0);
        due.due("37: others hold nothing", x.as(1, 0), Due.MISSING);
        due.due("37: refused", x.hold(0, 2), Due.BEYOND);
        due.due("37: refused", x.hold(0, -2), Due.BEYOND);
        due.due("37: it stays", x.as(0, 0), 1);
        due.due("37: nothing", x.hold(0, -1), 1);
        due.due("37: nothing", x.as(0, 0), Due.MISSING);
        due.due("37: spot -1", x.hold(-1, 0), Due.BEYOND);
        due.due("37: spot 10", x.hold(10, -1), Due.BEYOND);
    }

    private static void as() {
        int[] above = {-1, 0, 0, 0, 1, 3, 2};
        EchoValley x = new EchoValley();
        for (int kind = 0; kind < Due.KINDS; kind++) {
            x.say(kind, 0, 1, 0, 0);
            x.hold(kind, kind);
            for (int asked = 0; asked < Due.KINDS; asked++) {
                boolean is = asked == kind || asked == above[kind] || asked == 0;
                due.due("38: kind " + kind + " as " + asked, x.as(kind, asked), is ? kind : Due.KIND);
            }
        }
        due.due("38: nothing", x.as(9, 0), Due.MISSING);
        due.due("38: BEYOND ahead of MISSING", x.as(9, 7), Due.BEYOND);
        due.due("38: kind -1", x.as(0, -1), Due.BEYOND);
        due.due("38: kind 7", x.as(0, 7), Due.BEYOND);
        due.due("38: spot -1", x.as(-1, 0), Due.BEYOND);
        due.due("38: spot 10", x.as(10, 0), Due.BEYOND);
        x.turn(0, 5);
        due.due("38: of its kind now", x.as(0, 3), 0);
    }

    private static void sheet() {
        EchoValley x = new EchoValley();
        due.due("39: 8 bits", x.sheet(0, 8, 40), 40);
        due.due("39: 16 bits", x.sheet(1, 16, 1), 1);
        due.due("39: 32 bits, none", x.sheet(3, 32, 0), 0);
        due.due("39: none to write", x.write(3, 0, 0), Due.BEYOND);
        due.due("39: missing already", x.sheet(2, 0, 7), 0);
        due.due("39: missing", x.write(2, 0, 0), Due.MISSING);
        due.due("39: it becomes missing", x.sheet(1, 0, 40), 0);
        due.due("39: missing", x.write(1, 0, 0), Due.MISSING);
        for (int bits : new int[] {-8, -1, 1, 4, 7, 9, 15, 24, 31, 33, 64, Integer.MIN_VALUE, Integer.MAX_VALUE}) {
            due.due("39: bits " + bits, x.sheet(0, bits, 3), Due.BEYOND);
        }
        for (int bits : new int[] {0, 8, 16, 32}) {
            due.due("39: n -1", x.sheet(0, bits, -1), Due.SIZE);
            due.due("39: n far below", x.sheet(0, bits, Integer.MIN_VALUE), Due.SIZE);
            due.due("39: n 41", x.sheet(0, bits, 41), Due.BEYOND);
            due.due("39: n far above", x.sheet(0, bits, Integer.MAX_VALUE), Due.BEYOND);
        }
        due.due("39: bits ahead of n", x.sheet(0, 1, -1), Due.BEYOND);
        due.due("39: sheet ahead of n", x.sheet(4, 8, -1), Due.BEYOND);
        due.due("39: sheet -1", x.sheet(-1, 8, 3), Due.BEYOND);
        due.due("39: it stays", x.write(0, 39, 0), 1);
    }

    private static void sheetIsAnew(EchoValley x) {
        x.sheet(0, 8, 3);
        x.write(0, 0, 5);
        x.write(0, 2, 5);
        x.sheet(0, 8, 3);
        due.due("39: all 0", x.load(0, 5), 3);
        due.due("39: all 0", x.where(5, 0), 0);
        due.due("39: all 0", x.where(5, 2), 0);
        x.sheet(0, 0, 0);
        x.sheet(0, 8, 40);
        due.due("39: all 0 behind MISSING", x.load(0, 5), 24);
        due.due("39: all 0 behind MISSING", x.where(5, 23), 0);
    }

    /** What a sheet holds is told by where load() puts a PERSON: -1 and 0 to 9 come, others don't. */
    private static void write() {
        EchoValley x = new EchoValley();
        sheetIsAnew(x);
        x.sheet(0, 8, 4);
        due.due("40: 255 of 8 bits", x.write(0, 0, 255), 1);
        due.due("40: lowest bits", x.write(0, 1, 0x12345605), 1);
        due.due("40: of 8 bits", x.write(0, 2, -250), 1);
        due.due("40: 128 of 8 bits", x.write(0, 3, 128), 1);
        due.due("40: as they are", x.load(0, 0), 3);
        due.due("40: 255 is -1", x.where(0, 0), -1);
        due.due("40: lowest bits", x.where(0, 1), 5);
        due.due("40: -250 is 6", x.where(0, 2), 6);
        x.sheet(1, 16, 4);
        x.write(1, 0, 65535);
        x.write(1, 1, 0x7fff0009);
        x.write(1, 2, -65529);
        x.write(1, 3, 255);
        x.person(1, 3, 0, 23);
        due.due("40: 255 of 16 bits is no place", x.load(1, 1), 3);
        due.due("40: 65535 is -1", x.where(1, 0), -1);
        due.due("40: lowest bits", x.where(1, 1), 9);
        due.due("40: -65529 is 7", x.where(1, 2), 7);
        x.sheet(2, 32, 4);
        x.write(2, 0, -1);
        x.write(2, 1, 8);
        x.write(2, 2, 65535);
        due.due("40: 65535 of 32 bits is no place", x.load(2, 1), 2);
        x.write(2, 2, 0);
        x.write(2, 3, 0x10000);
        due.due("40: all bits count", x.load(2, 1), 3);
        due.due("40: i -1", x.write(2, -1, 0), Due.BEYOND);
        due.due("40: i 4", x.write(2, 4, 0), Due.BEYOND);
        due.due("40: sheet 4", x.write(4, 0, 0), Due.BEYOND);
        due.due("40: missing ahead of the number", x.write(3, -1, 0), Due.MISSING);
    }

    /** Sheet s gets these numbers of 8 bits. */
    private static void fill(EchoValley x, int s, int... numbers) {
        x.sheet(s, 8, numbers.length);
        for (int i = 0; i < numbers.length; i++) {
            x.write(s, i, numbers[i]);
        }
    }

    private static void dueNumbers(String run, EchoValley x, int s, int... numbers) {
        x.person(5, -1, 0, 23);
        due.due(run + ": how many", x.load(s, 5), numbers.length);
        for (int i = 0; i < numbers.length; i++) {
            due.due(run + ": number " + i, x.where(5, i), numbers[i]);
        }
    }

    private static void copy() {
        EchoValley x = new EchoValley();
        fill(x, 0, 1, 2, 3, 4, 5);
        fill(x, 3, 9, 9, 9, 9);
        due.due("41: two", x.copy(0, 3, 3, 1, 2), 2);
        dueNumbers("41: two", x, 3, 9, 4, 5, 9);
        dueNumbers("41: the source stays", x, 0, 1, 2, 3, 4, 5);
        due.due("41: four", x.copy(0, 0, 3, 0, 4), 4);
        dueNumbers("41: four", x, 3, 1, 2, 3, 4);
        due.due("41: none", x.copy(0, 5, 3, 4, 0), 0);
        due.due("41: none", x.copy(0, 0, 3, 0, 0), 0);
        dueNumbers("41: none", x, 3, 1, 2, 3, 4);
        fill(x, 1);
        due.due("41: none of none", x.copy(1, 0, 1, 0, 0), 0);
        x.sheet(2, 32, 3);
        x.write(2, 2, 7);
        due.due("41: of 32 bits", x.copy(2, 2, 2, 0, 1), 1);
        dueNumbers("41: of 32 bits", x, 2, 7, 0, 7);
    }

    private static void copyWithin() {
        EchoValley x = new EchoValley();
        fill(x, 0, 1, 2, 3, 4, 5);
        due.due("41: up", x.copy(0, 0, 0, 1, 4), 4);
        dueNumbers("41: up", x, 0, 1, 1, 2, 3, 4);
        fill(x, 0, 1, 2, 3, 4, 5);
        due.due("41: down", x.copy(0, 1, 0, 0, 4), 4);
        dueNumbers("41: down", x, 0, 2, 3, 4, 5, 5);
        due.due("41: onto itself", x.copy(0, 0, 0, 0, 5), 5);
        dueNumbers("41: onto itself", x, 0, 2, 3, 4, 5, 5);
    }

    private static void copyRefused() {
        EchoValley x = new EchoValley();
        fill(x, 0, 1, 2, 3);
        fill(x, 1, 4, 5, 6, 7);
        int most = Integer.MAX_VALUE;
        int[][] wrong = {{0, 0, 4}, {1, 0, 3}, {0, 2, 3}, {-1, 0, 1}, {0, -1, 1}, {0, 0, -1}, {4, 0, 0}, {0, 5, 0},
            {most, 0, 1}, {0, most, 1}, {0, 0, most}, {1, 1, most}, {most, most, most}, {1, 1, Integer.MIN_VALUE},
            {Integer.MIN_VALUE, 0, 1}, {0, Integer.MIN_VALUE, 1}, {most, 0, -most}, {3, 0, 1}, {0, 4, 1}};
        for (int[] w : wrong) {
            due.due("41: wrong " + w[0] + ", " + w[1] + ", " + w[2], x.copy(0, w[0], 1, w[1], w[2]), Due.BEYOND);
        }
        dueNumbers("41: refused ones change nothing", x, 1, 4, 5, 6, 7);
        x.sheet(2, 16, 4);
        due.due("41: not of as many bits", x.copy(0, 0, 2, 0, 1), Due.KIND);
        due.due("41: not of as many bits", x.copy(2, 0, 0, 0, 1), Due.KIND);
    }

    private static void load() {
        EchoValley x = new EchoValley();
        x.person(2, 6, 0, 23);
        fill(x, 0, 0, -1, 9, 10, 3);
        due.due("42: till the first that is no place", x.load(0, 2), 3);
        int[] places = {0, -1, 9, 6, 6};
        for (int hour = 0; hour < places.length; hour++) {
            due.due("42: hour " + hour, x.where(2, hour), places[hour]);
        }
        x.write(0, 0, -2);
        due.due("42: none came", x.load(0, 2), 0);
        due.due("42: none came", x.where(2, 0), 0);
        due.due("42: another one", x.where(3, 0), -1);
        fill(x, 0);
        due.due("42: an empty sheet", x.load(0, 2), 0);
        x.sheet(0, 8, 23);
        due.due("42: 23", x.load(0, 2), 23);
        due.due("42: the last hour stays", x.where(2, 23), 6);
        x.sheet(0, 8, 40);
        due.due("42: hours end", x.load(0, 2), 24);
        due.due("42: the last hour", x.where(2, 23), 0);
        due.due("42: the next one", x.where(3, 0), -1);
        due.due("42: the last one", x.load(0, 5), 24);
    }

    private static void judge() {
        EchoValley x = new EchoValley();
        Due.row(x);
        x.say(Due.ONCE, 0, 3, 1, 20);
        x.say(Due.LOW, 0, 1, 2, 21);
        x.say(Due.LOW, 0, 1, 2, 22);
        x.say(Due.LOW, 0, 1, 3, 23);
        fill(x, 0, 1, 2, 2, 3);
        due.due("43: so", x.judge(0, 120), 0);
        due.due("43: on its own day", x.judge(0, 20), 1);
        due.due("43: the last day", x.judge(0, 920), 0);
        due.due("43: too late", x.judge(0, 1020), 1);
        due.due("43: at another hour", x.judge(0, 121), 1);
        x.write(0, 0, 0);
        due.due("43: no way to the second", x.judge(0, 120), 2);
        x.way(0, 2, true);
        due.due("43: a way to it", x.judge(0, 120), 0);
        x.way(2, 3, false);
        due.due("43: no way to the last", x.judge(0, 120), 4);
        x.way(2, 3, true);
        x.write(0, 2, 1);
        due.due("43: nothing is heard at the third", x.judge(0, 120), 3);
        x.write(0, 2, 10);
        due.due("43: no place", x.judge(0, 120), 3);
        x.write(0, 2, -1);
        due.due("43: no place", x.judge(0, 120), 3);
        x.write(0, 0, -1);
        due.due("43: the first is no place", x.judge(0, 120), 1);
        fill(x, 1, 3, 3);
        due.due("43: no hour for the second", x.judge(1, 123), 2);
        fill(x, 1);
        due.due("43: an empty one", x.judge(1, 123), 0);
        x.sheet(1, 8, 40);
        due.due("43: of 40", x.judge(1, 0), 1);
        for (int hour = 0; hour < 24; hour++) {
            x.say(Due.LOW, 0, 1, 0, hour);
        }
        due.due("43: 24 hours, and a 25th", x.judge(1, 100), 25);
    }

    private static void orderOfFindings() {
        EchoValley x = new EchoValley();
        fill(x, 0, 1, 2);
        x.sheet(1, 16, 2);
        due.due("40: no such sheet", x.write(9, 50, 0), Due.BEYOND);
        due.due("40: missing", x.write(2, 50, 0), Due.MISSING);
        due.due("41: no such sheet ahead of missing", x.copy(2, 0, 4, 0, 1), Due.BEYOND);
        due.due("41: no such sheet ahead of missing", x.copy(-1, 0, 2, 0, 1), Due.BEYOND);
        due.due("41: missing ahead of a number", x.copy(2, -1, 0, 0, 1), Due.MISSING);
        due.due("41: missing", x.copy(0, 0, 2, 0, -1), Due.MISSING);
        due.due("41: missing", x.copy(2, 0, 3, 0, 1), Due.MISSING);
        due.due("41: bits ahead of a number", x.copy(0, -1, 1, 0, 1), Due.KIND);
        due.due("42: no such sheet", x.load(4, 6), Due.BEYOND);
        due.due("42: missing ahead of the person", x.load(2, 6), Due.MISSING);
        due.due("42: no such person", x.load(0, 6), Due.BEYOND);
        due.due("42: no such person", x.load(0, -1), Due.BEYOND);
        due.due("43: no such sheet", x.judge(4, 24), Due.BEYOND);
        due.due("43: missing ahead of when", x.judge(2, 24), Due.MISSING);
        due.due("43: when", x.judge(0, 24), Due.BEYOND);
        due.due("43: when", x.judge(0, -1), Due.BEYOND);
        due.due("43: when", x.judge(0, 10000), Due.BEYOND);
        due.due("48: MISSING", x.status(5), 6);
        due.due("48: KIND", x.status(2), 1);
    }

    private static void wrongInputs() {
        EchoValley x = new EchoValley();
        x.say(0, 0, 1, 0, 0);
        fill(x, 0, 1, 2);
        for (int i = 0; i < Due.FAR.length + 2; i++) {
            int far = i < Due.FAR.length ? Due.FAR[i] : i == Due.FAR.length ? -2 : 10;
            due.due("37: spot far", x.hold(far, 0), Due.BEYOND);
            due.due("37: saying far", x.hold(0, far), Due.BEYOND);
            due.due("38: spot far", x.as(far, 0), Due.BEYOND);
            due.due("38: kind far", x.as(0, far), Due.BEYOND);
            due.due("39: sheet far", x.sheet(far, 8, 1), Due.BEYOND);
            due.due("39: bits far", x.sheet(0, far, 1), Due.BEYOND);
            due.due("40: sheet far", x.write(far, 0, 0), Due.BEYOND);
            due.due("40: number far", x.write(0, far, 0), Due.BEYOND);
            due.due("41: sheet far", x.copy(far, 0, 0, 0, 1), Due.BEYOND);
            due.due("41: sheet far", x.copy(0, 0, far, 0, 1), Due.BEYOND);
            due.due("42: sheet far", x.load(far, 0), Due.BEYOND);
            due.due("42: person far", x.load(0, far), Due.BEYOND);
            due.due("43: sheet far", x.judge(far, 100), Due.BEYOND);
            due.due("43: when far", x.judge(0, far == 10 ? 24 : far), Due.BEYOND);
        }
        dueNumbers("40: refused ones change nothing", x, 0, 1, 2);
    }
}
