/** Promises 44 to 48: image, undo, tear, count, status. */
public final class ImagesTest {
    private static final Due due = new Due();

    public static void main(String[] args) {
        imageAndUndo();
        whatIsNotKept();
        theLatestImage();
        imageIsApart();
        whatIsTakenBackIsNotHeard();
        tear();
        count();
        heardToday();
        status();
        statusOfItself();
        findingsChangeNothing();
        due.end();
    }

    private static EchoValley valley() {
        EchoValley x = new EchoValley();
        x.way(0, 1, true);
        x.days(3);
        x.rain(7, true);
        x.keep(5);
        x.say(Due.KEPT, 2, 3, 4, 5);
        x.say(Due.ONCE, 6, 7, 8, 9);
        x.person(2, 3, 4, 5);
        x.seed(99);
        x.hold(4, 1);
        return x;
    }

    private static void dueAsMade(String run, EchoValley x) {
        int[] counts = {3, 2, 1, 1, 5};
        for (int what = 0; what < counts.length; what++) {
            due.due(run + ": count(" + what + ")", x.count(what), counts[what]);
        }
        due.due(run + ": z", x.count(6), 99);
        due.due(run + ": way", x.steps(0, 1), 1);
        due.due(run + ": no other way", x.steps(1, 2), Due.NONE);
        due.due(run + ": rain", x.rain(7, true), 1);
        int[] one = {1, 2, 3, 4, 5, 3};
        int[] other = {0, 6, 7, 8, 9, 3};
        for (int what = 0; what < one.length; what++) {
            due.due(run + ": saying 0, " + what, x.sayingOf(0, what), one[what]);
            due.due(run + ": saying 1, " + what, x.sayingOf(1, what), other[what]);
        }
        due.due(run + ": where", x.where(2, 4), 3);
        due.due(run + ": away", x.where(0, 0), -1);
        due.due(run + ": a spot", x.as(4, 0), 1);
        due.due(run + ": another spot", x.as(5, 0), Due.MISSING);
    }

    private static void change(EchoValley x) {
        x.way(0, 1, false);
        x.way(1, 2, true);
        x.way(2, 3, true);
        x.days(4);
        x.rain(7, false);
        x.rain(8, true);
        x.rain(9, true);
        x.keep(6);
        x.turn(0, Due.LOW);
        x.turn(1, Due.LOW);
        x.say(Due.CURSED, 0, 1, 0, 0);
        x.person(2, 9, 0, 23);
        x.person(0, 9, 0, 23);
        x.seed(5);
        x.hold(4, 2);
        x.hold(5, 0);
    }

    private static void imageAndUndo() {
        EchoValley x = valley();
        dueAsMade("44: as made", x);
        due.due("44: image", x.image(), 1);
        dueAsMade("44: it changes nothing", x);
        change(x);
        due.due("45: undo", x.undo(), 2);
        dueAsMade("45: as kept", x);
        due.due("45: undo again", x.undo(), 2);
        dueAsMade("45: as kept", x);
        due.due("45: what comes next", x.say(0, 0, 1, 0, 0), 2);
    }

    private static void whatIsNotKept() {
        EchoValley x = valley();
        Due.put(x, "keep 9");
        x.sheet(0, 8, 2);
        x.write(0, 0, 4);
        x.walk(5, 0, 2);
        x.image();
        x.wipe();
        Due.put(x, "rain 1");
        x.sheet(1, 16, 3);
        x.write(0, 0, 7);
        x.walk(6, 0, 3);
        due.due("45: undo", x.undo(), 2);
        due.due("44: THE TAPE stays", x.count(5), 6);
        due.due("44: THE TAPE stays", x.text(), 1);
        due.due("44: THE TAPE stays", x.rain(1, true), 1);
        due.due("44: SHEETS stay", x.write(1, 2, 0), 1);
        due.due("44: SHEETS stay", x.load(0, 0), 2);
        due.due("44: SHEETS stay", x.where(0, 0), 7);
        due.due("44: the WALK stays", x.step(2), 6);
        EchoValley y = new EchoValley();
        y.image();
        y.walk(6, 0, 3);
        y.sheet(2, 8, 3);
        Due.put(y, "rain");
        due.due("45: undo", y.undo(), 0);
        due.due("44: the WALK stays", y.step(2), 6);
        due.due("44: SHEETS stay", y.write(2, 2, 0), 1);
        due.due("44: THE TAPE stays", y.wipe(), 4);
    }

    private static void theLatestImage() {
        EchoValley x = new EchoValley();
        due.due("45: nothing is kept", x.undo(), Due.NONE);
        x.image();
        x.say(0, 0, 1, 0, 0);
        x.image();
        x.say(0, 0, 1, 0, 0);
        due.due("45: the latest", x.undo(), 1);
        due.due("45: it stays", x.undo(), 1);
        due.due("46: torn", x.tear(), 1);
        due.due("46: none is below it", x.undo(), Due.NONE);
        due.due("46: it stands as it is", x.count(1), 1);
    }

    /** What is done behind an image or an undo doesn't change the image. */
    private static void imageIsApart() {
        EchoValley x = valley();
        x.image();
        change(x);
        x.undo();
        change(x);
        due.due("45: undo", x.undo(), 2);
        dueAsMade("45: as kept", x);
        due.due("36: a text", Due.read(x, "way 5 6;keep 2;rain 50;person 0 at 7;once 1 at 1 hour 1"), 5);
        due.due("45: undo behind a text", x.undo(), 2);
        dueAsMade("45: as kept", x);
    }

    private static void whatIsTakenBackIsNotHeard() {
        EchoValley x = new EchoValley();
        x.way(3, 4, true);
        x.person(0, 3, 0, 23);
        x.say(Due.LOW, 1, 1, 2, 5);
        x.image();
        x.say(Due.ONCE, 2, 9, 3, 5);
        x.say(Due.OVER, 4, 9, 2, 5);
        due.due("45: said", x.heard(3, 105), 1);
        due.due("45: said over", x.over(0), 2);
        x.undo();
        due.due("45: its number isn't one", x.sayingOf(1, 0), Due.BEYOND);
        due.due("45: not held", x.hold(0, 1), Due.BEYOND);
        due.due("45: not heard", x.heard(3, 105), 0);
        due.due("45: no words", x.words(3, 105), 0);
        due.due("45: alone", x.alone(105), 1023 & ~Due.set(2, 3));
        due.due("45: not full", x.full(3, 1), 0);
        due.due("45: she hears none", x.hears(0, 1), 0);
        due.due("45: nor that word", x.first(0, 2), Due.NONE);
        due.due("45: not said over", x.over(0), Due.NONE);
        due.due("45: no walk to it", x.walk(3, 105, 1), 0);
        x.days(1);
        due.due("45: one is heard", x.count(7), 1);
    }

    private static void tear() {
        EchoValley x = new EchoValley();
        due.due("46: nothing", x.tear(), 0);
        x.image();
        due.due("46: something", x.tear(), 1);
        due.due("46: nothing", x.tear(), 0);
        due.due("46: nothing is kept", x.undo(), Due.NONE);
        x.say(0, 0, 1, 0, 0);
        x.image();
        due.due("46: kept anew", x.undo(), 1);
    }

    private static void count() {
        EchoValley x = valley();
        Due.put(x, "abc");
        x.way(4, 9, true);
        x.rain(99, true);
        x.rain(0, true);
        int[] counts = {3, 2, 2, 3, 5, 3, 99, 0};
        for (int what = 0; what < counts.length; what++) {
            due.due("47: count(" + what + ")", x.count(what), counts[what]);
        }
        due.due("47: no finding", x.status(-1), 0);
        due.due("47: what -1", x.count(-1), Due.BEYOND);
        due.due("47: what 8", x.count(8), Due.BEYOND);
        for (int far : Due.FAR) {
            due.due("47: what far", x.count(far), Due.BEYOND);
        }
        EchoValley y = new EchoValley();
        for (int a = 0; a < 10; a++) {
            for (int b = 0; b < a; b++) {
                y.way(a, b, true);
            }
        }
        due.due("47: all ways", y.count(2), 45);
        y.weather(0, 99, 100);
        due.due("47: all days", y.count(3), 100);
        y.seed(-1000003);
        due.due("47: z that looks as a finding", y.count(6), -1000003);
        due.due("47: it is none", y.status(-1), 0);
    }

    private static void heardToday() {
        EchoValley x = valley();
        due.due("47: said today", x.count(7), 0);
        x.days(1);
        due.due("47: tomorrow", x.count(7), 2);
        x.days(3);
        due.due("47: four days, and rain", x.count(7), 2);
        x.days(1);
        due.due("47: one is washed off", x.count(7), 1);
        x.say(Due.OVER, 0, 1, 4, 5);
        due.due("47: the other is said over", x.count(7), 0);
        x.days(1);
        due.due("47: the new one", x.count(7), 1);
    }

    private static void status() {
        EchoValley x = new EchoValley();
        x.days(0);
        x.days(0);
        for (int i = 0; i < 41; i++) {
            x.say(0, 0, 1, 0, 0);
        }
        x.hold(0, 0);
        x.as(0, 1);
        x.as(0, 2);
        x.as(0, 3);
        for (int i = 0; i < 4; i++) {
            x.step(0);
        }
        for (int i = 0; i < 5; i++) {
            x.needs(0);
        }
        for (int i = 0; i < 6; i++) {
            x.as(1, 0);
        }
        for (int i = 0; i < 7; i++) {
            x.sheet(0, 8, -1);
        }
        int[] told = {2, 1, 3, 4, 5, 6, 7};
        for (int which = 0; which < told.length; which++) {
            due.due("48: status(" + which + ")", x.status(which), told[which]);
        }
        due.due("48: all", x.status(-1), 28);
        x.image();
        x.days(0);
        x.undo();
        due.due("48: undo takes none back", x.status(0), 3);
        due.due("48: undo takes none back", x.status(-1), 29);
    }

    private static void statusOfItself() {
        EchoValley x = new EchoValley();
        due.due("48: which 7", x.status(7), Due.BEYOND);
        due.due("48: counted", x.status(0), 1);
        due.due("48: which -2", x.status(-2), Due.BEYOND);
        due.due("48: counted", x.status(-1), 2);
        int more = 2;
        for (int far : Due.FAR) {
            due.due("48: which far", x.status(far), Due.BEYOND);
            more++;
            due.due("48: counted", x.status(0), more);
        }
        Due.read(x, "fault");
        due.due("48: a fault isn't one", x.status(-1), more);
    }

    private static void findingsChangeNothing() {
        EchoValley x = valley();
        x.way(0, 0, false);
        x.days(50);
        x.rain(100, true);
        x.weather(0, 100, 100);
        x.keep(0);
        x.say(0, 0, 1, 0, 24);
        x.turn(0, 9);
        x.person(2, 1, 4, 24);
        x.hold(4, 9);
        x.undo();
        x.feed(0, 5);
        dueAsMade("48: refused acts", x);
    }
}
