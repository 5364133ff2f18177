import java.util.List;
import java.util.function.Supplier;

/**
 * Each finding of each act: it is answered, and ahead of those that the act asks later; status() counts it alone; and
 * nothing else changes. That is seen by an object to which all was done but the act: both tell the same.
 */
public final class FindingsTest {
    private static final Due due = new Due();

    public static void main(String[] args) {
        places();
        daysAndRain();
        say();
        sayings();
        heard();
        which();
        people();
        whoSaidTell();
        needs();
        walks();
        feed();
        spots();
        sheet();
        write();
        copy();
        loadAndJudge();
        images();
        noFindings();
        aFaultChangesNothing();
        due.end();
    }

    private static void isFound(String call, int finding, Supplier<EchoValley> ready, Act act) {
        for (int part = 0; part < Probe.PARTS; part++) {
            EchoValley x = ready.get();
            int[] was = found(x);
            due.due(call, act.on(x), finding);
            int[] is = found(x);
            for (int which = -1; which <= 6; which++) {
                boolean counts = which == -1 || which == Due.BEYOND - finding;
                due.due(call + ", then status(" + which + ")", is[which + 1], was[which + 1] + (counts ? 1 : 0));
            }
            isAlike(call, Probe.told(x, part), Probe.told(ready.get(), part));
        }
    }

    private static int[] found(EchoValley x) {
        int[] told = new int[8];
        for (int which = -1; which <= 6; which++) {
            told[which + 1] = x.status(which);
        }
        return told;
    }

    private static void isAlike(String call, List<String> is, List<String> was) {
        due.due(call + " changes nothing", is.equals(was) ? 1 : 0, 1);
        for (int i = 0; i < is.size() && i < was.size(); i++) {
            if (!is.get(i).equals(was.get(i))) {
                System.out.println("    " + is.get(i) + " behind it, but " + was.get(i) + " without it");
            }
        }
    }

    private static void isBeyond(String call, Act act) {
        isFound(call, Due.BEYOND, Valleys::busy, act);
    }

    private static void isNone(String call, Act act) {
        isFound(call, Due.NONE, Valleys::busy, act);
    }

    // ---- places, days

    private static void places() {
        isBeyond("2: way from no place", x -> x.way(-1, 1, true));
        isBeyond("2: way from no place", x -> x.way(10, 1, true));
        isBeyond("2: way to no place", x -> x.way(1, -1, false));
        isBeyond("2: way to no place", x -> x.way(1, 10, true));
        isBeyond("2: way to itself", x -> x.way(4, 4, true));
        isBeyond("2: no way to itself", x -> x.way(4, 4, false));
        isBeyond("3: BEYOND, then NONE: from no place", x -> x.steps(10, 0));
        isBeyond("3: BEYOND, then NONE: to no place", x -> x.steps(0, -1));
        isBeyond("3: from no place to itself", x -> x.steps(10, 10));
        isNone("3: no way at all", x -> x.steps(0, 5));
    }

    private static void daysAndRain() {
        isBeyond("4: no days", x -> x.days(0));
        isBeyond("4: 21 days", x -> x.days(21));
        isFound("4: BEYOND, then STATE", Due.BEYOND, () -> Valleys.onDay(99), x -> x.days(21));
        isFound("4: a day above 99", Due.STATE, () -> Valleys.onDay(99), x -> x.days(1));
        isFound("4: 20 days above 99", Due.STATE, () -> Valleys.onDay(80), x -> x.days(20));
        isBeyond("5: rain on day -1", x -> x.rain(-1, true));
        isBeyond("5: rain on day 100", x -> x.rain(100, false));
        isBeyond("6: weather from day -1", x -> x.weather(-1, 5, 100));
        isBeyond("6: weather to day 100", x -> x.weather(90, 100, 0));
        isBeyond("6: weather, the second less", x -> x.weather(6, 5, 100));
        isBeyond("6: weather, chance -1", x -> x.weather(0, 99, -1));
        isBeyond("6: weather, chance 101", x -> x.weather(0, 99, 101));
        isBeyond("7: keep 0", x -> x.keep(0));
        isBeyond("7: keep 21", x -> x.keep(21));
    }

    // ---- sayings

    private static void say() {
        int[][] wrong = {{-1, 0, 1, 0, 0}, {7, 0, 1, 0, 0}, {0, -1, 1, 0, 0}, {0, 16, 1, 0, 0}, {0, 0, 0, 0, 0},
            {0, 0, 10, 0, 0}, {0, 0, 1, -1, 0}, {0, 0, 1, 10, 0}, {0, 0, 1, 0, -1}, {0, 0, 1, 0, 24}};
        for (int[] w : wrong) {
            Act act = x -> x.say(w[0], w[1], w[2], w[3], w[4]);
            String call = "say " + w[0] + " " + w[1] + " " + w[2] + " " + w[3] + " " + w[4];
            isBeyond("8: " + call, act);
            isFound("8: BEYOND, then FULL: " + call, Due.BEYOND, Valleys::withAllSayings, act);
        }
        isFound("8: the 41st", Due.FULL, Valleys::withAllSayings, x -> x.say(3, 1, 9, 0, 23));
    }

    private static void sayings() {
        for (int s : new int[] {-1, 7}) {
            isBeyond("9: sayingOf " + s, x -> x.sayingOf(s, 0));
            isBeyond("10: turn " + s, x -> x.turn(s, 0));
            isBeyond("11: age of " + s, x -> x.age(s, 9));
            isBeyond("11: BEYOND, then STATE: age of " + s, x -> x.age(s, 0));
            isBeyond("12: BEYOND, then NONE: over " + s, x -> x.over(s));
            isBeyond("13: BEYOND, then NONE: until " + s, x -> x.until(s));
            isBeyond("14: reaches " + s, x -> x.reaches(s, 9));
            isBeyond("15: BEYOND, then NONE: drowns " + s, x -> x.drowns(s));
        }
        isBeyond("9: what -1", x -> x.sayingOf(0, -1));
        isBeyond("9: what 8", x -> x.sayingOf(0, 8));
        isBeyond("10: to kind -1", x -> x.turn(0, -1));
        isBeyond("10: to kind 7", x -> x.turn(0, 7));
        isBeyond("11: BEYOND, then STATE: on day -1", x -> x.age(1, -1));
        isBeyond("11: on day 100", x -> x.age(1, 100));
        isFound("11: on its own day", Due.STATE, Valleys::busy, x -> x.age(1, 1));
        isFound("11: ahead of it", Due.STATE, Valleys::busy, x -> x.age(1, 0));
        isNone("12: none is over it", x -> x.over(2));
        isNone("13: it is never heard", x -> x.until(5));
        isBeyond("14: on day -1", x -> x.reaches(0, -1));
        isBeyond("14: on day 100", x -> x.reaches(0, 100));
        isNone("15: a cursed one doesn't yield", x -> x.drowns(2));
    }

    // ---- what is heard

    private static void heard() {
        for (int place : new int[] {-1, 10}) {
            isBeyond("16: heard at " + place, x -> x.heard(place, 407));
            isBeyond("17: which at " + place, x -> x.which(place, 407, 0));
            isBeyond("18: words at " + place, x -> x.words(place, 407));
            isBeyond("19: BEYOND, then NONE: plain at " + place, x -> x.plain(place, 407));
            isBeyond("21: full at " + place, x -> x.full(place, 4));
        }
        for (int when : new int[] {-1, -100, 24, 199, 9924, 10000}) {
            isBeyond("16: heard, when " + when, x -> x.heard(1, when));
            isBeyond("17: BEYOND, then NONE: which, when " + when, x -> x.which(1, when, 39));
            isBeyond("18: words, when " + when, x -> x.words(1, when));
            isBeyond("19: BEYOND, then NONE: plain, when " + when, x -> x.plain(1, when));
            isBeyond("20: alone, when " + when, x -> x.alone(when));
        }
        isBeyond("21: full on day -1", x -> x.full(1, -1));
        isBeyond("21: full on day 100", x -> x.full(1, 100));
        isNone("19: none is heard", x -> x.plain(9, 407));
    }

    private static void which() {
        isBeyond("17: i -1", x -> x.which(1, 407, -1));
        isBeyond("17: BEYOND, then NONE: i 40", x -> x.which(1, 407, 40));
        isBeyond("17: BEYOND, then NONE: i 40, of none", x -> x.which(9, 407, 40));
        isNone("17: none is heard", x -> x.which(9, 407, 0));
        isNone("17: not so many are heard", x -> x.which(1, 407, 39));
    }

    // ---- people

    private static void people() {
        for (int person : new int[] {-1, 6}) {
            isBeyond("22: person " + person, x -> x.person(person, 3, 0, 23));
            isBeyond("23: where " + person, x -> x.where(person, 7));
            isBeyond("24: hears " + person, x -> x.hears(person, 4));
            isBeyond("25: BEYOND, then NONE: first " + person, x -> x.first(person, 4));
        }
        isBeyond("22: at place -2", x -> x.person(0, -2, 0, 23));
        isBeyond("22: at place 10", x -> x.person(0, 10, 0, 23));
        isBeyond("22: from hour -1", x -> x.person(0, 3, -1, 5));
        isBeyond("22: to hour 24", x -> x.person(0, 3, 5, 24));
        isBeyond("22: from hour 24 to 24", x -> x.person(0, 3, 24, 24));
        isBeyond("22: the second less", x -> x.person(0, 3, 6, 5));
        isBeyond("23: where in hour -1", x -> x.where(0, -1));
        isBeyond("23: where in hour 24", x -> x.where(0, 24));
        isBeyond("24: hears on day -1", x -> x.hears(0, -1));
        isBeyond("24: hears on day 100", x -> x.hears(0, 100));
        isBeyond("25: BEYOND, then NONE: first of word -1", x -> x.first(0, -1));
        isBeyond("25: BEYOND, then NONE: first of word 16", x -> x.first(3, 16));
        isNone("25: one who is away", x -> x.first(3, 0));
        isNone("25: a word that nobody said", x -> x.first(0, 14));
    }

    private static void whoSaidTell() {
        for (int s : new int[] {-1, 7}) {
            isBeyond("26: who " + s, x -> x.who(s));
            isBeyond("27: said " + s, x -> x.said(s));
        }
        for (int person : new int[] {-1, 6}) {
            isBeyond("28: tell " + person, x -> x.tell(person, 0));
            isBeyond("28: not " + person, x -> x.tell(0, person));
            isBeyond("28: BEYOND, then NONE: tell one who is away, and not " + person, x -> x.tell(3, person));
        }
        isBeyond("28: one and the same", x -> x.tell(0, 0));
        isBeyond("28: BEYOND, then NONE: one and the same, away", x -> x.tell(3, 3));
        isNone("28: one who is away", x -> x.tell(3, 0));
    }

    private static void needs() {
        isBeyond("29: BEYOND, then STATE: day -1", x -> x.needs(-1));
        isBeyond("29: day 100", x -> x.needs(100));
        isFound("29: BEYOND, then NONE: day 100", Due.BEYOND, Valleys::withKeep1, x -> x.needs(100));
        isFound("29: today", Due.STATE, Valleys::busy, x -> x.needs(3));
        isFound("29: ahead of today", Due.STATE, Valleys::busy, x -> x.needs(0));
        isFound("29: STATE, then NONE", Due.STATE, Valleys::withKeep1, x -> x.needs(3));
        isFound("29: with none", Due.NONE, Valleys::withKeep1, x -> x.needs(4));
    }

    // ---- walks

    private static void walks() {
        isBeyond("30: from place -1", x -> x.walk(-1, 407, 2));
        isBeyond("30: from place 10", x -> x.walk(10, 407, 2));
        isBeyond("30: when -1", x -> x.walk(1, -1, 2));
        isBeyond("30: when 424", x -> x.walk(1, 424, 1));
        isBeyond("30: when 10000", x -> x.walk(1, 10000, 2));
        isBeyond("30: n 0", x -> x.walk(1, 407, 0));
        isBeyond("30: n 25", x -> x.walk(1, 400, 25));
        isBeyond("30: the last hour 24", x -> x.walk(1, 407, 18));
        isBeyond("31: i -1", x -> x.step(-1));
        isBeyond("31: BEYOND, then NONE: i 24", x -> x.step(24));
        isFound("31: BEYOND, then NONE: i 24 of none", Due.BEYOND, EchoValley::new, x -> x.step(24));
        isNone("31: it has not so many", x -> x.step(4));
        isFound("31: none was told", Due.NONE, EchoValley::new, x -> x.step(0));
        isFound("32: all are away", Due.NONE, Valleys::withAllAway, x -> x.crowd());
    }

    private static void feed() {
        for (int n : new int[] {-1, 0, 5}) {
            isBeyond("34: n " + n, x -> x.feed('7', n));
            isFound("34: BEYOND, then FULL: n " + n, Due.BEYOND, () -> Valleys.withTape(120), x -> x.feed('7', n));
        }
        for (int n = 1; n <= 4; n++) {
            int bytes = n;
            isFound("34: no room for " + n, Due.FULL, () -> Valleys.withTape(121 - bytes), x -> x.feed('7', bytes));
        }
    }

    // ---- spots, sheets

    private static void spots() {
        isBeyond("37: spot -1", x -> x.hold(-1, 0));
        isBeyond("37: spot 10", x -> x.hold(10, 0));
        isBeyond("37: saying -2", x -> x.hold(0, -2));
        isBeyond("37: saying 7", x -> x.hold(0, 7));
        isBeyond("38: spot -1", x -> x.as(-1, 0));
        isBeyond("38: spot 10", x -> x.as(10, 0));
        isBeyond("38: BEYOND, then KIND: kind -1", x -> x.as(0, -1));
        isBeyond("38: BEYOND, then KIND: kind 7", x -> x.as(0, 7));
        isBeyond("38: BEYOND, then MISSING: kind 7 of nothing", x -> x.as(9, 7));
        isFound("38: MISSING, then KIND", Due.MISSING, Valleys::busy, x -> x.as(9, 4));
        isFound("38: nothing", Due.MISSING, Valleys::busy, x -> x.as(9, 0));
        isFound("38: not of that kind, nor of one under it", Due.KIND, Valleys::busy, x -> x.as(0, 5));
    }

    private static void sheet() {
        isBeyond("39: sheet -1", x -> x.sheet(-1, 8, 3));
        isBeyond("39: sheet 4", x -> x.sheet(4, 0, 3));
        for (int bits : new int[] {-8, 1, 7, 9, 15, 17, 24, 31, 33, 64}) {
            isBeyond("39: " + bits + " bits", x -> x.sheet(0, bits, 3));
            isBeyond("39: BEYOND, then SIZE: " + bits + " bits", x -> x.sheet(0, bits, -1));
        }
        isBeyond("39: BEYOND, then SIZE: sheet 4", x -> x.sheet(4, 8, -1));
        for (int bits : new int[] {0, 8, 16, 32}) {
            isFound("39: n -1, " + bits + " bits", Due.SIZE, Valleys::busy, x -> x.sheet(0, bits, -1));
            isBeyond("39: n 41, " + bits + " bits", x -> x.sheet(0, bits, 41));
        }
    }

    private static void write() {
        isBeyond("40: sheet -1", x -> x.write(-1, 0, 4));
        isBeyond("40: sheet 4", x -> x.write(4, 0, 4));
        isFound("40: it is missing", Due.MISSING, Valleys::busy, x -> x.write(2, 0, 4));
        isFound("40: MISSING, then BEYOND", Due.MISSING, Valleys::busy, x -> x.write(2, -1, 4));
        isBeyond("40: number -1", x -> x.write(0, -1, 4));
        isBeyond("40: number 3 of 3", x -> x.write(0, 3, 4));
    }

    private static void copy() {
        isBeyond("41: from sheet -1", x -> x.copy(-1, 0, 3, 0, 1));
        isBeyond("41: from sheet 4", x -> x.copy(4, 0, 3, 0, 1));
        isBeyond("41: to sheet -1", x -> x.copy(0, 0, -1, 0, 1));
        isBeyond("41: to sheet 4", x -> x.copy(0, 0, 4, 0, 1));
        isBeyond("41: BEYOND, then MISSING: from a missing one", x -> x.copy(2, 0, 4, 0, 1));
        isBeyond("41: BEYOND, then MISSING: to a missing one", x -> x.copy(4, 0, 2, 0, 1));
        isFound("41: from a missing one", Due.MISSING, Valleys::busy, x -> x.copy(2, 0, 0, 0, 0));
        isFound("41: to a missing one", Due.MISSING, Valleys::busy, x -> x.copy(0, 0, 2, 0, 0));
        isFound("41: MISSING, then BEYOND", Due.MISSING, Valleys::busy, x -> x.copy(0, -1, 2, 0, 1));
        isFound("41: not of as many bits", Due.KIND, Valleys::busy, x -> x.copy(0, 0, 1, 0, 1));
        isFound("41: KIND, then BEYOND", Due.KIND, Valleys::busy, x -> x.copy(1, -1, 0, 0, 1));
        isBeyond("41: from -1", x -> x.copy(0, -1, 3, 0, 1));
        isBeyond("41: to -1", x -> x.copy(0, 0, 3, -1, 1));
        isBeyond("41: n -1", x -> x.copy(0, 0, 3, 0, -1));
        isBeyond("41: the one has not so many", x -> x.copy(3, 0, 0, 0, 2));
        isBeyond("41: the other has not so many", x -> x.copy(0, 0, 3, 0, 2));
        isBeyond("41: not so many from there on", x -> x.copy(0, 2, 0, 0, 2));
        isBeyond("41: not so many to there on", x -> x.copy(0, 0, 0, 2, 2));
    }

    private static void loadAndJudge() {
        isBeyond("42: sheet -1", x -> x.load(-1, 0));
        isBeyond("42: sheet 4", x -> x.load(4, 0));
        isFound("42: it is missing", Due.MISSING, Valleys::busy, x -> x.load(2, 0));
        isFound("42: MISSING, then BEYOND", Due.MISSING, Valleys::busy, x -> x.load(2, 6));
        isBeyond("42: person -1", x -> x.load(0, -1));
        isBeyond("42: person 6", x -> x.load(0, 6));
        isBeyond("43: sheet -1", x -> x.judge(-1, 407));
        isBeyond("43: sheet 4", x -> x.judge(4, 407));
        isFound("43: it is missing", Due.MISSING, Valleys::busy, x -> x.judge(2, 407));
        isFound("43: MISSING, then BEYOND", Due.MISSING, Valleys::busy, x -> x.judge(2, -1));
        for (int when : new int[] {-1, 24, 424, 10000}) {
            isBeyond("43: when " + when, x -> x.judge(0, when));
        }
    }

    // ---- images

    private static void images() {
        isFound("45: nothing is kept", Due.NONE, Valleys::withNothingKept, x -> x.undo());
        isFound("45: nothing is kept yet", Due.NONE, EchoValley::new, x -> x.undo());
        isBeyond("47: what -1", x -> x.count(-1));
        isBeyond("47: what 8", x -> x.count(8));
        isBeyond("48: which -2", x -> x.status(-2));
        isBeyond("48: which 7", x -> x.status(7));
    }

    /** These have none, whatever they are asked. */
    private static void noFindings() {
        Act[] acts = {x -> x.seed(Due.BEYOND), x -> x.count(6), x -> x.seed(Due.SIZE), x -> x.count(6),
            x -> x.wipe(), x -> x.wipe(), x -> x.text(), x -> Due.read(x, "keep 21"), x -> x.tear(), x -> x.tear(),
            x -> x.image(), x -> x.image(), x -> x.undo(), x -> x.status(-1), x -> x.status(6)};
        EchoValley x = Valleys.busy();
        int was = x.status(-1);
        for (int i = 0; i < acts.length; i++) {
            acts[i].on(x);
            due.due("48: no finding of act " + i, x.status(-1), was);
        }
        due.due("33: it tells what looks as a finding", x.seed(0), Due.SIZE);
        due.due("48: that is none", x.status(-1), was);
    }

    /** A FAULT is no finding, but changes nothing either, but that THE TAPE is empty. */
    private static void aFaultChangesNothing() {
        String items = ";way 0 9;kept 1 at 2 hour 3;person 3 at 4;keep 1;rain 70;rain 71,";
        for (int part = 0; part < Probe.PARTS; part++) {
            EchoValley x = Valleys.busy();
            int was = x.status(-1);
            due.due("36: a fault", Due.read(x, items), -1 - 7 - items.indexOf(','));
            due.due("36: no finding", x.status(-1), was);
            EchoValley y = Valleys.busy();
            y.wipe();
            isAlike("36: a fault", Probe.told(x, part), Probe.told(y, part));
        }
    }
}
