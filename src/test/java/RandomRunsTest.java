import java.util.Random;

/** Runs of calls by chance (the same ones each time), asked of the class and of the model of the document. */
public final class RandomRunsTest {
    private static final int RUNS = 1500;
    private static final int CALLS = 512;
    private static final String[] CHANGES = {"way", "way", "way", "days", "rain", "weather", "keep", "say", "say",
        "say", "say", "turn", "person", "person", "seed", "feed", "wipe", "text", "text", "hold", "sheet", "write",
        "write", "write", "copy", "load", "image", "undo", "tear", "walk"};
    private static final String[] QUESTIONS = {"steps", "sayingOf", "age", "over", "until", "reaches", "drowns",
        "heard", "which", "words", "plain", "alone", "full", "where", "hears", "first", "who", "said", "tell", "needs",
        "walk", "step", "crowd", "as", "judge", "judge", "count", "status"};
    private static final int[] EDGES = {-2, -1, 0, 1, 5, 6, 7, 8, 9, 10, 15, 16, 20, 21, 23, 24, 39, 40, 41, 99, 100,
        123, 124, 9923, 9924, 10000, -100, Integer.MIN_VALUE, Integer.MAX_VALUE};
    private static final String[] PIECES = {"way", "once", "kept", "low", "over", "carried", "cursed", "hushed",
        "at", "hour", "hours", "loud", "person", "keep", "rain", ";", " ", "0", "1", "9", "10", "23", "24", "999",
        "1000", "x", "?", "00"};

    private final Random random;
    private final Due due;
    private final EchoValley x = new EchoValley();
    private final Model model = new Model();
    private final int run;
    /** Few HOURS, PLACES and much of one thing make it likely that calls meet. */
    private final int hours;
    private final int places;
    private final int wrongOneIn;
    private int calls;

    private RandomRunsTest(int run, Due due) {
        this.run = run;
        this.due = due;
        random = new Random(run);
        hours = random.nextBoolean() ? 24 : 1 + random.nextInt(4);
        places = random.nextBoolean() ? 10 : 2 + random.nextInt(4);
        wrongOneIn = random.nextBoolean() ? 30 : 300;
    }

    public static void main(String[] args) {
        Due due = new Due();
        for (int run = 0; run < RUNS; run++) {
            new RandomRunsTest(run, due).go();
        }
        due.end();
    }

    private void go() {
        while (calls < CALLS - 80) {
            if (random.nextInt(100) < 45) {
                some(CHANGES);
            } else {
                some(QUESTIONS);
            }
        }
        for (int which = -1; which <= 6; which++) {
            ask("status", which);
        }
        for (int what = 0; what <= 7; what++) {
            ask("count", what);
        }
    }

    private void some(String[] names) {
        String name = names[random.nextInt(names.length)];
        if (name.equals("text")) {
            feedText();
        }
        int[] a = arguments(name);
        for (int i = 0; i < a.length; i++) {
            if (random.nextInt(wrongOneIn) == 0) {
                a[i] = EDGES[random.nextInt(EDGES.length)];
            }
        }
        ask(name, a);
        if (name.equals("walk")) {
            for (int i = 0; i < a[2] && i < 4; i++) {
                ask("step", i);
            }
        }
    }

    private void ask(String name, int... a) {
        calls++;
        StringBuilder told = new StringBuilder("run " + run + ", call " + calls + ": " + name);
        for (int v : a) {
            told.append(' ').append(v);
        }
        due.due(told.toString(), answer(name, a), model.call(name, a));
    }

    private int under(int bound) {
        return random.nextInt(bound);
    }

    private int place() {
        return under(places);
    }

    private int hour() {
        return under(hours);
    }

    private int saying() {
        int n = x.count(1);
        calls++;
        return n == 0 ? 0 : under(n);
    }

    private int day() {
        if (random.nextInt(4) == 0) {
            return under(100);
        }
        int today = x.count(0);
        calls++;
        return Math.min(99, Math.max(0, today - 5 + under(15)));
    }

    private int when() {
        return 100 * day() + hour();
    }

    private int bit() {
        return under(4) == 0 ? 0 : 1;
    }

    private int[] arguments(String name) {
        switch (name) {
            case "way":
                return new int[] {place(), place(), bit()};
            case "steps":
                return new int[] {place(), place()};
            case "days":
                return new int[] {under(3) == 0 ? 1 + under(20) : 1 + under(3)};
            case "rain":
                return new int[] {day(), bit()};
            case "weather": {
                int from = day();
                return new int[] {from, Math.min(99, from + under(20)), under(101)};
            }
            case "keep":
                return new int[] {1 + under(under(2) == 0 ? 4 : 20)};
            case "say":
                return new int[] {under(7), under(16), 1 + under(9), place(), hour()};
            case "sayingOf":
                return new int[] {saying(), under(8)};
            case "turn":
                return new int[] {saying(), under(7)};
            case "age":
            case "reaches":
                return new int[] {saying(), day()};
            case "over":
            case "until":
            case "drowns":
            case "who":
            case "said":
                return new int[] {saying()};
            case "heard":
            case "words":
            case "plain":
                return new int[] {place(), when()};
            case "which":
                return new int[] {place(), when(), under(4)};
            case "alone":
                return new int[] {when()};
            case "full":
                return new int[] {place(), day()};
            default:
                return moreArguments(name);
        }
    }

    private int[] moreArguments(String name) {
        switch (name) {
            case "person": {
                int from = hour();
                return new int[] {under(6), place() - (under(5) == 0 ? 1 : 0), from, from + under(24 - from)};
            }
            case "where":
                return new int[] {under(6), hour()};
            case "hears":
                return new int[] {under(6), day()};
            case "first":
                return new int[] {under(6), under(16)};
            case "tell":
                return new int[] {under(6), under(6)};
            case "needs":
                return new int[] {day()};
            case "walk": {
                int when = when();
                return new int[] {place(), when, 1 + under(24 - when % 100)};
            }
            case "step":
                return new int[] {under(24)};
            case "seed":
                return new int[] {random.nextInt()};
            case "feed":
                return new int[] {random.nextInt(), 1 + under(4)};
            case "hold":
                return new int[] {under(3), under(4) == 0 ? -1 : saying()};
            case "as":
                return new int[] {under(3), under(7)};
            case "sheet":
                return new int[] {under(4), new int[] {0, 8, 8, 8, 16, 32}[under(6)], under(3) == 0 ? under(41) : under(6)};
            case "write":
                return new int[] {under(4), under(5), under(4) == 0 ? random.nextInt() : place()};
            case "copy":
                return new int[] {under(4), under(4), under(4), under(4), under(4)};
            case "load":
                return new int[] {under(4), under(6)};
            case "judge":
                return new int[] {under(4), when()};
            case "count":
                return new int[] {under(8)};
            case "status":
                return new int[] {under(8) - 1};
            default:
                return new int[0];
        }
    }

    private void feedText() {
        StringBuilder text = new StringBuilder();
        int items = 1 + under(4);
        for (int i = 0; i < items; i++) {
            text.append(i == 0 ? "" : ";").append(item());
        }
        if (under(3) == 0) {
            int at = under(text.length() + 1);
            int end = Math.min(text.length(), at + under(3));
            text.replace(at, end, PIECES[under(PIECES.length)]);
        }
        for (int i = 0; i < text.length(); i += 4) {
            int n = Math.min(4, text.length() - i);
            int bytes = 0;
            for (int k = 0; k < n; k++) {
                bytes = bytes << 8 | text.charAt(i + k);
            }
            ask("feed", bytes, n);
        }
    }

    private String item() {
        switch (under(5)) {
            case 0:
                return "way " + under(10) + " " + under(10);
            case 1:
                return "person " + under(6) + " at " + place() + (under(2) == 0 ? "" : " hours " + hour() + " " + hour());
            case 2:
                return under(2) == 0 ? "keep " + under(22) : "rain " + under(101);
            default:
                return PIECES[1 + under(7)] + " " + under(16) + " at " + place() + " hour " + hour()
                    + (under(2) == 0 ? "" : " loud " + under(10));
        }
    }

    private int answer(String name, int[] a) {
        switch (name) {
            case "way": return x.way(a[0], a[1], a[2] != 0);
            case "steps": return x.steps(a[0], a[1]);
            case "days": return x.days(a[0]);
            case "rain": return x.rain(a[0], a[1] != 0);
            case "weather": return x.weather(a[0], a[1], a[2]);
            case "keep": return x.keep(a[0]);
            case "say": return x.say(a[0], a[1], a[2], a[3], a[4]);
            case "sayingOf": return x.sayingOf(a[0], a[1]);
            case "turn": return x.turn(a[0], a[1]);
            case "age": return x.age(a[0], a[1]);
            case "over": return x.over(a[0]);
            case "until": return x.until(a[0]);
            case "reaches": return x.reaches(a[0], a[1]);
            case "drowns": return x.drowns(a[0]);
            case "heard": return x.heard(a[0], a[1]);
            case "which": return x.which(a[0], a[1], a[2]);
            case "words": return x.words(a[0], a[1]);
            case "plain": return x.plain(a[0], a[1]);
            case "alone": return x.alone(a[0]);
            case "full": return x.full(a[0], a[1]);
            case "person": return x.person(a[0], a[1], a[2], a[3]);
            case "where": return x.where(a[0], a[1]);
            case "hears": return x.hears(a[0], a[1]);
            case "first": return x.first(a[0], a[1]);
            case "who": return x.who(a[0]);
            case "said": return x.said(a[0]);
            case "tell": return x.tell(a[0], a[1]);
            case "needs": return x.needs(a[0]);
            default: return moreAnswer(name, a);
        }
    }

    private int moreAnswer(String name, int[] a) {
        switch (name) {
            case "walk": return x.walk(a[0], a[1], a[2]);
            case "step": return x.step(a[0]);
            case "crowd": return x.crowd();
            case "seed": return x.seed(a[0]);
            case "feed": return x.feed(a[0], a[1]);
            case "wipe": return x.wipe();
            case "text": return x.text();
            case "hold": return x.hold(a[0], a[1]);
            case "as": return x.as(a[0], a[1]);
            case "sheet": return x.sheet(a[0], a[1], a[2]);
            case "write": return x.write(a[0], a[1], a[2]);
            case "copy": return x.copy(a[0], a[1], a[2], a[3], a[4]);
            case "load": return x.load(a[0], a[1]);
            case "judge": return x.judge(a[0], a[1]);
            case "image": return x.image();
            case "undo": return x.undo();
            case "tear": return x.tear();
            case "count": return x.count(a[0]);
            case "status": return x.status(a[0]);
            default: throw new IllegalStateException(name);
        }
    }
}
