/** Promises 34 to 36: feed, wipe, text. */
public final class TextsTest {
    private static final Due due = new Due();

    public static void main(String[] args) {
        feed();
        wipe();
        wayItems();
        sayingItems();
        personItems();
        keepAndRainItems();
        severalItems();
        tokens();
        faults();
        faultsChangeNothing();
        the41stSaying();
        due.end();
    }

    private static void feed() {
        EchoValley x = new EchoValley();
        due.due("34: n 0", x.feed(0, 0), Due.BEYOND);
        due.due("34: n 5", x.feed(0, 5), Due.BEYOND);
        due.due("34: n -1", x.feed(0, -1), Due.BEYOND);
        for (int far : Due.FAR) {
            due.due("34: n far", x.feed(0, far), Due.BEYOND);
        }
        due.due("34: none came", x.count(5), 0);
        // "keep 20": the bytes above the n lowest ones don't count.
        due.due("34: four", x.feed('k' << 24 | 'e' << 16 | 'e' << 8 | 'p', 4), 4);
        due.due("34: one", x.feed(0xffffff00 | ' ', 1), 5);
        due.due("34: two", x.feed('z' << 16 | '2' << 8 | '0', 2), 7);
        due.due("34: three", x.feed('q' << 24 | ' ' << 16 | ' ' << 8 | ' ', 3), 10);
        due.due("34: count", x.count(5), 10);
        due.due("34: read in that order", x.text(), 1);
        due.due("34: read in that order", x.count(4), 20);
        for (int i = 1; i <= 29; i++) {
            due.due("34: more", x.feed(-1, 4), 4 * i);
        }
        due.due("34: 119", x.feed(-1, 3), 119);
        due.due("34: no room for two", x.feed(-1, 2), Due.FULL);
        due.due("34: BEYOND ahead of FULL", x.feed(-1, 5), Due.BEYOND);
        due.due("34: it stays", x.count(5), 119);
        due.due("34: 120", x.feed(-1, 1), 120);
        due.due("34: full", x.feed(-1, 1), Due.FULL);
        due.due("34: full", x.feed(-1, 4), Due.FULL);
        due.due("34: bytes of 255 begin no token", x.text(), -1);
    }

    private static void wipe() {
        EchoValley x = new EchoValley();
        due.due("35: empty", x.wipe(), 0);
        Due.put(x, "rain 5");
        due.due("35: six", x.wipe(), 6);
        due.due("35: empty", x.count(5), 0);
        due.due("35: empty", x.wipe(), 0);
        due.due("35: behind it", Due.read(x, "keep 7"), 1);
        due.due("35: behind it", x.count(4), 7);
        due.due("35: what was wiped isn't told", x.count(3), 0);
    }

    private static void wayItems() {
        EchoValley x = new EchoValley();
        due.due("36: way", Due.read(x, "way 0 9"), 1);
        due.due("36: there is one", x.way(9, 0, true), 1);
        due.due("36: the tape is empty", x.count(5), 0);
        due.due("36: again", Due.read(x, "way 9 0"), 1);
        due.due("36: one", x.count(2), 1);
    }

    private static void sayingItems() {
        String[] kinds = {"once", "kept", "low", "over", "carried", "cursed", "hushed"};
        EchoValley x = new EchoValley();
        x.days(4);
        for (int kind = 0; kind < kinds.length; kind++) {
            due.due("36: " + kinds[kind], Due.read(x, kinds[kind] + " 15 at 9 hour 23 loud 9"), 1);
            int[] is = {kind, 15, 9, 9, 23, 4};
            for (int what = 0; what < is.length; what++) {
                due.due("36: " + kinds[kind] + ", " + what, x.sayingOf(kind, what), is[what]);
            }
        }
        due.due("36: the least of all", Due.read(new EchoValley(), "once 0 at 0 hour 0 loud 1"), 1);
        due.due("36: not loud", Due.read(x, "once 1 at 2 hour 3"), 1);
        int[] is = {0, 1, 1, 2, 3, 4};
        for (int what = 0; what < is.length; what++) {
            due.due("36: not loud, " + what, x.sayingOf(7, what), is[what]);
        }
    }

    private static void personItems() {
        EchoValley x = new EchoValley();
        due.due("36: person", Due.read(x, "person 5 at 9"), 1);
        for (int hour = 0; hour < 24; hour++) {
            due.due("36: all hours", x.where(5, hour), 9);
        }
        due.due("36: hours", Due.read(x, "person 5 at 0 hours 3 5"), 1);
        for (int hour = 0; hour < 24; hour++) {
            due.due("36: some hours", x.where(5, hour), hour >= 3 && hour <= 5 ? 0 : 9);
        }
        due.due("36: the last hour", Due.read(x, "person 0 at 4 hours 23 23"), 1);
        due.due("36: the last hour", x.where(0, 23), 4);
        due.due("36: the one ahead", x.where(0, 22), -1);
        due.due("36: the first hour", Due.read(x, "person 0 at 0 hours 0 0"), 1);
        due.due("36: the first hour", x.where(0, 0), 0);
        due.due("36: the one behind", x.where(0, 1), -1);
    }

    private static void keepAndRainItems() {
        EchoValley x = new EchoValley();
        due.due("36: keep", Due.read(x, "keep 1"), 1);
        due.due("36: keep", x.count(4), 1);
        due.due("36: keep", Due.read(x, "keep 20"), 1);
        due.due("36: keep", x.count(4), 20);
        due.due("36: rain", Due.read(x, "rain 0;rain 99;rain 99"), 3);
        due.due("36: rain", x.count(3), 2);
        due.due("36: rain 0", x.rain(0, true), 1);
        due.due("36: rain 99", x.rain(99, true), 1);
    }

    private static void severalItems() {
        EchoValley x = new EchoValley();
        due.due("36: several", Due.read(x, "keep 3;keep 4;once 1 at 0 hour 5;over 2 at 0 hour 5;person 1 at 0"
            + ";person 1 at 2 hours 5 5"), 6);
        due.due("36: one by one", x.count(4), 4);
        due.due("36: one behind another", x.over(0), 1);
        due.due("36: the later counts", x.where(1, 5), 2);
        due.due("36: as many as there is room for",
            Due.read(x, "keep1;keep2;keep3;keep4;keep5;keep6;keep7;keep8;keep9;keep1;"
            + "keep2;keep3;keep4;keep5;keep6;keep7;keep8;keep9;keep1;keep20"), 20);
        due.due("36: the last", x.count(4), 20);
    }

    private static void tokens() {
        EchoValley x = new EchoValley();
        due.due("36: no blanks", Due.read(x, "once1at2hour3loud4;way0 1;person2at3hours4 5"), 3);
        due.due("36: no blanks", x.sayingOf(0, 2), 4);
        due.due("36: many blanks", Due.read(x, "   keep   7   ;   rain   8   "), 2);
        due.due("36: many blanks", x.count(4), 7);
        due.due("36: noughts ahead", Due.read(x, "keep 00000000000000000000000000000012"), 1);
        due.due("36: noughts ahead", x.count(4), 12);
        due.due("36: numbers as long as can be", Due.read(x, "way 01"), -7);
        due.due("36: words as long as can be", Due.read(x, "wayway 0 1"), -1);
        due.due("36: a number that goes round", Due.read(x, "keep 4294967297"), -6);
        due.due("36: a number of all bytes", Due.read(x, "keep " + "1".repeat(115)), -6);
        due.due("36: 1000", Due.read(x, "rain 1000"), -6);
        due.due("36: 999", Due.read(x, "rain 999"), -6);
    }

    private static void dueFault(String text, int fault) {
        EchoValley x = new EchoValley();
        due.due("36: '" + text + "'", Due.read(x, text), -1 - fault);
        due.due("36: '" + text + "', the tape is empty", x.count(5), 0);
        due.due("36: '" + text + "', no finding", x.status(-1), 0);
    }

    private static void faults() {
        String[] texts = {"", " ", ";", "12", "path 1 2", "Way 1 2", "way", "way ", "way x", "way 10 1", "way 1",
            "way 1;", "way 1 10", "way 1 1", "way 1 001", "way 1 2 3", "way 1 2 x", "way 1 2;", "way 1 2; ",
            "way 1 2;;way 1 3", "way 1 2,way 1 3", "way 1 2 way 1 3", "once", "once 16 at 0 hour 0",
            "once at 0 hour 0", "once 1 in 0 hour 0", "once 1 0", "once 1 at", "once 1 at 10 hour 1",
            "once 1 at 1 hours 1", "once 1 at 1 hour", "once 1 at 1 hour 24", "once 1 at 1 hour 1 loud",
            "once 1 at 1 hour 1 loud 0", "once 1 at 1 hour 1 loud 10", "once 1 at 1 hour 1 loud 1 loud 1",
            "once 1 at 1 hour 1 9", "hushe 1 at 1 hour 1", "hushedd 1 at 1 hour 1", "person 6 at 1",
            "person 0 0", "person 0 at 10", "person 0 at x", "person 0 at 0 hour 1", "person 0 at 0 hours",
            "person 0 at 0 hours 24 24", "person 0 at 0 hours 5", "person 0 at 0 hours 5 4",
            "person 0 at 0 hours 5 24", "person 0 at 0 hours 5 6 7", "keep", "keep 0", "keep 21", "keep 1 1",
            "rain 100", "rain x", "rain -1", "loud 3", "at 3", "keep 5;keep 6;kept", "keep 5\nkeep 6", "keep\t5",
            "keep 5;{", "keep 5`", "keep 5/", "keep 5:", "keep 5 ?;",
            "wayz 0 1", "xay 0 1", "waz 0 1", "once 1", "person", "person 0", "person 0 at", "rain", "keep 5 5"};
        int[] places = {0, 1, 0, 0, 0, 0, 3, 4, 4, 4, 5,
            5, 6, 6, 6, 8, 8, 8, 9,
            8, 7, 8, 4, 5,
            5, 7, 7, 9, 10,
            12, 16, 17, 23,
            24, 24, 26,
            19, 0, 0, 7,
            9, 12, 12, 14, 19,
            20, 21, 22,
            22, 24, 4, 5, 5, 7,
            5, 5, 5, 0, 0, 18, 6, 4,
            7, 6, 6, 6, 7,
            0, 0, 0, 6, 6, 8, 11, 4, 7};
        due.due("as many places as texts", places.length, texts.length);
        for (int i = 0; i < texts.length && i < places.length; i++) {
            dueFault(texts[i], places[i]);
        }
    }

    private static void faultsChangeNothing() {
        EchoValley x = new EchoValley();
        x.image();
        due.due("36: a fault at the end", Due.read(x,
            "way 0 1;keep 3;rain 5;person 0 at 1;once 1 at 1 hour 1;once 1 at 1 hour 24"), -1 - 72);
        int[] counts = {0, 0, 0, 0, 9, 0, 1, 0};
        for (int what = 0; what < counts.length; what++) {
            due.due("36: nothing changes, count(" + what + ")", x.count(what), counts[what]);
        }
        due.due("36: nothing changes", x.where(0, 0), -1);
        due.due("36: the image stays", x.tear(), 1);
        due.due("36: a good one behind it", Due.read(x, "once 1 at 1 hour 1"), 1);
        due.due("36: its number", x.count(1), 1);
    }

    private static void the41stSaying() {
        EchoValley x = new EchoValley();
        for (int i = 0; i < 38; i++) {
            x.say(0, 0, 1, 0, 0);
        }
        due.due("36: the 41st", Due.read(x, "low 1 at 0 hour 0;low 2 at 0 hour 0; low 3 at 0 hour 0"), -1 - 37);
        due.due("36: the 41st, ahead of its own faults", Due.read(x, "low1at0hour0;low2at0hour0;low 99"), -1 - 26);
        due.due("36: the 41st, alone at the end", Due.read(x, "low1at0hour0;low2at0hour0;low"), -1 - 26);
        due.due("36: nothing changes", x.count(1), 38);
        due.due("36: two more", Due.read(x, "low 1 at 0 hour 0;low 2 at 0 hour 0;way 0 1"), 3);
        due.due("36: full", x.count(1), 40);
        due.due("36: full", Due.read(x, "cursed 1 at 0 hour 0"), -1);
        due.due("36: others come still", Due.read(x, "keep 2"), 1);
        due.due("36: no finding", x.status(-1), 0);
    }
}
