/** Each TOKEN of each ITEM: the least and the greatest NUMBER, the next one beyond, another TOKEN, too early an end. */
public final class TextEdgesTest {
    private static final Due due = new Due();
    private static final String[] ITEMS = {"way 3 5", "once 1 at 2 hour 3", "once 1 at 2 hour 3 loud 4",
        "kept 1 at 2 hour 3", "low 1 at 2 hour 3", "over 1 at 2 hour 3", "carried 1 at 2 hour 3",
        "cursed 1 at 2 hour 3", "hushed 1 at 2 hour 3", "person 1 at 2", "person 1 at 2 hours 3 4", "keep 5", "rain 6"};

    public static void main(String[] args) {
        numbers();
        ways();
        secondHourNoLess();
        numbersOf999();
        endsTooEarly();
        anotherToken();
        oneTokenMore();
        otherBytes();
        longestTokens();
        blanks();
        defaults();
        itemByItem();
        faultOfAnyChangesNothing();
        the41st();
        due.end();
    }

    /** The FAULT of a text by its answer, -1 if it has none. */
    private static int fault(String text) {
        EchoValley x = new EchoValley();
        int answer = Due.read(x, text);
        due.due("'" + text + "' empties THE TAPE", x.count(5), 0);
        due.due("'" + text + "' is no finding", x.status(-1), 0);
        return answer < 0 ? -1 - answer : -1;
    }

    private static void dueFault(String text, int fault) {
        due.due("FAULT of '" + text + "'", fault(text), fault);
    }

    private static void dueGood(String text) {
        dueFault(text, -1);
    }

    /** # is the NUMBER. */
    private static void number(String text, int least, int greatest) {
        for (int v = 0; v <= 130; v++) {
            boolean is = v >= least && v <= greatest;
            dueFault(text.replace("#", Integer.toString(v)), is ? -1 : text.indexOf('#'));
        }
        for (String v : new String[] {"256", "999", "1000", "4294967296", "-1", "x", ";"}) {
            dueFault(text.replace("#", v), text.indexOf('#'));
        }
    }

    private static void numbers() {
        number("way 9 #", 0, 8);
        number("way 0 #", 1, 9);
        number("person # at 2", 0, 5);
        number("person 1 at #", 0, 9);
        number("person 1 at 2 hours # 23", 0, 23);
        number("person 1 at 2 hours 0 #", 0, 23);
        number("keep #", 1, 20);
        number("rain #", 0, 99);
        for (String kind : new String[] {"once", "kept", "low", "over", "carried", "cursed", "hushed"}) {
            number(kind + " # at 2 hour 3", 0, 15);
            number(kind + " 1 at # hour 3", 0, 9);
            number(kind + " 1 at 2 hour #", 0, 23);
            number(kind + " 1 at 2 hour 3 loud #", 1, 9);
        }
    }

    private static void ways() {
        for (int one = 0; one <= 11; one++) {
            for (int other = 0; other <= 11; other++) {
                String text = "way " + one + " ";
                dueFault(text + other, one > 9 ? 4 : other > 9 || one == other ? text.length() : -1);
            }
        }
    }

    private static void secondHourNoLess() {
        for (int from = 0; from <= 24; from++) {
            for (int to = 0; to <= 24; to++) {
                String text = "person 0 at 0 hours " + from + " ";
                dueFault(text + to, from > 23 ? 20 : to > 23 || to < from ? text.length() : -1);
            }
        }
    }

    /** A NUMBER that can't stand there is the FAULT by its first byte, however long it is. */
    private static void numbersOf999() {
        for (String v : new String[] {"100", "999", "1000", "1001", "9990", "99999999999999999999"}) {
            dueFault("rain " + v, 5);
            dueFault(v, 0);
            dueFault("keep 5 " + v, 7);
            dueFault("way 0 1;" + v, 8);
        }
        dueGood("rain 099");
        dueGood("rain 0000000000099");
        dueFault("rain 0000000000100", 5);
    }

    private static boolean isText(String text) {
        for (String item : ITEMS) {
            if (item.equals(text)) {
                return true;
            }
        }
        return false;
    }

    private static String upTo(String[] tokens, int n) {
        StringBuilder text = new StringBuilder();
        for (int i = 0; i < n; i++) {
            text.append(i == 0 ? "" : " ").append(tokens[i]);
        }
        return text.toString();
    }

    private static void endsTooEarly() {
        for (String item : ITEMS) {
            String[] tokens = item.split(" ");
            for (int n = 0; n <= tokens.length; n++) {
                String text = upTo(tokens, n);
                dueFault(text, isText(text) ? -1 : text.length());
                String behind = "keep 5;" + text;
                dueFault(behind, isText(text) ? -1 : behind.length());
            }
        }
        dueFault("keep 5;", 7);
        dueFault(";", 0);
        dueFault("keep 5;;", 7);
    }

    /** A TOKEN that can't stand there: another WORD, a NUMBER for a WORD, a SIGN, a byte that begins none. */
    private static void anotherToken() {
        for (String item : ITEMS) {
            String[] tokens = item.split(" ");
            for (int i = 0; i < tokens.length; i++) {
                for (String other : new String[] {"x", "way", "loud", "hours", "77777", ";", "?", "At", "-", "atx"}) {
                    String ahead = upTo(tokens, i);
                    String text = ahead + (i == 0 ? "" : " ") + other;
                    boolean canEnd = isText(ahead) && other.equals(";");
                    boolean canStand = tokens[i].equals(other) || i == 0 && other.equals("way");
                    int start = text.length() - other.length();
                    dueFault(text + " #", canEnd || canStand ? text.length() + 1 : start);
                }
            }
        }
    }

    private static void oneTokenMore() {
        for (String item : ITEMS) {
            for (String more : new String[] {"5", "at", "way", "once", "keep", "?", "}", "=", "K"}) {
                dueFault(item + " " + more, item.length() + 1);
            }
            dueGood(item + ";" + item);
            dueGood(item + " ; " + item);
        }
        dueFault("once 1 at 2 hour 3 loud 4 loud 4", 26);
        dueFault("person 1 at 2 hours 3 4 hours 3 4", 24);
        dueFault("person 1 at 2 hours 3 4 5", 24);
    }

    /** All 256 bytes where a SIGN is due. */
    private static void otherBytes() {
        for (int b = 0; b <= 255; b++) {
            if (b == ' ' || b == ';' || b >= '0' && b <= '9') {
                continue;
            }
            EchoValley x = new EchoValley();
            Due.put(x, "keep 5");
            x.feed(b, 1);
            Due.put(x, "keep 6");
            due.due("byte " + b + " for a SIGN", x.text(), -1 - 6);
            due.due("nothing changes", x.count(4), 9);
            Due.put(x, "keep ");
            x.feed(b, 1);
            due.due("byte " + b + " for a NUMBER", x.text(), -1 - 5);
            if (b < 'a' || b > 'z') {
                Due.put(x, "keep 5;");
                x.feed(b, 1);
                due.due("byte " + b + " for a WORD", x.text(), -1 - 7);
            }
            Due.put(x, "keep");
            x.feed(b, 1);
            Due.put(x, "5");
            due.due("byte " + b + " right behind a WORD", x.text(), b < 'a' || b > 'z' ? -1 - 4 : -1);
            Due.put(x, "way 0");
            x.feed(b, 1);
            Due.put(x, "1");
            due.due("byte " + b + " right behind a NUMBER", x.text(), -1 - 5);
        }
    }

    private static void longestTokens() {
        dueFault("way 12", 4);
        dueFault("keep 555", 5);
        dueFault("keepx 5", 0);
        dueFault("kee p 5", 0);
        dueFault("keep 1 2", 7);
        dueFault("once 1 ath 2 hour 3", 7);
        dueFault("once 1 at 2 hours 3", 12);
        dueFault("person 1 at 2 hour 3 4", 14);
        dueFault("once 1 at 2 hour 3 louder 4", 19);
        dueFault("onces 1 at 2 hour 3", 0);
        dueFault("KEEP 5", 0);
        dueFault("keeP 5", 0);
    }

    private static void blanks() {
        dueGood("keep5");
        dueGood("way3 5");
        dueGood("once1at2hour3loud4;person1at2hours3 4;rain6");
        dueGood("keep    5    ;    keep    6");
        dueFault("way 3  x", 7);
        dueFault("keep    x", 8);
        dueFault("keep 5    x", 10);
        dueFault("keep 5 ;   x", 11);
    }

    private static void defaults() {
        EchoValley x = new EchoValley();
        due.due("36: not loud", Due.read(x, "carried 1 at 2 hour 3"), 1);
        due.due("36: LOUD 1", x.sayingOf(0, 2), 1);
        due.due("36: no hours", Due.read(x, "person 1 at 2"), 1);
        due.due("36: from 0", x.where(1, 0), 2);
        due.due("36: to 23", x.where(1, 23), 2);
        due.due("36: one hour", Due.read(x, "person 1 at 3 hours 7 7"), 1);
        int[] places = {2, 3, 2};
        for (int i = 0; i < 3; i++) {
            due.due("36: in hour " + (6 + i), x.where(1, 6 + i), places[i]);
        }
        x.days(9);
        Due.read(x, "once 1 at 2 hour 3");
        due.due("36: TODAY", x.sayingOf(1, 5), 9);
    }

    private static void itemByItem() {
        EchoValley x = new EchoValley();
        due.due("36: five", Due.read(x, "keep 3;keep 8;rain 2;rain 2;way 3 4"), 5);
        due.due("36: the later one counts", x.count(4), 8);
        due.due("36: rain once", x.count(3), 1);
        due.due("36: rain there", x.rain(2, true), 1);
        due.due("36: a way", x.steps(4, 3), 1);
        due.due("36: again", Due.read(x, "way 4 3;rain 2"), 2);
        due.due("36: one still", x.count(2), 1);
        due.due("36: two sayings", Due.read(x, "low 1 at 2 hour 3 loud 9;once 2 at 2 hour 3 loud 9"), 2);
        due.due("36: the first is number 0", x.sayingOf(0, 1), 1);
        due.due("36: the second is said over it", x.over(0), 1);
        due.due("36: one more", Due.read(x, "kept 3 at 2 hour 3"), 1);
        due.due("36: number 2", x.sayingOf(2, 1), 3);
        due.due("36: not so loud", x.over(1), Due.NONE);
    }

    private static void faultOfAnyChangesNothing() {
        for (String item : ITEMS) {
            EchoValley x = new EchoValley();
            due.due("36: '" + item + ";?'", Due.read(x, item + ";?"), -2 - item.length());
            int[] counts = {0, 0, 0, 0, 9, 0, 1, 0};
            for (int what = 0; what < counts.length; what++) {
                due.due("36: count(" + what + ") behind '" + item + ";?'", x.count(what), counts[what]);
            }
            due.due("36: all are away behind '" + item + ";?'", x.crowd(), Due.NONE);
            due.due("36: none was said behind '" + item + ";?'", x.sayingOf(0, 0), Due.BEYOND);
            due.due("36: no way behind '" + item + ";?'", x.steps(3, 5), Due.NONE);
        }
    }

    /** Its own WORD is the FAULT, not that of the 40th, and not what comes behind it. */
    private static void the41st() {
        for (int has = 36; has <= 40; has++) {
            String text = "low 1 at 2 hour 3";
            for (int n = 1; n <= 5; n++) {
                EchoValley x = withSayings(has);
                int answer = has + n <= 40 ? n : -1 - 18 * (40 - has);
                due.due("36: " + n + " behind " + has, Due.read(x, text), answer);
                due.due("36: so many then", x.count(1), has + n <= 40 ? has + n : has);
                text += ";low 1 at 2 hour 3";
            }
            EchoValley x = withSayings(has);
            due.due("36: an ITEM of another kind behind " + has, Due.read(x, "way 0 1;person 1 at 2;keep 5;rain 6"), 4);
        }
        dueFullFault("over", 0);
        dueFullFault("over ?", 0);
        dueFullFault("over 16 at 10", 0);
        dueFullFault("keep 5 ; over 1 at 2 hour 3", 9);
    }

    private static void dueFullFault(String text, int fault) {
        due.due("36: the 41st, '" + text + "'", Due.read(withSayings(40), text), -1 - fault);
    }

    private static EchoValley withSayings(int sayings) {
        EchoValley x = new EchoValley();
        for (int s = 0; s < sayings; s++) {
            x.say(Due.ONCE, 0, 1, 0, 0);
        }
        return x;
    }
}
