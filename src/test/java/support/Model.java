import java.util.ArrayList;
import java.util.Arrays;
import java.util.List;
import java.util.TreeSet;
import java.util.regex.Matcher;
import java.util.regex.Pattern;

/**
 * The document again, word by word and without regard to speed: each thing is looked for among all that could be.
 * It shares no code and no shortcut with the class, so that random runs of calls can be asked of both.
 */
final class Model {
    private static final String[] KIND_WORDS = {"once", "kept", "low", "over", "carried", "cursed", "hushed"};
    private static final int[] ABOVE = {-1, 0, 0, 0, 1, 3, 2};

    private static final class Saying {
        int kind;
        int word;
        int loud;
        int place;
        int hour;
        int day;

        Saying(int... of) {
            kind = of[0];
            word = of[1];
            loud = of[2];
            place = of[3];
            hour = of[4];
            day = of[5];
        }

        Saying twin() {
            return new Saying(kind, word, loud, place, hour, day);
        }
    }

    private static final class State {
        TreeSet<Integer> ways = new TreeSet<>();
        TreeSet<Integer> rain = new TreeSet<>();
        List<Saying> sayings = new ArrayList<>();
        int[][] people = new int[6][24];
        int[] spots = new int[10];
        int today = 0;
        int keep = 9;
        int z = 1;

        State() {
            for (int[] row : people) {
                Arrays.fill(row, -1);
            }
            Arrays.fill(spots, -1);
        }

        State twin() {
            State t = new State();
            t.ways.addAll(ways);
            t.rain.addAll(rain);
            for (Saying s : sayings) {
                t.sayings.add(s.twin());
            }
            for (int p = 0; p < 6; p++) {
                t.people[p] = people[p].clone();
            }
            t.spots = spots.clone();
            t.today = today;
            t.keep = keep;
            t.z = z;
            return t;
        }
    }

    private State now = new State();
    private State kept = null;
    private String tape = "";
    private final int[] bits = new int[4];
    private final int[][] sheets = new int[4][0];
    private int[] walk = null;
    private final int[] found = new int[7];

    // ---- small words

    private int find(int finding) {
        found[Due.BEYOND - finding]++;
        return finding;
    }

    private static boolean in(int v, int least, int most) {
        return least <= v && v <= most;
    }

    private static boolean isWhen(int when) {
        return in(when, 0, 9999) && when % 100 <= 23;
    }

    private boolean isSaying(int s) {
        return in(s, 0, now.sayings.size() - 1);
    }

    private static int pair(int a, int b) {
        return 10 * Math.min(a, b) + Math.max(a, b);
    }

    private boolean isWay(int a, int b) {
        return a != b && now.ways.contains(pair(a, b));
    }

    /** The fewest WAYS, by all pairs; 1000 if there are none. */
    private int[][] distances() {
        int[][] d = new int[10][10];
        for (int a = 0; a < 10; a++) {
            for (int b = 0; b < 10; b++) {
                d[a][b] = a == b ? 0 : isWay(a, b) ? 1 : 1000;
            }
        }
        for (int over = 0; over < 10; over++) {
            for (int a = 0; a < 10; a++) {
                for (int b = 0; b < 10; b++) {
                    d[a][b] = Math.min(d[a][b], d[a][over] + d[over][b]);
                }
            }
        }
        return d;
    }

    private int lasts(int kind) {
        return switch (kind) {
            case 0 -> now.keep;
            case 1 -> 2 * lasts(0);
            case 5 -> lasts(3) + 5;
            case 6 -> Math.max(1, lasts(2) - 3);
            default -> lasts(ABOVE[kind]);
        };
    }

    private static int reach(int kind, int loud) {
        return switch (kind) {
            case 0 -> loud / 3;
            case 2 -> 0;
            case 4 -> reach(1, loud) + 2;
            default -> reach(ABOVE[kind], loud);
        };
    }

    private static boolean drownsBy(int kind, Saying b, Saying a) {
        return switch (kind) {
            case 0 -> b.loud >= a.loud;
            case 2 -> false;
            case 3 -> true;
            default -> drownsBy(ABOVE[kind], b, a);
        };
    }

    private static boolean yieldsBy(int kind, Saying b) {
        return switch (kind) {
            case 0 -> true;
            case 5 -> b.kind == 5;
            default -> yieldsBy(ABOVE[kind], b);
        };
    }

    private boolean isOver(int b, int a) {
        Saying y = now.sayings.get(b);
        Saying x = now.sayings.get(a);
        return b > a && y.place == x.place && y.hour == x.hour && drownsBy(y.kind, y, x) && yieldsBy(x.kind, y);
    }

    private int ageOn(int own, int day) {
        return day - own + now.rain.subSet(own, false, day, true).size();
    }

    private boolean isHeard(int s, int day) {
        Saying x = now.sayings.get(s);
        if (day <= x.day || ageOn(x.day, day) > lasts(x.kind)) {
            return false;
        }
        for (int b = 0; b < now.sayings.size(); b++) {
            if (isOver(b, s) && now.sayings.get(b).day <= day) {
                return false;
            }
        }
        return true;
    }

    private boolean isHeardAt(int s, int place, int day) {
        Saying x = now.sayings.get(s);
        return isHeard(s, day) && distances()[x.place][place] <= reach(x.kind, x.loud);
    }

    private List<Integer> heardThen(int place, int when) {
        List<Integer> list = new ArrayList<>();
        for (int s = 0; s < now.sayings.size(); s++) {
            if (now.sayings.get(s).hour == when % 100 && isHeardAt(s, place, when / 100)) {
                list.add(s);
            }
        }
        return list;
    }

    private boolean doesHear(int person, int s, int day) {
        int place = now.people[person][now.sayings.get(s).hour];
        return place >= 0 && isHeardAt(s, place, day);
    }

    private int draw() {
        now.z = now.z * 1103515245 + 12345;
        return now.z >>> 8;
    }

    // ---- calls, by their names

    int call(String name, int... a) {
        return switch (name) {
            case "way", "steps", "days", "rain", "weather", "keep" -> places(name, a);
            case "say", "sayingOf", "turn", "age", "over", "until", "reaches", "drowns" -> sayings(name, a);
            case "heard", "which", "words", "plain", "alone", "full" -> heard(name, a);
            case "person", "where", "hears", "first", "who", "said", "tell", "needs" -> people(name, a);
            case "walk", "step", "crowd", "seed", "feed", "wipe", "text" -> walksTexts(name, a);
            case "hold", "as", "sheet", "write", "copy", "load", "judge" -> spotsSheets(name, a);
            default -> images(name, a);
        };
    }

    private int places(String name, int[] a) {
        switch (name) {
            case "way": {
                if (!in(a[0], 0, 9) || !in(a[1], 0, 9) || a[0] == a[1]) {
                    return find(Due.BEYOND);
                }
                int p = pair(a[0], a[1]);
                boolean was = a[2] != 0 ? !now.ways.add(p) : now.ways.remove(p);
                return was ? 1 : 0;
            }
            case "steps": {
                if (!in(a[0], 0, 9) || !in(a[1], 0, 9)) {
                    return find(Due.BEYOND);
                }
                int d = distances()[a[0]][a[1]];
                return d >= 1000 ? find(Due.NONE) : d;
            }
            case "days":
                if (!in(a[0], 1, 20)) {
                    return find(Due.BEYOND);
                }
                return now.today + a[0] > 99 ? find(Due.STATE) : (now.today += a[0]);
            case "rain": {
                if (!in(a[0], 0, 99)) {
                    return find(Due.BEYOND);
                }
                boolean was = a[1] != 0 ? !now.rain.add(a[0]) : now.rain.remove(a[0]);
                return was ? 1 : 0;
            }
            case "weather": {
                if (!in(a[0], 0, 99) || !in(a[1], 0, 99) || a[1] < a[0] || !in(a[2], 0, 100)) {
                    return find(Due.BEYOND);
                }
                for (int day = a[0]; day <= a[1]; day++) {
                    now.rain.remove(day);
                    if (draw() % 100 < a[2]) {
                        now.rain.add(day);
                    }
                }
                return now.rain.subSet(a[0], true, a[1], true).size();
            }
            default: {
                if (!in(a[0], 1, 20)) {
                    return find(Due.BEYOND);
                }
                int was = now.keep;
                now.keep = a[0];
                return was;
            }
        }
    }

    private int sayings(String name, int[] a) {
        if (name.equals("say")) {
            if (!in(a[0], 0, 6) || !in(a[1], 0, 15) || !in(a[2], 1, 9) || !in(a[3], 0, 9) || !in(a[4], 0, 23)) {
                return find(Due.BEYOND);
            }
            if (now.sayings.size() == 40) {
                return find(Due.FULL);
            }
            now.sayings.add(new Saying(a[0], a[1], a[2], a[3], a[4], now.today));
            return now.sayings.size() - 1;
        }
        if (!isSaying(a[0])) {
            return find(Due.BEYOND);
        }
        int s = a[0];
        Saying x = now.sayings.get(s);
        switch (name) {
            case "sayingOf": {
                int[] of = {x.kind, x.word, x.loud, x.place, x.hour, x.day, lasts(x.kind), reach(x.kind, x.loud)};
                return in(a[1], 0, 7) ? of[a[1]] : find(Due.BEYOND);
            }
            case "turn": {
                if (!in(a[1], 0, 6)) {
                    return find(Due.BEYOND);
                }
                int was = x.kind;
                x.kind = a[1];
                return was;
            }
            case "age":
                if (!in(a[1], 0, 99)) {
                    return find(Due.BEYOND);
                }
                return a[1] <= x.day ? find(Due.STATE) : ageOn(x.day, a[1]);
            case "over":
                for (int b = 0; b < now.sayings.size(); b++) {
                    if (isOver(b, s)) {
                        return b;
                    }
                }
                return find(Due.NONE);
            case "until":
                for (int day = 99; day >= 0; day--) {
                    if (isHeard(s, day)) {
                        return day;
                    }
                }
                return find(Due.NONE);
            case "reaches": {
                if (!in(a[1], 0, 99)) {
                    return find(Due.BEYOND);
                }
                int set = 0;
                for (int place = 0; place < 10; place++) {
                    set += isHeardAt(s, place, a[1]) ? 1 << place : 0;
                }
                return set;
            }
            default:
                for (int loud = 1; loud <= 9; loud++) {
                    Saying b = new Saying(0, 0, loud, x.place, x.hour, x.day);
                    if (drownsBy(0, b, x) && yieldsBy(x.kind, b)) {
                        return loud;
                    }
                }
                return find(Due.NONE);
        }
    }

    private int heard(String name, int[] a) {
        if (name.equals("alone")) {
            if (!isWhen(a[0])) {
                return find(Due.BEYOND);
            }
            int set = 0;
            for (int place = 0; place < 10; place++) {
                boolean isFree = heardThen(place, a[0]).isEmpty();
                for (int person = 0; person < 6; person++) {
                    isFree = isFree && now.people[person][a[0] % 100] != place;
                }
                set += isFree ? 1 << place : 0;
            }
            return set;
        }
        if (name.equals("full")) {
            if (!in(a[0], 0, 9) || !in(a[1], 0, 99)) {
                return find(Due.BEYOND);
            }
            int hours = 0;
            for (int hour = 0; hour < 24; hour++) {
                hours += heardThen(a[0], 100 * a[1] + hour).isEmpty() ? 0 : 1;
            }
            return hours;
        }
        if (!in(a[0], 0, 9) || !isWhen(a[1])) {
            return find(Due.BEYOND);
        }
        List<Integer> list = heardThen(a[0], a[1]);
        switch (name) {
            case "heard":
                return list.size();
            case "which":
                if (!in(a[2], 0, 39)) {
                    return find(Due.BEYOND);
                }
                return a[2] < list.size() ? list.get(a[2]) : find(Due.NONE);
            case "words": {
                int set = 0;
                for (int s : list) {
                    set |= 1 << now.sayings.get(s).word;
                }
                return set;
            }
            default: {
                int most = 0;
                for (int s : list) {
                    most = Math.max(most, now.sayings.get(s).loud);
                }
                return list.isEmpty() ? find(Due.NONE) : most;
            }
        }
    }

    private int people(String name, int[] a) {
        switch (name) {
            case "person":
                if (!in(a[0], 0, 5) || !in(a[1], -1, 9) || !in(a[2], 0, 23) || !in(a[3], 0, 23) || a[3] < a[2]) {
                    return find(Due.BEYOND);
                }
                Arrays.fill(now.people[a[0]], a[2], a[3] + 1, a[1]);
                return 1;
            case "where":
                return in(a[0], 0, 5) && in(a[1], 0, 23) ? now.people[a[0]][a[1]] : find(Due.BEYOND);
            case "hears": {
                if (!in(a[0], 0, 5) || !in(a[1], 0, 99)) {
                    return find(Due.BEYOND);
                }
                int n = 0;
                for (int s = 0; s < now.sayings.size(); s++) {
                    n += doesHear(a[0], s, a[1]) ? 1 : 0;
                }
                return n;
            }
            case "first":
                if (!in(a[0], 0, 5) || !in(a[1], 0, 15)) {
                    return find(Due.BEYOND);
                }
                for (int day = now.today + 1; day <= 99; day++) {
                    for (int s = 0; s < now.sayings.size(); s++) {
                        if (now.sayings.get(s).word == a[1] && doesHear(a[0], s, day)) {
                            return day;
                        }
                    }
                }
                return find(Due.NONE);
            case "who":
            case "said": {
                if (!isSaying(a[0])) {
                    return find(Due.BEYOND);
                }
                int set = 0;
                for (int person = 0; person < 6; person++) {
                    set += (name.equals("who") ? everHears(person, a[0]) : wasThere(person, a[0])) ? 1 << person : 0;
                }
                return set;
            }
            case "tell":
                if (!in(a[0], 0, 5) || !in(a[1], 0, 5) || a[0] == a[1]) {
                    return find(Due.BEYOND);
                }
                return tellHer(a[0], a[1]);
            default:
                if (!in(a[0], 0, 99)) {
                    return find(Due.BEYOND);
                }
                return a[0] <= now.today ? find(Due.STATE) : fewest(a[0]);
        }
    }

    private boolean everHears(int person, int s) {
        for (int day = 0; day <= 99; day++) {
            if (doesHear(person, s, day)) {
                return true;
            }
        }
        return false;
    }

    private boolean wasThere(int person, int s) {
        Saying x = now.sayings.get(s);
        return now.people[person][x.hour] == x.place;
    }

    private int tellHer(int she, int he) {
        int[][] d = distances();
        for (int loud = 1; loud <= 9; loud++) {
            for (int hour = 0; hour < 24; hour++) {
                for (int place = 0; place < 10; place++) {
                    int hers = now.people[she][hour];
                    int his = now.people[he][hour];
                    if (hers >= 0 && d[place][hers] <= reach(0, loud)
                            && !(his >= 0 && d[place][his] <= reach(0, loud))) {
                        return 10000 * loud + 100 * hour + place;
                    }
                }
            }
        }
        return find(Due.NONE);
    }

    /** best[c]: the fewest with which each DAY behind TODAY up to c is covered, whatever comes behind c. */
    private int fewest(int upTo) {
        int[] best = new int[100];
        Arrays.fill(best, 1000);
        for (int day = now.today + 1; day <= 99 && ageOn(now.today, day) <= lasts(0); day++) {
            best[day] = 1;
        }
        for (int c = now.today + 1; c <= 99; c++) {
            for (int own = now.today; own <= c && best[c] < 1000; own++) {
                for (int day = own + 1; day <= 99 && ageOn(own, day) <= lasts(0); day++) {
                    best[day] = day > c ? Math.min(best[day], best[c] + 1) : best[day];
                }
            }
        }
        int least = 1000;
        for (int c = upTo; c <= 99; c++) {
            least = Math.min(least, best[c]);
        }
        return least >= 1000 ? find(Due.NONE) : least;
    }

    private int walksTexts(String name, int[] a) {
        switch (name) {
            case "walk":
                if (!in(a[0], 0, 9) || !isWhen(a[1]) || !in(a[2], 1, 24) || a[1] % 100 + a[2] - 1 > 23) {
                    return find(Due.BEYOND);
                }
                return bestWalk(a[0], a[1], a[2]);
            case "step":
                if (!in(a[0], 0, 23)) {
                    return find(Due.BEYOND);
                }
                return walk == null || a[0] >= walk.length ? find(Due.NONE) : walk[a[0]];
            case "crowd": {
                int most = 0;
                int told = 0;
                for (int at = 0; at < 2400; at++) {
                    int n = 0;
                    for (int person = 0; person < 6 && at % 100 < 10; person++) {
                        n += now.people[person][at / 100] == at % 100 ? 1 : 0;
                    }
                    told = n > most ? at : told;
                    most = Math.max(most, n);
                }
                return most == 0 ? find(Due.NONE) : told;
            }
            case "seed": {
                int was = now.z;
                now.z = a[0];
                return was;
            }
            case "feed": {
                if (!in(a[1], 1, 4)) {
                    return find(Due.BEYOND);
                }
                if (tape.length() + a[1] > 120) {
                    return find(Due.FULL);
                }
                for (int i = a[1]; i > 0; i--) {
                    tape += (char) (a[0] >> 8 * (i - 1) & 255);
                }
                return tape.length();
            }
            case "wipe": {
                int had = tape.length();
                tape = "";
                return had;
            }
            default: {
                State was = now.twin();
                int answer = new Text().read();
                now = answer < 0 ? was : now;
                tape = "";
                return answer;
            }
        }
    }

    /** From its begin on, for each PLACE the best WALK that ends there. */
    private int bestWalk(int place, int when, int n) {
        int[][] paths = new int[10][];
        int[] sums = new int[10];
        paths[place] = new int[] {place};
        sums[place] = heardThen(place, when).size();
        for (int i = 1; i < n; i++) {
            int[][] longer = new int[10][];
            int[] more = new int[10];
            for (int to = 0; to < 10; to++) {
                int here = heardThen(to, when + i).size();
                for (int from = 0; from < 10; from++) {
                    if (paths[from] == null || from != to && !isWay(from, to)) {
                        continue;
                    }
                    int[] path = Arrays.copyOf(paths[from], i + 1);
                    path[i] = to;
                    if (isBetter(path, sums[from] + here, longer[to], more[to])) {
                        longer[to] = path;
                        more[to] = sums[from] + here;
                    }
                }
            }
            paths = longer;
            sums = more;
        }
        int best = place;
        for (int end = 0; end < 10; end++) {
            if (paths[end] != null && (paths[best] == null || isBetter(paths[end], sums[end], paths[best], sums[best]))) {
                best = end;
            }
        }
        walk = paths[best];
        return sums[best];
    }

    private static boolean isBetter(int[] path, int sum, int[] other, int otherSum) {
        if (other == null || sum != otherSum) {
            return other == null || sum > otherSum;
        }
        return Arrays.compare(path, other) < 0;
    }

    /** A text, told to the state as it is read. */
    private final class Text {
        private final List<String> tokens = new ArrayList<>();
        private final List<Integer> places = new ArrayList<>();
        private int at = 0;
        private boolean isWrong = false;

        int read() {
            Matcher m = Pattern.compile(" *([a-z]+|[0-9]+|[^ ])", Pattern.DOTALL).matcher(tape);
            while (m.lookingAt()) {
                tokens.add(m.group(1));
                places.add(m.start(1));
                m.region(m.end(), tape.length());
            }
            tokens.add("");
            places.add(tape.length());
            int items = 0;
            do {
                item();
                items++;
            } while (!isWrong && isNext(";"));
            if (!isWrong && !tokens.get(at).isEmpty()) {
                isWrong = true;
            }
            return isWrong ? -1 - places.get(at) : items;
        }

        private boolean isNext(String word) {
            if (!isWrong && tokens.get(at).equals(word)) {
                at++;
                return true;
            }
            return false;
        }

        private void must(String word) {
            isWrong = isWrong || !isNext(word);
        }

        private int number(int least, int most, int not) {
            String t = tokens.get(at).replaceFirst("^0+(?=.)", "");
            if (isWrong || !t.matches("[0-9]{1,3}") || !in(Integer.parseInt(t), least, most)
                    || Integer.parseInt(t) == not) {
                isWrong = true;
                return 0;
            }
            at++;
            return Integer.parseInt(t);
        }

        private void item() {
            if (isNext("way")) {
                int one = number(0, 9, -1);
                int other = number(0, 9, one);
                now.ways.add(isWrong ? 1 : pair(one, other));
            } else if (isNext("person")) {
                int person = number(0, 5, -1);
                must("at");
                int place = number(0, 9, -1);
                boolean isTold = isNext("hours");
                int from = isTold ? number(0, 23, -1) : 0;
                int to = isTold ? number(from, 23, -1) : 23;
                Arrays.fill(now.people[person], isWrong ? 0 : from, isWrong ? 0 : to + 1, place);
            } else if (isNext("keep")) {
                now.keep = number(1, 20, -1);
            } else if (isNext("rain")) {
                now.rain.add(number(0, 99, -1));
            } else {
                saying();
            }
        }

        private void saying() {
            int kind = Arrays.asList(KIND_WORDS).indexOf(tokens.get(at));
            isWrong = isWrong || kind < 0 || now.sayings.size() >= 40;
            if (isWrong) {
                return;
            }
            at++;
            int word = number(0, 15, -1);
            must("at");
            int place = number(0, 9, -1);
            must("hour");
            int hour = number(0, 23, -1);
            int loud = isNext("loud") ? number(1, 9, -1) : 1;
            now.sayings.add(new Saying(kind, word, loud, place, hour, now.today));
        }
    }

    private int spotsSheets(String name, int[] a) {
        switch (name) {
            case "hold":
                if (!in(a[0], 0, 9) || a[1] != -1 && !isSaying(a[1])) {
                    return find(Due.BEYOND);
                }
                now.spots[a[0]] = a[1];
                return 1;
            case "as": {
                if (!in(a[0], 0, 9) || !in(a[1], 0, 6)) {
                    return find(Due.BEYOND);
                }
                int s = now.spots[a[0]];
                if (s == -1) {
                    return find(Due.MISSING);
                }
                for (int k = now.sayings.get(s).kind; k >= 0; k = ABOVE[k]) {
                    if (k == a[1]) {
                        return s;
                    }
                }
                return find(Due.KIND);
            }
            case "sheet":
                if (!in(a[0], 0, 3) || !Arrays.asList(0, 8, 16, 32).contains(a[1])) {
                    return find(Due.BEYOND);
                }
                if (a[2] < 0) {
                    return find(Due.SIZE);
                }
                if (a[2] > 40) {
                    return find(Due.BEYOND);
                }
                bits[a[0]] = a[1];
                sheets[a[0]] = new int[a[1] == 0 ? 0 : a[2]];
                return sheets[a[0]].length;
            case "copy":
                return copySheets(a[0], a[1], a[2], a[3], a[4]);
            default:
                if (!in(a[0], 0, 3)) {
                    return find(Due.BEYOND);
                }
                return bits[a[0]] == 0 ? find(Due.MISSING) : ofSheet(name, a, sheets[a[0]]);
        }
    }

    private int copySheets(int s, int from, int t, int to, int n) {
        if (!in(s, 0, 3) || !in(t, 0, 3)) {
            return find(Due.BEYOND);
        }
        if (bits[s] == 0 || bits[t] == 0) {
            return find(Due.MISSING);
        }
        if (bits[s] != bits[t]) {
            return find(Due.KIND);
        }
        if (from < 0 || to < 0 || n < 0 || (long) from + n > sheets[s].length || (long) to + n > sheets[t].length) {
            return find(Due.BEYOND);
        }
        int[] were = sheets[s].clone();
        for (int i = 0; i < n; i++) {
            sheets[t][to + i] = were[from + i];
        }
        return n;
    }

    private int ofSheet(String name, int[] a, int[] row) {
        switch (name) {
            case "write": {
                if (!in(a[1], 0, row.length - 1)) {
                    return find(Due.BEYOND);
                }
                int spare = 32 - bits[a[0]];
                row[a[1]] = a[2] << spare >> spare;
                return 1;
            }
            case "load": {
                if (!in(a[1], 0, 5)) {
                    return find(Due.BEYOND);
                }
                int came = 0;
                while (came < 24 && came < row.length && in(row[came], -1, 9)) {
                    now.people[a[1]][came] = row[came];
                    came++;
                }
                return came;
            }
            default: {
                if (!isWhen(a[1])) {
                    return find(Due.BEYOND);
                }
                for (int i = 0; i < row.length; i++) {
                    boolean isWell = in(row[i], 0, 9) && a[1] % 100 + i <= 23
                        && (i == 0 || row[i] == row[i - 1] || isWay(row[i - 1], row[i]))
                        && !heardThen(row[i], a[1] + i).isEmpty();
                    if (!isWell) {
                        return 1 + i;
                    }
                }
                return 0;
            }
        }
    }

    private int images(String name, int[] a) {
        switch (name) {
            case "image":
                kept = now.twin();
                return 1;
            case "undo":
                if (kept == null) {
                    return find(Due.NONE);
                }
                now = kept.twin();
                return now.sayings.size();
            case "tear": {
                int was = kept == null ? 0 : 1;
                kept = null;
                return was;
            }
            case "count": {
                int today = 0;
                for (int s = 0; s < now.sayings.size(); s++) {
                    today += isHeard(s, now.today) ? 1 : 0;
                }
                int[] counts = {now.today, now.sayings.size(), now.ways.size(), now.rain.size(), now.keep,
                    tape.length(), now.z, today};
                return in(a[0], 0, 7) ? counts[a[0]] : find(Due.BEYOND);
            }
            default:
                if (a[0] == -1) {
                    return Arrays.stream(found).sum();
                }
                return in(a[0], 0, 6) ? found[a[0]] : find(Due.BEYOND);
        }
    }
}
