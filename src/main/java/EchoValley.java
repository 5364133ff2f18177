import java.util.Arrays;

/** A valley that keeps what's said. What each call promises stands in the project's document. */
public final class EchoValley {
    private static final int BEYOND = -1000001;
    private static final int FULL = BEYOND - 1;
    private static final int KIND = BEYOND - 2;
    private static final int NONE = BEYOND - 3;
    private static final int STATE = BEYOND - 4;
    private static final int MISSING = BEYOND - 5;
    private static final int SIZE = BEYOND - 6;
    private static final int FINDINGS = 7;

    private static final int PLACES = 10;
    private static final int ALL_PLACES = (1 << PLACES) - 1;
    private static final int DAYS = 100;
    private static final int HOURS = 24;
    private static final int MOST_DAYS_AT_ONCE = 20;
    private static final int MOST_KEEP = 20;
    private static final int FIRST_KEEP = 9;
    private static final int MOST_CHANCE = 100;
    private static final int SAYINGS = 40;
    private static final int WORDS = 16;
    private static final int MOST_LOUD = 9;
    private static final int PERSONS = 6;
    private static final int AWAY = -1;
    private static final int BYTES = 120;
    private static final int SPOTS = 10;
    private static final int NOTHING = -1;
    private static final int SHEETS = 4;
    private static final int NUMBERS = 40;

    private final Valley valley = new Valley();
    private final Valley kept = new Valley();
    private final Valley draft = new Valley();
    private boolean isKept;
    private final Reader reader = new Reader();
    private final Sheet[] sheets = new Sheet[SHEETS];
    private final Walk latestWalk = new Walk();
    private final int[] findings = new int[FINDINGS];

    public EchoValley() {
        for (int s = 0; s < SHEETS; s++) {
            sheets[s] = new Sheet();
        }
    }

    // ---- places, days

    public int way(int one, int other, boolean is) {
        if (!isPlace(one) || !isPlace(other) || one == other) {
            return finding(BEYOND);
        }
        int was = valley.ways.has(one, other) ? 1 : 0;
        valley.ways.put(one, other, is);
        return was;
    }

    public int steps(int from, int to) {
        if (!isPlace(from) || !isPlace(to)) {
            return finding(BEYOND);
        }
        int fewest = valley.ways.fewestBetween(from, to);
        return fewest < 0 ? finding(NONE) : fewest;
    }

    public int days(int n) {
        if (n < 1 || n > MOST_DAYS_AT_ONCE) {
            return finding(BEYOND);
        }
        if (valley.today + n >= DAYS) {
            return finding(STATE);
        }
        valley.today += n;
        return valley.today;
    }

    public int rain(int day, boolean is) {
        if (!isDay(day)) {
            return finding(BEYOND);
        }
        int was = valley.rain[day];
        valley.rain[day] = is ? 1 : 0;
        return was;
    }

    public int weather(int from, int to, int chance) {
        if (!isDay(from) || !isDay(to) || to < from || chance < 0 || chance > MOST_CHANCE) {
            return finding(BEYOND);
        }
        for (int day = from; day <= to; day++) {
            valley.rain[day] = valley.draw() % 100 < chance ? 1 : 0;
        }
        return valley.rainyDays(from, to);
    }

    public int keep(int v) {
        if (v < 1 || v > MOST_KEEP) {
            return finding(BEYOND);
        }
        int was = valley.keeping;
        valley.keeping = v;
        return was;
    }

    // ---- sayings

    public int say(int kind, int word, int loud, int place, int hour) {
        if (!Kinds.isKind(kind) || !isWord(word) || !isLoud(loud) || !isPlace(place) || !isHour(hour)) {
            return finding(BEYOND);
        }
        if (valley.sayings.isFull()) {
            return finding(FULL);
        }
        return valley.sayings.add(kind, word, loud, place, hour, valley.today);
    }

    public int sayingOf(int saying, int what) {
        if (!isSaying(saying)) {
            return finding(BEYOND);
        }
        switch (what) {
            case 0:
                return valley.sayings.kind[saying];
            case 1:
                return valley.sayings.word[saying];
            case 2:
                return valley.sayings.loud[saying];
            case 3:
                return valley.sayings.place[saying];
            case 4:
                return valley.sayings.hour[saying];
            case 5:
                return valley.sayings.day[saying];
            case 6:
                return valley.lastsOf(saying);
            case 7:
                return valley.sayings.reachOf(saying);
            default:
                return finding(BEYOND);
        }
    }

    public int turn(int saying, int kind) {
        if (!isSaying(saying) || !Kinds.isKind(kind)) {
            return finding(BEYOND);
        }
        int was = valley.sayings.kind[saying];
        valley.sayings.kind[saying] = kind;
        return was;
    }

    public int age(int saying, int day) {
        if (!isSaying(saying) || !isDay(day)) {
            return finding(BEYOND);
        }
        if (day <= valley.sayings.day[saying]) {
            return finding(STATE);
        }
        return valley.ageOf(valley.sayings.day[saying], day);
    }

    public int over(int saying) {
        if (!isSaying(saying)) {
            return finding(BEYOND);
        }
        int first = valley.sayings.firstOver(saying);
        return first < 0 ? finding(NONE) : first;
    }

    public int until(int saying) {
        if (!isSaying(saying)) {
            return finding(BEYOND);
        }
        int last = valley.lastDayOf(saying);
        return last < 0 ? finding(NONE) : last;
    }

    public int reaches(int saying, int day) {
        if (!isSaying(saying) || !isDay(day)) {
            return finding(BEYOND);
        }
        return valley.isHeard(saying, day) ? valley.around(saying) : 0;
    }

    public int drowns(int saying) {
        if (!isSaying(saying)) {
            return finding(BEYOND);
        }
        if (!Kinds.canYield(valley.sayings.kind[saying], Kinds.ONCE)) {
            return finding(NONE);
        }
        return valley.sayings.loud[saying];
    }

    // ---- what is heard

    public int heard(int place, int when) {
        if (!isPlace(place) || !isWhen(when)) {
            return finding(BEYOND);
        }
        return Long.bitCount(valley.heardSet(place, when));
    }

    public int which(int place, int when, int i) {
        if (!isPlace(place) || !isWhen(when) || i < 0 || i >= SAYINGS) {
            return finding(BEYOND);
        }
        long set = valley.heardSet(place, when);
        int ahead = i;
        for (int s = 0; s < SAYINGS; s++) {
            if (isIn(set, s)) {
                if (ahead == 0) {
                    return s;
                }
                ahead--;
            }
        }
        return finding(NONE);
    }

    public int words(int place, int when) {
        if (!isPlace(place) || !isWhen(when)) {
            return finding(BEYOND);
        }
        long set = valley.heardSet(place, when);
        int told = 0;
        for (int s = 0; s < SAYINGS; s++) {
            if (isIn(set, s)) {
                told |= 1 << valley.sayings.word[s];
            }
        }
        return told;
    }

    public int plain(int place, int when) {
        if (!isPlace(place) || !isWhen(when)) {
            return finding(BEYOND);
        }
        long set = valley.heardSet(place, when);
        int loudest = 0;
        for (int s = 0; s < SAYINGS; s++) {
            if (isIn(set, s)) {
                loudest = Math.max(loudest, valley.sayings.loud[s]);
            }
        }
        return loudest == 0 ? finding(NONE) : loudest;
    }

    public int alone(int when) {
        if (!isWhen(when)) {
            return finding(BEYOND);
        }
        int taken = valley.loudPlaces(when) | valley.people.placesTaken(hourOf(when));
        return ALL_PLACES & ~taken;
    }

    public int full(int place, int day) {
        if (!isPlace(place) || !isDay(day)) {
            return finding(BEYOND);
        }
        int hours = 0;
        for (int s = 0; s < valley.sayings.number; s++) {
            if (valley.isHeardAt(s, place, day)) {
                hours |= 1 << valley.sayings.hour[s];
            }
        }
        return Integer.bitCount(hours);
    }

    // ---- people

    public int person(int person, int place, int from, int to) {
        boolean isThere = isPlace(place) || place == AWAY;
        if (!isPerson(person) || !isThere || !isHour(from) || !isHour(to) || to < from) {
            return finding(BEYOND);
        }
        valley.people.put(person, place, from, to);
        return 1;
    }

    public int where(int person, int hour) {
        if (!isPerson(person) || !isHour(hour)) {
            return finding(BEYOND);
        }
        return valley.people.placeOf(person, hour);
    }

    public int hears(int person, int day) {
        if (!isPerson(person) || !isDay(day)) {
            return finding(BEYOND);
        }
        int number = 0;
        for (int s = 0; s < valley.sayings.number; s++) {
            if (valley.doesHear(person, s, day)) {
                number++;
            }
        }
        return number;
    }

    public int first(int person, int word) {
        if (!isPerson(person) || !isWord(word)) {
            return finding(BEYOND);
        }
        // All is said by TODAY, and once it isn't HEARD it never is again: so it is the next DAY, or none.
        int next = valley.today + 1;
        for (int s = 0; s < valley.sayings.number; s++) {
            if (valley.sayings.word[s] == word && valley.doesHear(person, s, next)) {
                return next;
            }
        }
        return finding(NONE);
    }

    public int who(int saying) {
        if (!isSaying(saying)) {
            return finding(BEYOND);
        }
        // What is HEARD on any DAY is HEARD on the first one behind its own, at the same PLACES.
        int next = valley.sayings.day[saying] + 1;
        int set = 0;
        for (int person = 0; person < PERSONS; person++) {
            if (valley.doesHear(person, saying, next)) {
                set |= 1 << person;
            }
        }
        return set;
    }

    public int said(int saying) {
        if (!isSaying(saying)) {
            return finding(BEYOND);
        }
        int hour = valley.sayings.hour[saying];
        int set = 0;
        for (int person = 0; person < PERSONS; person++) {
            if (valley.people.placeOf(person, hour) == valley.sayings.place[saying]) {
                set |= 1 << person;
            }
        }
        return set;
    }

    public int tell(int she, int he) {
        if (!isPerson(she) || !isPerson(he) || she == he) {
            return finding(BEYOND);
        }
        // LOUD 1 is HEARD at its own PLACE alone. Where that can't part the two, they are together
        // whenever she isn't away, and then no LOUD can.
        for (int hour = 0; hour < HOURS; hour++) {
            int place = valley.people.placeOf(she, hour);
            if (place != AWAY && place != valley.people.placeOf(he, hour)) {
                return 10000 + 100 * hour + place;
            }
        }
        return finding(NONE);
    }

    public int needs(int day) {
        if (!isDay(day)) {
            return finding(BEYOND);
        }
        if (day <= valley.today) {
            return finding(STATE);
        }
        // What is said later is HEARD till later, so each is said on the last DAY of the one ahead.
        int last = valley.today;
        int number = 0;
        while (last < day && number < DAYS) {
            int next = valley.lastDayOfOnce(last);
            if (next <= last) {
                return finding(NONE);
            }
            last = next;
            number++;
        }
        return number;
    }

    // ---- walks

    public int walk(int place, int when, int n) {
        if (!isPlace(place) || !isWhen(when) || n < 1 || n > HOURS || hourOf(when) + n > HOURS) {
            return finding(BEYOND);
        }
        return latestWalk.choose(valley, place, when, n);
    }

    public int step(int i) {
        if (i < 0 || i >= HOURS) {
            return finding(BEYOND);
        }
        return i < latestWalk.length ? latestWalk.places[i] : finding(NONE);
    }

    public int crowd() {
        int most = 0;
        int told = 0;
        for (int hour = 0; hour < HOURS; hour++) {
            for (int place = 0; place < PLACES; place++) {
                int number = valley.people.numberAt(place, hour);
                if (number > most) {
                    most = number;
                    told = 100 * hour + place;
                }
            }
        }
        return most == 0 ? finding(NONE) : told;
    }

    public int seed(int v) {
        int was = valley.z;
        valley.z = v;
        return was;
    }

    // ---- texts

    public int feed(int bytes, int n) {
        if (n < 1 || n > 4) {
            return finding(BEYOND);
        }
        if (reader.number + n > BYTES) {
            return finding(FULL);
        }
        reader.add(bytes, n);
        return reader.number;
    }

    public int wipe() {
        return reader.clear();
    }

    public int text() {
        // A FAULT may stand behind good ITEMS: they are told to a draft, which counts only if all is well.
        draft.become(valley);
        int answer = reader.readInto(draft);
        if (answer >= 0) {
            valley.become(draft);
        }
        reader.clear();
        return answer;
    }

    // ---- spots, sheets

    public int hold(int spot, int saying) {
        if (!isSpot(spot) || !isSaying(saying) && saying != NOTHING) {
            return finding(BEYOND);
        }
        valley.spots[spot] = saying;
        return 1;
    }

    public int as(int spot, int kind) {
        if (!isSpot(spot) || !Kinds.isKind(kind)) {
            return finding(BEYOND);
        }
        int saying = valley.spots[spot];
        if (!isSaying(saying)) {
            return finding(MISSING);
        }
        return Kinds.isUnder(valley.sayings.kind[saying], kind) ? saying : finding(KIND);
    }

    public int sheet(int s, int bits, int n) {
        if (!isSheet(s) || !Sheet.areBits(bits)) {
            return finding(BEYOND);
        }
        if (n < 0) {
            return finding(SIZE);
        }
        if (n > NUMBERS) {
            return finding(BEYOND);
        }
        sheets[s].begin(bits, n);
        return sheets[s].size;
    }

    public int write(int s, int i, int v) {
        if (!isSheet(s)) {
            return finding(BEYOND);
        }
        if (sheets[s].isMissing()) {
            return finding(MISSING);
        }
        if (i < 0 || i >= sheets[s].size) {
            return finding(BEYOND);
        }
        sheets[s].put(i, v);
        return 1;
    }

    public int copy(int s, int from, int t, int to, int n) {
        if (!isSheet(s) || !isSheet(t)) {
            return finding(BEYOND);
        }
        Sheet source = sheets[s];
        Sheet target = sheets[t];
        if (source.isMissing() || target.isMissing()) {
            return finding(MISSING);
        }
        if (source.bits != target.bits) {
            return finding(KIND);
        }
        if (!source.hasRange(from, n) || !target.hasRange(to, n)) {
            return finding(BEYOND);
        }
        System.arraycopy(source.numbers, from, target.numbers, to, n);
        return n;
    }

    public int load(int s, int person) {
        if (!isSheet(s)) {
            return finding(BEYOND);
        }
        Sheet source = sheets[s];
        if (source.isMissing()) {
            return finding(MISSING);
        }
        if (!isPerson(person)) {
            return finding(BEYOND);
        }
        int most = Math.min(source.size, HOURS);
        for (int hour = 0; hour < most; hour++) {
            int place = source.numbers[hour];
            if (!isPlace(place) && place != AWAY) {
                return hour;
            }
            valley.people.put(person, place, hour, hour);
        }
        return most;
    }

    public int judge(int s, int when) {
        if (!isSheet(s)) {
            return finding(BEYOND);
        }
        Sheet told = sheets[s];
        if (told.isMissing()) {
            return finding(MISSING);
        }
        if (!isWhen(when)) {
            return finding(BEYOND);
        }
        for (int i = 0; i < told.size; i++) {
            int place = told.numbers[i];
            int ahead = i == 0 ? place : told.numbers[i - 1];
            if (!isPlace(place) || !valley.ways.isOpen(ahead, place)
                    || hourOf(when) + i >= HOURS || valley.heardSet(place, when + i) == 0) {
                return 1 + i;
            }
        }
        return 0;
    }

    // ---- images

    public int image() {
        kept.become(valley);
        isKept = true;
        return 1;
    }

    public int undo() {
        if (!isKept) {
            return finding(NONE);
        }
        valley.become(kept);
        return valley.sayings.number;
    }

    public int tear() {
        int was = isKept ? 1 : 0;
        isKept = false;
        return was;
    }

    public int count(int what) {
        switch (what) {
            case 0:
                return valley.today;
            case 1:
                return valley.sayings.number;
            case 2:
                return valley.ways.total();
            case 3:
                return valley.rainyDays(0, DAYS - 1);
            case 4:
                return valley.keeping;
            case 5:
                return reader.number;
            case 6:
                return valley.z;
            case 7:
                return valley.heardOn(valley.today);
            default:
                return finding(BEYOND);
        }
    }

    public int status(int which) {
        if (which < -1 || which >= FINDINGS) {
            return finding(BEYOND);
        }
        if (which >= 0) {
            return findings[which];
        }
        int all = 0;
        for (int i = 0; i < FINDINGS; i++) {
            all += findings[i];
        }
        return all;
    }

    // ---- what calls ask of their numbers

    private int finding(int told) {
        int i = BEYOND - told;
        if (i >= 0 && i < FINDINGS) {
            findings[i]++;
        }
        return told;
    }

    private boolean isSaying(int saying) {
        return saying >= 0 && saying < valley.sayings.number;
    }

    private static boolean isPlace(int place) {
        return place >= 0 && place < PLACES;
    }

    private static boolean isDay(int day) {
        return day >= 0 && day < DAYS;
    }

    private static boolean isHour(int hour) {
        return hour >= 0 && hour < HOURS;
    }

    private static boolean isWhen(int when) {
        return when >= 0 && isDay(dayOf(when)) && isHour(hourOf(when));
    }

    private static boolean isWord(int word) {
        return word >= 0 && word < WORDS;
    }

    private static boolean isLoud(int loud) {
        return loud >= 1 && loud <= MOST_LOUD;
    }

    private static boolean isPerson(int person) {
        return person >= 0 && person < PERSONS;
    }

    private static boolean isSpot(int spot) {
        return spot >= 0 && spot < SPOTS;
    }

    private static boolean isSheet(int s) {
        return s >= 0 && s < SHEETS;
    }

    private static int dayOf(int when) {
        return when / 100;
    }

    private static int hourOf(int when) {
        return when % 100;
    }

    private static boolean isIn(long set, int i) {
        return (set >> i & 1) == 1;
    }

    /** What SAYINGS of each KIND do; one that a switch doesn't name does there as a ONCE one. */
    private static final class Kinds {
        static final int ONCE = 0;
        static final int KEPT = 1;
        static final int LOW = 2;
        static final int OVER = 3;
        static final int CARRIED = 4;
        static final int CURSED = 5;
        static final int HUSHED = 6;
        private static final int[] ABOVE = {-1, ONCE, ONCE, ONCE, KEPT, OVER, LOW};

        static boolean isKind(int kind) {
            return kind >= 0 && kind < ABOVE.length;
        }

        static boolean isUnder(int kind, int above) {
            int k = kind;
            for (int i = 0; i < ABOVE.length && isKind(k); i++) {
                if (k == above) {
                    return true;
                }
                k = ABOVE[k];
            }
            return false;
        }

        static int lasting(int kind, int keep) {
            switch (kind) {
                case KEPT:
                case CARRIED:
                    return 2 * keep;
                case CURSED:
                    return keep + 5;
                case HUSHED:
                    return Math.max(1, keep - 3);
                default:
                    return keep;
            }
        }

        static int reachOf(int kind, int loud) {
            switch (kind) {
                case LOW:
                case HUSHED:
                    return 0;
                case CARRIED:
                    return loud / 3 + 2;
                default:
                    return loud / 3;
            }
        }

        static boolean canDrown(int kind, int loud, int drownedLoud) {
            switch (kind) {
                case LOW:
                case HUSHED:
                    return false;
                case OVER:
                case CURSED:
                    return true;
                default:
                    return loud >= drownedLoud;
            }
        }

        static boolean canYield(int kind, int drowningKind) {
            return kind != CURSED || drowningKind == CURSED;
        }
    }

    /** WAYS: for each PLACE the set of those to which there is one. */
    private static final class Ways {
        private final int[] near = new int[PLACES];

        void become(Ways other) {
            System.arraycopy(other.near, 0, near, 0, PLACES);
        }

        boolean has(int one, int other) {
            return isPlace(one) && isIn(near[one], other);
        }

        void put(int one, int other, boolean is) {
            putHalf(one, other, is);
            putHalf(other, one, is);
        }

        private void putHalf(int from, int to, boolean is) {
            if (is) {
                near[from] |= 1 << to;
            } else {
                near[from] &= ~(1 << to);
            }
        }

        boolean isOpen(int from, int to) {
            return from == to || has(from, to);
        }

        int total() {
            int halves = 0;
            for (int place = 0; place < PLACES; place++) {
                halves += Integer.bitCount(near[place]);
            }
            return halves / 2;
        }

        int fewestBetween(int from, int to) {
            int set = 1 << from;
            for (int steps = 0; steps < PLACES; steps++) {
                if (isIn(set, to)) {
                    return steps;
                }
                set = spread(set);
            }
            return -1;
        }

        int within(int place, int reach) {
            int set = 1 << place;
            for (int i = 0; i < reach; i++) {
                set = spread(set);
            }
            return set;
        }

        private int spread(int set) {
            int wider = set;
            for (int place = 0; place < PLACES; place++) {
                if (isIn(set, place)) {
                    wider |= near[place];
                }
            }
            return wider;
        }
    }

    /** SAYINGS, a row for each thing that is told of them. */
    private static final class Sayings {
        private int number;
        private final int[] kind = new int[SAYINGS];
        private final int[] word = new int[SAYINGS];
        private final int[] loud = new int[SAYINGS];
        private final int[] place = new int[SAYINGS];
        private final int[] hour = new int[SAYINGS];
        private final int[] day = new int[SAYINGS];

        void become(Sayings other) {
            number = other.number;
            System.arraycopy(other.kind, 0, kind, 0, number);
            System.arraycopy(other.word, 0, word, 0, number);
            System.arraycopy(other.loud, 0, loud, 0, number);
            System.arraycopy(other.place, 0, place, 0, number);
            System.arraycopy(other.hour, 0, hour, 0, number);
            System.arraycopy(other.day, 0, day, 0, number);
        }

        boolean isFull() {
            return number >= SAYINGS;
        }

        int add(int ofKind, int ofWord, int asLoud, int atPlace, int inHour, int onDay) {
            int s = number;
            kind[s] = ofKind;
            word[s] = ofWord;
            loud[s] = asLoud;
            place[s] = atPlace;
            hour[s] = inHour;
            day[s] = onDay;
            number++;
            return s;
        }

        int reachOf(int s) {
            return Kinds.reachOf(kind[s], loud[s]);
        }

        int firstOver(int s) {
            for (int b = s + 1; b < number; b++) {
                if (isOver(b, s)) {
                    return b;
                }
            }
            return -1;
        }

        private boolean isOver(int b, int a) {
            return place[b] == place[a] && hour[b] == hour[a]
                    && Kinds.canDrown(kind[b], loud[b], loud[a]) && Kinds.canYield(kind[a], kind[b]);
        }
    }

    /** PERSONS: where each one is, HOUR by HOUR. */
    private static final class People {
        private final int[] places = new int[PERSONS * HOURS];

        People() {
            Arrays.fill(places, AWAY);
        }

        void become(People other) {
            System.arraycopy(other.places, 0, places, 0, PERSONS * HOURS);
        }

        int placeOf(int person, int hour) {
            return places[person * HOURS + hour];
        }

        void put(int person, int place, int from, int to) {
            for (int hour = from; hour <= to; hour++) {
                places[person * HOURS + hour] = place;
            }
        }

        /** PLACES at which someone is in an HOUR, as a set. */
        int placesTaken(int hour) {
            int set = 0;
            for (int person = 0; person < PERSONS; person++) {
                int place = placeOf(person, hour);
                if (place != AWAY) {
                    set |= 1 << place;
                }
            }
            return set;
        }

        int numberAt(int place, int hour) {
            int number = 0;
            for (int person = 0; person < PERSONS; person++) {
                if (placeOf(person, hour) == place) {
                    number++;
                }
            }
            return number;
        }
    }

    /** All that an image keeps. */
    private static final class Valley {
        private final Ways ways = new Ways();
        private final Sayings sayings = new Sayings();
        private final People people = new People();
        private final int[] rain = new int[DAYS];
        private final int[] spots = new int[SPOTS];
        private int today;
        private int keeping = FIRST_KEEP;
        private int z = 1;

        Valley() {
            Arrays.fill(spots, NOTHING);
        }

        void become(Valley other) {
            ways.become(other.ways);
            sayings.become(other.sayings);
            people.become(other.people);
            System.arraycopy(other.rain, 0, rain, 0, DAYS);
            System.arraycopy(other.spots, 0, spots, 0, SPOTS);
            today = other.today;
            keeping = other.keeping;
            z = other.z;
        }

        int draw() {
            z = z * 1103515245 + 12345;
            return z >>> 8;
        }

        int rainyDays(int from, int to) {
            int number = 0;
            for (int day = from; day <= to; day++) {
                number += rain[day];
            }
            return number;
        }

        int ageOf(int own, int day) {
            return day - own + rainyDays(own + 1, day);
        }

        int lastsOf(int s) {
            return Kinds.lasting(sayings.kind[s], keeping);
        }

        int around(int s) {
            return ways.within(sayings.place[s], sayings.reachOf(s));
        }

        boolean isHeard(int s, int day) {
            int own = sayings.day[s];
            if (day <= own || !isDay(day) || ageOf(own, day) > lastsOf(s)) {
                return false;
            }
            // Of those said OVER it the first one told is of the first DAY.
            int first = sayings.firstOver(s);
            return first < 0 || sayings.day[first] > day;
        }

        boolean isHeardAt(int s, int place, int day) {
            return isHeard(s, day) && isIn(around(s), place);
        }

        /** SAYINGS that are HEARD at a PLACE then, as a set. */
        long heardSet(int place, int when) {
            long set = 0;
            for (int s = 0; s < sayings.number; s++) {
                if (sayings.hour[s] == hourOf(when) && isHeardAt(s, place, dayOf(when))) {
                    set |= 1L << s;
                }
            }
            return set;
        }

        /** PLACES at which something is HEARD then, as a set. */
        int loudPlaces(int when) {
            int set = 0;
            for (int s = 0; s < sayings.number; s++) {
                if (sayings.hour[s] == hourOf(when) && isHeard(s, dayOf(when))) {
                    set |= around(s);
                }
            }
            return set;
        }

        int heardOn(int day) {
            int number = 0;
            for (int s = 0; s < sayings.number; s++) {
                if (isHeard(s, day)) {
                    number++;
                }
            }
            return number;
        }

        /** The last DAY on which a SAYING is HEARD, -1 if it never is. */
        int lastDayOf(int s) {
            int last = -1;
            for (int day = sayings.day[s] + 1; day < DAYS && isHeard(s, day); day++) {
                last = day;
            }
            return last;
        }

        /** The last DAY on which a ONCE one of a DAY is HEARD if none is said OVER it; its own if it never is. */
        int lastDayOfOnce(int own) {
            int lasts = Kinds.lasting(Kinds.ONCE, keeping);
            int last = own;
            for (int day = own + 1; day < DAYS && ageOf(own, day) <= lasts; day++) {
                last = day;
            }
            return last;
        }

        boolean doesHear(int person, int s, int day) {
            int place = people.placeOf(person, sayings.hour[s]);
            return place != AWAY && isHeardAt(s, place, day);
        }
    }

    /** The WALK told latest, and rows in which it is reckoned: a number for each HOUR of it and each PLACE. */
    private static final class Walk {
        private int length;
        private final int[] places = new int[HOURS];
        private final int[] heardThere = new int[HOURS * PLACES];
        private final int[] mostFromThere = new int[HOURS * PLACES];

        int choose(Valley valley, int place, int when, int n) {
            gather(valley, when, n);
            for (int i = n - 1; i >= 0; i--) {
                reckon(valley.ways, i, n);
            }
            places[0] = place;
            for (int i = 1; i < n; i++) {
                places[i] = bestNext(valley.ways, places[i - 1], i);
            }
            length = n;
            return mostFromThere[place];
        }

        private void gather(Valley valley, int when, int n) {
            Arrays.fill(heardThere, 0);
            for (int s = 0; s < valley.sayings.number; s++) {
                int i = valley.sayings.hour[s] - hourOf(when);
                if (i >= 0 && i < n && valley.isHeard(s, dayOf(when))) {
                    addAround(valley.around(s), i);
                }
            }
        }

        private void addAround(int set, int i) {
            for (int place = 0; place < PLACES; place++) {
                if (isIn(set, place)) {
                    heardThere[i * PLACES + place]++;
                }
            }
        }

        private void reckon(Ways ways, int i, int n) {
            for (int place = 0; place < PLACES; place++) {
                int most = heardThere[i * PLACES + place];
                if (i + 1 < n) {
                    most += mostFromThere[(i + 1) * PLACES + bestNext(ways, place, i + 1)];
                }
                mostFromThere[i * PLACES + place] = most;
            }
        }

        private int bestNext(Ways ways, int place, int i) {
            int best = place;
            int most = -1;
            for (int next = 0; next < PLACES; next++) {
                if (ways.isOpen(place, next) && mostFromThere[i * PLACES + next] > most) {
                    best = next;
                    most = mostFromThere[i * PLACES + next];
                }
            }
            return best;
        }
    }

    /** THE TAPE, read TOKEN by TOKEN. One that can't stand there stays at hand, so that its start is the FAULT. */
    private static final class Reader {
        private static final int END = 0;
        private static final int WORD = 1;
        private static final int NUMBER = 2;
        private static final int SIGN = 3;
        private static final int BLANK = 4;
        private static final int OTHER = 5;
        private static final int TOO_LARGE = 1000;

        private int number;
        private final int[] bytes = new int[BYTES];
        private int token;
        private int start;
        private int end;
        private int value;

        void add(int lowest, int n) {
            for (int i = n - 1; i >= 0; i--) {
                bytes[number] = (lowest >>> (8 * i)) & 255;
                number++;
            }
        }

        int clear() {
            int had = number;
            number = 0;
            return had;
        }

        /** How many ITEMS, or -1 less the FAULT. */
        int readInto(Valley draft) {
            end = 0;
            next();
            for (int items = 1; items <= BYTES; items++) {
                if (!readItem(draft)) {
                    return -1 - start;
                }
                if (token == END) {
                    return items;
                }
                if (token != SIGN) {
                    return -1 - start;
                }
                next();
            }
            return -1 - start;
        }

        private boolean readItem(Valley draft) {
            if (take("way")) {
                return readWay(draft);
            }
            if (take("person")) {
                return readPerson(draft);
            }
            if (take("keep")) {
                return readKeep(draft);
            }
            if (take("rain")) {
                return readRain(draft);
            }
            int kind = kindAtHand();
            if (kind < 0 || draft.sayings.isFull()) {
                return false;
            }
            next();
            return readSaying(draft, kind);
        }

        private boolean readWay(Valley draft) {
            int one = takeNumber(0, PLACES - 1);
            if (one < 0 || token == NUMBER && value == one) {
                return false;
            }
            int other = takeNumber(0, PLACES - 1);
            if (other < 0) {
                return false;
            }
            draft.ways.put(one, other, true);
            return true;
        }

        private boolean readPerson(Valley draft) {
            int person = takeNumber(0, PERSONS - 1);
            if (person < 0 || !take("at")) {
                return false;
            }
            int place = takeNumber(0, PLACES - 1);
            if (place < 0) {
                return false;
            }
            int from = 0;
            int to = HOURS - 1;
            if (take("hours")) {
                from = takeNumber(0, HOURS - 1);
                if (from < 0) {
                    return false;
                }
                to = takeNumber(from, HOURS - 1);
                if (to < 0) {
                    return false;
                }
            }
            draft.people.put(person, place, from, to);
            return true;
        }

        private boolean readKeep(Valley draft) {
            int keep = takeNumber(1, MOST_KEEP);
            if (keep < 0) {
                return false;
            }
            draft.keeping = keep;
            return true;
        }

        private boolean readRain(Valley draft) {
            int day = takeNumber(0, DAYS - 1);
            if (day < 0) {
                return false;
            }
            draft.rain[day] = 1;
            return true;
        }

        private boolean readSaying(Valley draft, int kind) {
            int word = takeNumber(0, WORDS - 1);
            if (word < 0 || !take("at")) {
                return false;
            }
            int place = takeNumber(0, PLACES - 1);
            if (place < 0 || !take("hour")) {
                return false;
            }
            int hour = takeNumber(0, HOURS - 1);
            if (hour < 0) {
                return false;
            }
            int loud = 1;
            if (take("loud")) {
                loud = takeNumber(1, MOST_LOUD);
                if (loud < 0) {
                    return false;
                }
            }
            draft.sayings.add(kind, word, loud, place, hour, draft.today);
            return true;
        }

        private int kindAtHand() {
            if (isAtHand("once")) {
                return Kinds.ONCE;
            }
            if (isAtHand("kept")) {
                return Kinds.KEPT;
            }
            if (isAtHand("low")) {
                return Kinds.LOW;
            }
            if (isAtHand("over")) {
                return Kinds.OVER;
            }
            if (isAtHand("carried")) {
                return Kinds.CARRIED;
            }
            if (isAtHand("cursed")) {
                return Kinds.CURSED;
            }
            return isAtHand("hushed") ? Kinds.HUSHED : -1;
        }

        private boolean take(String word) {
            if (!isAtHand(word)) {
                return false;
            }
            next();
            return true;
        }

        private boolean isAtHand(String word) {
            if (token != WORD || end - start != word.length()) {
                return false;
            }
            for (int i = 0; i < word.length(); i++) {
                if (bytes[start + i] != word.charAt(i)) {
                    return false;
                }
            }
            return true;
        }

        /** The NUMBER at hand, -1 if it isn't one from the least to the most. */
        private int takeNumber(int least, int most) {
            if (token != NUMBER || value < least || value > most) {
                return -1;
            }
            int taken = value;
            next();
            return taken;
        }

        private void next() {
            while (end < number && typeAt(end) == BLANK) {
                end++;
            }
            start = end;
            token = typeAt(start);
            value = 0;
            if (token != END) {
                end++;
            }
            if (token == WORD || token == NUMBER) {
                while (end < number && typeAt(end) == token) {
                    end++;
                }
            }
            if (token == NUMBER) {
                reckonValue();
            }
        }

        private void reckonValue() {
            for (int i = start; i < end; i++) {
                // So that a long one doesn't go round to a small value.
                value = value >= TOO_LARGE ? TOO_LARGE : 10 * value + bytes[i] - '0';
            }
        }

        private int typeAt(int i) {
            if (i >= number) {
                return END;
            }
            int b = bytes[i];
            if (b >= 'a' && b <= 'z') {
                return WORD;
            }
            if (b >= '0' && b <= '9') {
                return NUMBER;
            }
            if (b == ' ') {
                return BLANK;
            }
            return b == ';' ? SIGN : OTHER;
        }
    }

    /** A row of numbers; of 0 bits it is MISSING. */
    private static final class Sheet {
        private int bits;
        private int size;
        private final int[] numbers = new int[NUMBERS];

        static boolean areBits(int bits) {
            return bits == 0 || bits == 8 || bits == 16 || bits == 32;
        }

        boolean isMissing() {
            return bits == 0;
        }

        void begin(int ofBits, int n) {
            bits = ofBits;
            size = bits == 0 ? 0 : n;
            Arrays.fill(numbers, 0);
        }

        boolean hasRange(int from, int n) {
            return from >= 0 && n >= 0 && n <= size && from <= size - n;
        }

        void put(int i, int v) {
            if (bits == 8) {
                numbers[i] = (byte) v;
            } else if (bits == 16) {
                numbers[i] = (short) v;
            } else {
                numbers[i] = v;
            }
        }
    }
}
