import java.util.Arrays;

/** A grave old city, whose grief is seen to by a guild of clowns that fall. */
public final class ClownsMourn {
    public static final int NONE = -1;

    private static final int OTHER = -2;
    private static final int NO_STAY = -100000;
    private static final int MOST_HOUSES = 6;
    private static final int MOST_CLOWNS = 5;
    private static final int FALL_KINDS = 5;
    private static final int MOOD_COUNT = 10;
    private static final int MOST_TEXTS = 4;
    private static final int MOST_GRIEF = 99;
    private static final int MOST_LAUGHED = 99;
    private static final int MOST_TIRED = 9;
    private static final int MOST_FALLS = 9999;
    private static final int LAST_DAY = 9999;
    private static final int DAYS_AT_ONCE = 60;
    private static final int MOST_HEAVY = 600;
    private static final int MOST_TOLD = 8;
    private static final int MOST_BORNE = 100;
    private static final int MOST_COST = 99;
    private static final int FIRST_COST = 10;
    private static final int SHARERS = 4;
    private static final int MOST_HOURS = 6;
    private static final int HOUR_TERMS = 1000000;
    private static final int GLAD_MOOD = 9;
    private static final int ORDER_LENGTH = 9;
    private static final int FOR_ALL_LENGTH = 20;
    private static final int EVERY_MOOD = 1023;
    private static final int EVERY_LESSON = 31;

    private final City city;
    private final City kept;
    private final Reader reader;
    private final Laws laws;
    private final Guild guild;
    private final Search search;
    private final MoodWalk moodWalk;
    private final ComfortWalk comfortWalk;
    private final Match match;

    public ClownsMourn() {
        city = new City();
        kept = new City();
        reader = new Reader();
        laws = new Laws(city);
        guild = new Guild(city, laws);
        search = new Search();
        moodWalk = new MoodWalk(city);
        comfortWalk = new ComfortWalk(city, laws);
        match = new Match(city);
    }

    public int house(int kind, int grief) {
        if (!within(kind, 0, 3) || !within(grief, 0, MOST_GRIEF)) {
            return NONE;
        }
        return city.addHouse(kind, grief);
    }

    public int clown(int skill, int age) {
        if (!within(skill, 1, 9) || !within(age, 0, 99)) {
            return NONE;
        }
        return city.addClown(skill, age);
    }

    public boolean mood(int fall, int from, int to) {
        if (!isFall(fall) || !isMood(from) || !isMood(to)) {
            return false;
        }
        put(city.turns, fall * MOOD_COUNT + from, to);
        return true;
    }

    public int feed(int a, int b, int c, int d, int e) {
        if (!reader.hasRoom()) {
            return NONE;
        }
        reader.addBytes(a);
        reader.addBytes(b);
        reader.addBytes(c);
        reader.addBytes(d);
        reader.addBytes(e);
        return reader.length;
    }

    public int end(int n) {
        if (!within(n, 0, reader.length)) {
            return NONE;
        }
        reader.length = n;
        return n;
    }

    public int text() {
        if (city.textCount >= MOST_TEXTS) {
            return NONE;
        }
        Text read = reader.readTape();
        return read == null ? NONE : city.addText(read);
    }

    public int fault(int what) {
        switch (what) {
            case 0:
                return reader.lastFault;
            case 1:
                return reader.lastPlace;
            default:
                return NONE;
        }
    }

    public boolean by(int text) {
        if (!within(text, NONE, city.textCount - 1)) {
            return false;
        }
        city.ruling = text;
        return true;
    }

    public boolean send(int clown, int house) {
        if (!guild.canGo(clown, house)) {
            return false;
        }
        city.steps.keepRow(city.now);
        guild.goes(clown, house);
        return true;
    }

    public int fall(int clown, int fall) {
        if (!guild.canFall(clown, fall)) {
            return NONE;
        }
        city.steps.keepRow(city.now);
        guild.falls(clown, fall);
        return city.see(City.MOOD, city.see(City.PLACE, clown));
    }

    public boolean rest(int clown) {
        if (!guild.canRest(clown)) {
            return false;
        }
        city.steps.keepRow(city.now);
        guild.goes(clown, NONE);
        return true;
    }

    public int day(int n) {
        if (!within(n, 1, DAYS_AT_ONCE) || city.today() + n > LAST_DAY) {
            return NONE;
        }
        passDays(n);
        return city.today();
    }

    public int played(int text) {
        Text script = city.textAt(text);
        if (script == null) {
            return OTHER;
        }
        for (int i = 0; i < script.clauseCount; i++) {
            if (!playClause(script, i)) {
                return i;
            }
        }
        return NONE;
    }

    public int decades(int seed, int n) {
        if (!within(seed, 0, 9999) || !within(n, 1, 40)) {
            return NONE;
        }
        city.steps.keepRow(city.now);
        city.set(City.DRAW, 0, seed * 2 + City.FIRST_DRAW);
        for (int i = 0; i < n; i++) {
            guild.actsByDraw();
        }
        return city.today();
    }

    public int undo() {
        if (city.steps.count == 0) {
            return NONE;
        }
        city.steps.takeBack(city.now);
        return city.steps.count;
    }

    public int of(int house, int what) {
        if (!city.hasHouse(house)) {
            return OTHER;
        }
        switch (what) {
            case 0:
                return at(city.kinds, house);
            case 1:
                return city.see(City.GRIEF, house);
            case 2:
                return city.see(City.MOOD, house);
            case 3:
                return city.see(City.CLOCK, house);
            case 4:
                return city.see(City.LAUGHED, house);
            case 5:
                return laws.growing(city.textAt(city.ruling), house);
            case 6:
                return city.clownsAt(house);
            default:
                return OTHER;
        }
    }

    public int ofClown(int clown, int what) {
        if (!city.hasClown(clown)) {
            return OTHER;
        }
        switch (what) {
            case 0:
                return at(city.skills, clown);
            case 1:
                return at(city.ages, clown);
            case 2:
                return city.see(City.TIRED, clown);
            case 3:
                return city.see(City.PLACE, clown);
            case 4:
                return city.see(City.FALLS, clown);
            default:
                return OTHER;
        }
    }

    public int eased(int clown, int fall) {
        return city.isOut(clown) && isFall(fall) ? laws.easing(clown, fall) : NONE;
    }

    public int laughs(int clown, int fall) {
        return city.isOut(clown) && isFall(fall) ? guild.oddsOfFall(clown, fall) : NONE;
    }

    public int is(int what) {
        switch (what) {
            case 0:
                return city.today();
            case 1:
                return city.see(City.DRAW, 0);
            default:
                return OTHER;
        }
    }

    public int book(int i, int what) {
        int count = city.see(City.WRITTEN, 0);
        if (i == NONE) {
            return count;
        }
        if (!within(i, 0, count - 1)) {
            return OTHER;
        }
        int line = city.see(City.BOOK, i);
        switch (what) {
            case 0:
                return line >> 6;
            case 1:
                return line >> 3 & 7;
            case 2:
                return line & 7;
            default:
                return OTHER;
        }
    }

    public int foretold(int n, int house) {
        if (!within(n, 1, DAYS_AT_ONCE) || !city.hasHouse(house)) {
            return NONE;
        }
        guild.beginForetelling();
        for (int i = 0; i < n && guild.canPass(); i++) {
            guild.passes();
        }
        int grief = city.see(City.GRIEF, house);
        guild.endForetelling();
        return grief;
    }

    public int heavy(int grief) {
        if (!within(grief, 0, MOST_HEAVY)) {
            return NONE;
        }
        guild.beginForetelling();
        int days = 0;
        while (days < DAYS_AT_ONCE && guild.canPass() && city.allGrief() < grief) {
            guild.passes();
            days++;
        }
        int answer = city.allGrief() >= grief ? days : NONE;
        guild.endForetelling();
        return answer;
    }

    public int told(int fall, int from) {
        return isFall(fall) && isMood(from) ? city.turned(fall, from) : NONE;
    }

    public int order(int house, int i) {
        if (!city.hasHouse(house)) {
            return OTHER;
        }
        search.find(moodWalk, moodWalk.fromMood(city.see(City.MOOD, house)), ORDER_LENGTH);
        return search.answer(i);
    }

    public int all(int i) {
        search.find(moodWalk, moodWalk.fromEveryMood(), FOR_ALL_LENGTH);
        return search.answer(i);
    }

    public int comfort(int clown, int g, int i) {
        if (!city.isOut(clown) || !within(g, 0, MOST_GRIEF)) {
            return OTHER;
        }
        int start = comfortWalk.begin(clown, g);
        search.find(comfortWalk, start, MOST_TIRED - comfortWalk.tired);
        comfortWalk.leaveAsItWas(start);
        return search.answer(i);
    }

    public int ring(int fall) {
        if (!isFall(fall)) {
            return NONE;
        }
        // behind as many falls as there are moods, only moods of a ring are left
        int moods = EVERY_MOOD;
        for (int i = 0; i < MOOD_COUNT; i++) {
            moods = city.turnedSet(fall, moods);
        }
        return moods;
    }

    public boolean cost(int clown, int house, int cost) {
        if (!within(clown, 0, MOST_CLOWNS - 1) || !within(house, 0, MOST_HOUSES - 1)
                || !within(cost, 0, MOST_COST)) {
            return false;
        }
        put(city.costs, clown * MOST_HOUSES + house, cost);
        return true;
    }

    public int matched(int clown) {
        if (clown != NONE && !city.hasClown(clown)) {
            return OTHER;
        }
        match.find();
        return clown == NONE ? match.least : at(match.best, clown);
    }

    public int bore(int grief, boolean laughed) {
        if (grief == NONE) {
            city.trialCount = 0;
            return 0;
        }
        if (!within(grief, 0, MOST_GRIEF) || city.trialCount >= MOST_TOLD) {
            return OTHER;
        }
        put(city.trials, city.trialCount, grief * 2 + (laughed ? 1 : 0));
        city.trialCount++;
        return city.trialCount;
    }

    public int bears(int what) {
        switch (what) {
            case 0:
                return city.leastErrors();
            case 1:
                return city.leastBorne();
            case 2:
                return city.greatestBorne();
            default:
                return OTHER;
        }
    }

    public int next(int high) {
        if (!within(high, 0, MOST_GRIEF)) {
            return NONE;
        }
        int least = city.leastErrors();
        int count = 0;
        for (int b = 0; b <= MOST_BORNE; b++) {
            count += city.errorsAt(b) == least ? 1 : 0;
        }
        int best = NONE;
        int nearest = 0;
        int laughing = count;
        for (int grief = 0; grief <= high; grief++) {
            laughing -= city.errorsAt(grief) == least ? 1 : 0;
            int off = Math.abs(2 * laughing - count);
            if (laughing > 0 && laughing < count && (best == NONE || off < nearest)) {
                best = grief;
                nearest = off;
            }
        }
        return best;
    }

    public boolean worth(int clowns, int worth) {
        if (!within(clowns, 1, 15) || !within(worth, 0, 999)) {
            return false;
        }
        put(city.worths, clowns, worth);
        return true;
    }

    public int share(int clown, int of, boolean low) {
        if (!within(of, 1, SHARERS) || !within(clown, 0, of - 1)) {
            return NONE;
        }
        int sum = 0;
        for (int ahead = 0; ahead < 1 << of; ahead++) {
            if ((ahead >> clown & 1) == 0) {
                int size = Integer.bitCount(ahead);
                int added = at(city.worths, ahead | 1 << clown) - at(city.worths, ahead);
                sum += factorial(size) * factorial(of - size - 1) * added;
            }
        }
        return inLowestTerms(sum, factorial(of), low);
    }

    public int stays(int p, int pay, int c, int what) {
        if (!within(p, 0, 10) || !within(pay, 0, 999) || !within(c, 0, 99) || !within(what, 0, 2)) {
            return NO_STAY;
        }
        int hours = 0;
        int most = 0;
        int sum = 0;
        // how often hour i is begun, of so many that every mean is whole (the least sum is -2079000000)
        int begun = HOUR_TERMS / 10;
        for (int i = 1; i <= MOST_HOURS; i++) {
            sum += begun * (p * pay - 10 * i * c);
            if (sum > most) {
                most = sum;
                hours = i;
            }
            begun = begun * (10 - p) / 10;
        }
        return what == 0 ? hours : inLowestTerms(most, HOUR_TERMS, what == 2);
    }

    public boolean behind(int fall, int other) {
        if (!isFall(fall) || !isFall(other) || fall == other) {
            return false;
        }
        int ahead = at(city.aheads, fall);
        put(city.aheads, fall, ahead | 1 << other);
        return (ahead >> other & 1) == 0;
    }

    public int lessons(int i) {
        int orders = ordersFrom(city.aheads, 0);
        if (i == NONE) {
            return orders;
        }
        return orders > 0 && within(i, 0, FALL_KINDS - 1) ? lowestLesson(i) : OTHER;
    }

    public int grown(int house, int by) {
        if (house == NONE) {
            city.grownCount = 0;
            return 0;
        }
        if (!city.hasHouse(house) || !within(by, 0, 9) || city.grownCount >= MOST_TOLD) {
            return OTHER;
        }
        put(city.growns, city.grownCount, house * 10 + by);
        city.grownCount++;
        return city.grownCount;
    }

    public int whose() {
        int texts = 0;
        for (int i = 0; i < city.textCount; i++) {
            if (growsAsTold(city.textAt(i))) {
                texts |= 1 << i;
            }
        }
        return texts;
    }

    public int clocks(int clown) {
        if (!city.hasClown(clown)) {
            return NONE;
        }
        int houses = 0;
        for (int i = 0; i < city.houseCount(); i++) {
            if (city.see(City.CLOCK, i) == clown) {
                houses |= 1 << i;
            }
        }
        return houses;
    }

    public int saddest() {
        return city.highest(City.GRIEF, city.houseCount());
    }

    public int tiredest() {
        return city.highest(City.TIRED, city.clownCount());
    }

    public int sitting() {
        int clowns = 0;
        for (int i = 0; i < city.clownCount(); i++) {
            if (city.isOut(i) && city.see(City.TIRED, i) == MOST_TIRED) {
                clowns |= 1 << i;
            }
        }
        return clowns;
    }

    public int ledger(int clown) {
        if (clown != NONE && !city.hasClown(clown)) {
            return OTHER;
        }
        int laughs = 0;
        for (int i = 0; i < city.see(City.WRITTEN, 0) && i < City.BOOK_LENGTH; i++) {
            if (clown == NONE || (city.see(City.BOOK, i) & 7) == clown) {
                laughs++;
            }
        }
        return laughs;
    }

    public int image() {
        kept.becomes(city);
        return city.today();
    }

    public int back() {
        city.becomes(kept);
        return city.today();
    }

    public int about(int what) {
        switch (what) {
            case 0:
                return city.houseCount();
            case 1:
                return city.clownCount();
            case 2:
                return city.textCount;
            case 3:
                return city.ruling;
            case 4:
                return city.steps.count;
            case 5:
                return city.trialCount;
            case 6:
                return city.grownCount;
            case 7:
                return reader.length;
            default:
                return OTHER;
        }
    }

    private int passDays(int n) {
        int passed = 0;
        while (passed < n && guild.canPass()) {
            city.steps.keepRow(city.now);
            guild.passes();
            passed++;
        }
        return passed;
    }

    private boolean playClause(Text script, int clause) {
        int a = script.numberOf(clause, 1);
        int b = script.numberOf(clause, 2);
        int c = script.numberOf(clause, 3);
        switch (script.numberOf(clause, 0)) {
            case Reader.HOUSE:
                return house(a, b) != NONE;
            case Reader.CLOWN:
                return clown(a, b) != NONE;
            case Reader.MOOD:
                return mood(b, a, c);
            case Reader.SEND:
                return send(a, b);
            case Reader.FALL:
                return fall(b, a) != NONE;
            case Reader.REST:
                return rest(a);
            case Reader.DAY:
                return passDays(a) == a;
            default:
                return true;
        }
    }

    private boolean growsAsTold(Text text) {
        for (int i = 0; i < city.grownCount; i++) {
            int grown = at(city.growns, i);
            if (laws.growing(text, grown / 10) != grown % 10) {
                return false;
            }
        }
        return true;
    }

    private int lowestLesson(int i) {
        int learnt = 0;
        int lesson = NONE;
        for (int place = 0; place <= i; place++) {
            lesson = NONE;
            for (int fall = FALL_KINDS - 1; fall >= 0; fall--) {
                if (canLearn(city.aheads, learnt, fall)) {
                    lesson = fall;
                }
            }
            learnt |= lesson == NONE ? 0 : 1 << lesson;
        }
        return lesson;
    }

    private static boolean canLearn(int[] aheads, int learnt, int fall) {
        return (learnt >> fall & 1) == 0 && (at(aheads, fall) & ~learnt) == 0;
    }

    /** Each level learns one more of the five falls, so it goes five levels deep. */
    private static int ordersFrom(int[] aheads, int learnt) {
        if (learnt == EVERY_LESSON) {
            return 1;
        }
        int orders = 0;
        for (int fall = 0; fall < FALL_KINDS; fall++) {
            if (canLearn(aheads, learnt, fall)) {
                orders += ordersFrom(aheads, learnt | 1 << fall);
            }
        }
        return orders;
    }

    private static int inLowestTerms(int upper, int lower, boolean low) {
        int divisor = Math.abs(upper);
        int rest = lower;
        // Euclid's steps over ints are fewer than fifty
        for (int i = 0; i < 100 && rest != 0; i++) {
            int left = divisor % rest;
            divisor = rest;
            rest = left;
        }
        if (divisor == 0) {
            return low ? lower : upper;
        }
        return low ? lower / divisor : upper / divisor;
    }

    private static int factorial(int n) {
        int product = 1;
        for (int i = 2; i <= n && i <= SHARERS; i++) {
            product *= i;
        }
        return product;
    }

    private static boolean isFall(int fall) {
        return within(fall, 0, FALL_KINDS - 1);
    }

    private static boolean isMood(int mood) {
        return within(mood, 0, MOOD_COUNT - 1);
    }

    private static boolean within(int number, int low, int high) {
        return number >= low && number <= high;
    }

    private static int held(int number, int low, int high) {
        int raised = number < low ? low : number;
        return raised > high ? high : raised;
    }

    private static int at(int[] row, int i) {
        return i >= 0 && i < row.length ? row[i] : 0;
    }

    private static void put(int[] row, int i, int number) {
        if (i >= 0 && i < row.length) {
            row[i] = number;
        }
    }

    private static void copyPart(int[] from, int start, int[] to, int goal, int length) {
        if (start >= 0 && goal >= 0 && length >= 0
                && length <= from.length - start && length <= to.length - goal) {
            System.arraycopy(from, start, to, goal, length);
        }
    }

    private static void copyWhole(int[] from, int[] to) {
        copyPart(from, 0, to, 0, from.length);
    }

    /** All that an image holds. */
    private static final class City {
        // the parts of the row that a step can change
        static final int GRIEF = 0;
        static final int MOOD = 6;
        static final int CLOCK = 12;
        static final int LAUGHED = 18;
        static final int TIRED = 24;
        static final int PLACE = 29;
        static final int FALLS = 34;
        static final int TODAY = 39;
        static final int DRAW = 40;
        static final int WRITTEN = 41;
        static final int BOOK = 42;
        static final int HOUSES = 72;
        static final int CLOWNS = 73;
        static final int WIDTH = 74;

        static final int BOOK_LENGTH = 30;
        static final int FIRST_DRAW = 179;

        final int[] now = new int[WIDTH];
        final Steps steps = new Steps();
        final int[] kinds = new int[MOST_HOUSES];
        final int[] skills = new int[MOST_CLOWNS];
        final int[] ages = new int[MOST_CLOWNS];
        final int[] turns = new int[FALL_KINDS * MOOD_COUNT];
        final Text[] texts = new Text[MOST_TEXTS];
        int textCount = 0;
        int ruling = NONE;
        final int[] costs = new int[MOST_CLOWNS * MOST_HOUSES];
        final int[] trials = new int[MOST_TOLD];
        int trialCount = 0;
        final int[] worths = new int[1 << SHARERS];
        final int[] aheads = new int[FALL_KINDS];
        final int[] growns = new int[MOST_TOLD];
        int grownCount = 0;

        City() {
            put(now, DRAW, FIRST_DRAW);
            Arrays.fill(costs, FIRST_COST);
            for (int fall = 0; fall < FALL_KINDS; fall++) {
                for (int mood = 0; mood < MOOD_COUNT; mood++) {
                    put(turns, fall * MOOD_COUNT + mood, (mood + fall + 1) % MOOD_COUNT);
                }
            }
        }

        void becomes(City other) {
            copyWhole(other.now, now);
            steps.becomes(other.steps);
            copyWhole(other.kinds, kinds);
            copyWhole(other.skills, skills);
            copyWhole(other.ages, ages);
            copyWhole(other.turns, turns);
            for (int i = 0; i < texts.length && i < other.texts.length; i++) {
                texts[i] = other.texts[i];
            }
            textCount = other.textCount;
            ruling = other.ruling;
            copyWhole(other.costs, costs);
            copyWhole(other.trials, trials);
            trialCount = other.trialCount;
            copyWhole(other.worths, worths);
            copyWhole(other.aheads, aheads);
            copyWhole(other.growns, growns);
            grownCount = other.grownCount;
        }

        int see(int part, int i) {
            return at(now, part + i);
        }

        void set(int part, int i, int number) {
            put(now, part + i, number);
        }

        int today() {
            return at(now, TODAY);
        }

        int houseCount() {
            return Math.min(at(now, HOUSES), MOST_HOUSES);
        }

        int clownCount() {
            return Math.min(at(now, CLOWNS), MOST_CLOWNS);
        }

        boolean hasHouse(int house) {
            return house >= 0 && house < at(now, HOUSES);
        }

        boolean hasClown(int clown) {
            return clown >= 0 && clown < at(now, CLOWNS);
        }

        boolean isOut(int clown) {
            return hasClown(clown) && see(PLACE, clown) != NONE;
        }

        int addHouse(int kind, int grief) {
            int house = at(now, HOUSES);
            if (house >= MOST_HOUSES) {
                return NONE;
            }
            put(kinds, house, kind);
            set(GRIEF, house, grief);
            set(MOOD, house, 0);
            set(CLOCK, house, NONE);
            set(LAUGHED, house, 0);
            put(now, HOUSES, house + 1);
            return house;
        }

        int addClown(int skill, int age) {
            int clown = at(now, CLOWNS);
            if (clown >= MOST_CLOWNS) {
                return NONE;
            }
            put(skills, clown, skill);
            put(ages, clown, age);
            set(TIRED, clown, 0);
            set(PLACE, clown, NONE);
            set(FALLS, clown, 0);
            put(now, CLOWNS, clown + 1);
            return clown;
        }

        int addText(Text read) {
            int text = textCount;
            if (text < 0 || text >= texts.length) {
                return NONE;
            }
            texts[text] = read;
            textCount++;
            return text;
        }

        Text textAt(int text) {
            return text >= 0 && text < textCount && text < texts.length ? texts[text] : null;
        }

        int turned(int fall, int mood) {
            return at(turns, fall * MOOD_COUNT + mood);
        }

        int turnedSet(int fall, int moods) {
            int reached = 0;
            for (int mood = 0; mood < MOOD_COUNT; mood++) {
                if ((moods >> mood & 1) == 1) {
                    reached |= 1 << turned(fall, mood);
                }
            }
            return reached;
        }

        int clownsAt(int house) {
            int clowns = 0;
            for (int i = 0; i < clownCount(); i++) {
                if (see(PLACE, i) == house) {
                    clowns |= 1 << i;
                }
            }
            return clowns;
        }

        int allGrief() {
            int sum = 0;
            for (int i = 0; i < houseCount(); i++) {
                sum += see(GRIEF, i);
            }
            return sum;
        }

        int highest(int part, int count) {
            int best = NONE;
            for (int i = 0; i < count; i++) {
                if (best == NONE || see(part, i) > see(part, best)) {
                    best = i;
                }
            }
            return best;
        }

        void writeDown(int house, int clown) {
            int count = at(now, WRITTEN);
            if (count >= BOOK_LENGTH) {
                copyPart(now, BOOK + 1, now, BOOK, BOOK_LENGTH - 1);
                count = BOOK_LENGTH - 1;
            }
            set(BOOK, count, today() << 6 | house << 3 | clown);
            put(now, WRITTEN, count + 1);
        }

        int errorsAt(int borne) {
            int errors = 0;
            for (int i = 0; i < trialCount; i++) {
                int trial = at(trials, i);
                int due = trial / 2 < borne ? 1 : 0;
                errors += due == trial % 2 ? 0 : 1;
            }
            return errors;
        }

        int leastErrors() {
            int least = errorsAt(0);
            for (int b = 1; b <= MOST_BORNE; b++) {
                least = Math.min(least, errorsAt(b));
            }
            return least;
        }

        int leastBorne() {
            int least = leastErrors();
            int found = 0;
            for (int b = MOST_BORNE; b >= 0; b--) {
                found = errorsAt(b) == least ? b : found;
            }
            return found;
        }

        int greatestBorne() {
            int least = leastErrors();
            int found = 0;
            for (int b = 0; b <= MOST_BORNE; b++) {
                found = errorsAt(b) == least ? b : found;
            }
            return found;
        }
    }

    /** The rows as they were ahead of the latest steps, in a round of slots. */
    private static final class Steps {
        static final int MOST = 30;

        final int[] rows = new int[MOST * City.WIDTH];
        int first = 0;
        int count = 0;

        void becomes(Steps other) {
            copyWhole(other.rows, rows);
            first = other.first;
            count = other.count;
        }

        void keepRow(int[] now) {
            if (count >= MOST) {
                first = (first + 1) % MOST;
                count = MOST - 1;
            }
            copyPart(now, 0, rows, startOf(count), City.WIDTH);
            count++;
        }

        /** Houses and clowns told since then stay as they are: as told, for each later step is undone. */
        void takeBack(int[] now) {
            if (count <= 0) {
                return;
            }
            count--;
            int start = startOf(count);
            int houses = at(rows, start + City.HOUSES);
            int clowns = at(rows, start + City.CLOWNS);
            copyBack(now, start, City.GRIEF, houses);
            copyBack(now, start, City.MOOD, houses);
            copyBack(now, start, City.CLOCK, houses);
            copyBack(now, start, City.LAUGHED, houses);
            copyBack(now, start, City.TIRED, clowns);
            copyBack(now, start, City.PLACE, clowns);
            copyBack(now, start, City.FALLS, clowns);
            copyBack(now, start, City.TODAY, City.HOUSES - City.TODAY);
        }

        private void copyBack(int[] now, int start, int part, int length) {
            copyPart(rows, start + part, now, part, length);
        }

        private int startOf(int step) {
            return (first + step) % MOST * City.WIDTH;
        }
    }

    /** A text that was read: its clauses, and the code of its laws. It never changes. */
    private static final class Text {
        final int clauseCount;
        private final int[] clauses;
        private final int[] code;
        private final int[] bounds;

        Text(int clauseCount, int[] clauses, int[] code, int[] bounds) {
            this.clauseCount = clauseCount;
            this.clauses = clauses;
            this.code = code;
            this.bounds = bounds;
        }

        int numberOf(int clause, int place) {
            return at(clauses, clause * Reader.CLAUSE_WIDTH + place);
        }

        int startOf(int law) {
            return at(bounds, law * 2);
        }

        int stopOf(int law) {
            return at(bounds, law * 2 + 1);
        }

        boolean hasLaw(int law) {
            return startOf(law) < stopOf(law);
        }
    }

    /** The tape, and the reading of it: token by token, each judged as it is come to. */
    private static final class Reader {
        static final int TAPE_LENGTH = 300;
        static final int FED = 20;
        static final int MOST_CLAUSES = 24;
        static final int CLAUSE_WIDTH = 4;
        static final int MOST_OPEN = 8;
        static final int MOST_NUMBER = 9999;

        // words, in this order, are tokens by their place; the first twelve are the names
        static final String WORDS =
                "day kind grief mood laughed house skill age tired fall who there eases laughs grows clown send rest by to hold from moods if then else end or and not ";
        static final int DAY = 0;
        static final int KIND = 1;
        static final int GRIEF = 2;
        static final int MOOD = 3;
        static final int LAUGHED = 4;
        static final int HOUSE = 5;
        static final int SKILL = 6;
        static final int AGE = 7;
        static final int TIRED = 8;
        static final int FALL = 9;
        static final int WHO = 10;
        static final int THERE = 11;
        static final int EASES = 12;
        static final int LAUGHS = 13;
        static final int GROWS = 14;
        static final int CLOWN = 15;
        static final int SEND = 16;
        static final int REST = 17;
        static final int BY = 18;
        static final int TO = 19;
        static final int HOLD = 20;
        static final int FROM = 21;
        static final int MOODS = 22;
        static final int IF = 23;
        static final int THEN = 24;
        static final int ELSE = 25;
        static final int END = 26;
        static final int OR = 27;
        static final int AND = 28;
        static final int NOT = 29;
        static final int NAME_COUNT = 12;

        static final int NO_TOKEN = 30;
        static final int FINISH = 31;
        static final int NUMBER = 32;
        static final int AT_MOST = 33;
        static final int AT_LEAST = 34;
        static final int BELOW = 35;
        static final int ABOVE = 36;
        static final int EQUAL = 37;
        static final int UNLIKE = 38;
        static final int PLUS = 39;
        static final int MINUS = 40;
        static final int TIMES = 41;
        static final int OVER = 42;
        static final int OPEN = 43;
        static final int CLOSE = 44;
        static final int SEMICOLON = 45;

        // code: the token that asks for it, and for these two a kind of their own
        static final int NEGATE = 46;
        static final int NAME = 47;
        static final int OPERAND = 64;

        int length = 0;
        int lastFault = NONE;
        int lastPlace = NONE;
        private final int[] tape = new int[TAPE_LENGTH];
        private final int[] clauses = new int[MOST_CLAUSES * CLAUSE_WIDTH];
        private final int[] code = new int[TAPE_LENGTH];
        private final int[] bounds = new int[6];
        private int clauseCount;
        private int codeLength;
        private int place;
        private int start;
        private int token;
        private int number;
        private int fault;
        private int law;
        private int open;

        boolean hasRoom() {
            return length <= TAPE_LENGTH - FED;
        }

        void addBytes(int four) {
            for (int shift = 24; shift >= 0; shift -= 8) {
                put(tape, length, four >> shift & 255);
                length++;
            }
        }

        /** The text of the tape, which is empty then; null with a fault. */
        Text readTape() {
            place = 0;
            fault = 0;
            clauseCount = 0;
            codeLength = 0;
            open = 0;
            Arrays.fill(bounds, 0);
            Arrays.fill(clauses, 0);
            advance();
            for (int i = 0; i <= MOST_CLAUSES && fault == 0 && token != FINISH; i++) {
                readClause();
            }
            lastFault = fault;
            lastPlace = fault == 0 ? NONE : start;
            length = 0;
            if (fault != 0) {
                return null;
            }
            int width = held(clauseCount * CLAUSE_WIDTH, 0, clauses.length);
            return new Text(clauseCount, Arrays.copyOf(clauses, width),
                    Arrays.copyOf(code, held(codeLength, 0, code.length)), bounds.clone());
        }

        private void readClause() {
            int first = token;
            if (!beginsClause(first)) {
                fail(1);
            } else if (isLaw(first) && at(bounds, (first - EASES) * 2 + 1) > 0) {
                fail(4);
            } else if (clauseCount >= MOST_CLAUSES) {
                fail(6);
            } else {
                put(clauses, clauseCount * CLAUSE_WIDTH, first);
                advance();
                if (isLaw(first)) {
                    law = first;
                    put(bounds, (first - EASES) * 2, codeLength);
                    readSum();
                    put(bounds, (first - EASES) * 2 + 1, codeLength);
                } else {
                    readDeed(first);
                }
                expect(SEMICOLON);
                clauseCount++;
            }
        }

        private static boolean isLaw(int word) {
            return word >= EASES && word <= GROWS;
        }

        private static boolean beginsClause(int word) {
            return word == DAY || word == MOOD || word == HOUSE || word == FALL
                    || word >= EASES && word <= REST;
        }

        private void readDeed(int word) {
            switch (word) {
                case HOUSE:
                    readNumber(1, 0, 3);
                    expect(GRIEF);
                    readNumber(2, 0, MOST_GRIEF);
                    break;
                case CLOWN:
                    readNumber(1, 1, 9);
                    expect(AGE);
                    readNumber(2, 0, 99);
                    break;
                case MOOD:
                    readNumber(1, 0, MOOD_COUNT - 1);
                    expect(BY);
                    readNumber(2, 0, FALL_KINDS - 1);
                    expect(TO);
                    readNumber(3, 0, MOOD_COUNT - 1);
                    break;
                case SEND:
                    readNumber(1, 0, MOST_CLOWNS - 1);
                    expect(TO);
                    readNumber(2, 0, MOST_HOUSES - 1);
                    break;
                case FALL:
                    readNumber(1, 0, FALL_KINDS - 1);
                    expect(BY);
                    readNumber(2, 0, MOST_CLOWNS - 1);
                    break;
                case REST:
                    readNumber(1, 0, MOST_CLOWNS - 1);
                    break;
                default:
                    readNumber(1, 1, DAYS_AT_ONCE);
                    break;
            }
        }

        private void readNumber(int slot, int low, int high) {
            if (token != NUMBER) {
                fail(1);
            } else if (!within(number, low, high)) {
                fail(2);
            } else {
                put(clauses, clauseCount * CLAUSE_WIDTH + slot, number);
                advance();
            }
        }

        private void readSum() {
            readProduct();
            for (int i = 0; i < TAPE_LENGTH && (token == PLUS || token == MINUS); i++) {
                int sign = token;
                advance();
                readProduct();
                emit(sign, 0);
            }
        }

        private void readProduct() {
            readOne();
            for (int i = 0; i < TAPE_LENGTH && (token == TIMES || token == OVER); i++) {
                int sign = token;
                advance();
                readOne();
                emit(sign, 0);
            }
        }

        private void readOne() {
            switch (token) {
                case NUMBER:
                    readPlainNumber();
                    break;
                case OPEN:
                    if (opens()) {
                        readSum();
                        expect(CLOSE);
                        open--;
                    }
                    break;
                case MINUS:
                    if (opens()) {
                        readOne();
                        emit(NEGATE, 0);
                        open--;
                    }
                    break;
                case HOLD:
                    if (opens()) {
                        readOne();
                        expect(FROM);
                        readOne();
                        expect(TO);
                        readOne();
                        emit(HOLD, 0);
                        open--;
                    }
                    break;
                case MOODS:
                    if (opens()) {
                        readOne();
                        emit(MOODS, 0);
                        open--;
                    }
                    break;
                case IF:
                    if (opens()) {
                        readChoice();
                        open--;
                    }
                    break;
                default:
                    readName();
                    break;
            }
        }

        private void readChoice() {
            readEither();
            expect(THEN);
            readSum();
            expect(ELSE);
            readSum();
            expect(END);
            emit(IF, 0);
        }

        private void readEither() {
            readBoth();
            for (int i = 0; i < TAPE_LENGTH && token == OR; i++) {
                advance();
                readBoth();
                emit(OR, 0);
            }
        }

        private void readBoth() {
            readAsk();
            for (int i = 0; i < TAPE_LENGTH && token == AND; i++) {
                advance();
                readAsk();
                emit(AND, 0);
            }
        }

        private void readAsk() {
            if (token == NOT) {
                if (opens()) {
                    readAsk();
                    emit(NOT, 0);
                    open--;
                }
                return;
            }
            readSum();
            int sign = token;
            if (sign < AT_MOST || sign > UNLIKE) {
                fail(1);
                return;
            }
            advance();
            readSum();
            emit(sign, 0);
        }

        private void readPlainNumber() {
            if (number > MOST_NUMBER) {
                fail(2);
            } else {
                emit(NUMBER, number);
                advance();
            }
        }

        private void readName() {
            if (token >= NAME_COUNT) {
                fail(1);
            } else if (token > HOUSE && (token == THERE) != (law == GROWS)) {
                fail(5);
            } else {
                emit(NAME, token);
                advance();
            }
        }

        /** What keeps the reading from going deeper: just so many may be open around one another. */
        private boolean opens() {
            if (open >= MOST_OPEN) {
                fail(3);
                return false;
            }
            open++;
            advance();
            return true;
        }

        private void emit(int operation, int operand) {
            put(code, codeLength, operation + operand * OPERAND);
            codeLength++;
        }

        private void expect(int wanted) {
            if (token == wanted) {
                advance();
            } else {
                fail(1);
            }
        }

        /** The first fault stays; no token is come to behind it, so all reading ends. */
        private void fail(int what) {
            if (fault == 0) {
                fault = what;
            }
            token = NO_TOKEN;
        }

        private void advance() {
            if (fault != 0) {
                return;
            }
            while (place < length && isBlank(at(tape, place))) {
                place++;
            }
            start = place;
            int sign = at(tape, place);
            if (place >= length) {
                token = FINISH;
            } else if (isLetter(sign)) {
                takeWord();
            } else if (isDigit(sign)) {
                takeNumber();
            } else {
                takeSign(sign);
            }
        }

        private static boolean isBlank(int sign) {
            return sign == 32 || sign == 10;
        }

        private static boolean isLetter(int sign) {
            return sign >= 'a' && sign <= 'z' || sign >= 'A' && sign <= 'Z';
        }

        private static boolean isDigit(int sign) {
            return sign >= '0' && sign <= '9';
        }

        private void takeWord() {
            while (place < length && isLetter(at(tape, place))) {
                place++;
            }
            token = NO_TOKEN;
            int word = 0;
            int matching = start;
            boolean same = true;
            for (int i = 0; i < WORDS.length() && token == NO_TOKEN; i++) {
                char sign = WORDS.charAt(i);
                if (sign != ' ') {
                    same = same && matching < place && at(tape, matching) == sign;
                    matching++;
                } else if (same && matching == place) {
                    token = word;
                } else {
                    word++;
                    matching = start;
                    same = true;
                }
            }
        }

        private void takeNumber() {
            number = 0;
            while (place < length && isDigit(at(tape, place))) {
                // however many digits there are, it stays just above the greatest number
                number = Math.min(number * 10 + at(tape, place) - '0', MOST_NUMBER + 1);
                place++;
            }
            token = NUMBER;
        }

        private void takeSign(int sign) {
            boolean equal = place + 1 < length && at(tape, place + 1) == '=';
            if (sign == '<') {
                token = equal ? AT_MOST : BELOW;
            } else if (sign == '>') {
                token = equal ? AT_LEAST : ABOVE;
            } else {
                token = plainSign(sign);
            }
            place += token == AT_MOST || token == AT_LEAST ? 2 : 1;
        }

        private static int plainSign(int sign) {
            switch (sign) {
                case '=':
                    return EQUAL;
                case '#':
                    return UNLIKE;
                case '+':
                    return PLUS;
                case '-':
                    return MINUS;
                case '*':
                    return TIMES;
                case '/':
                    return OVER;
                case '(':
                    return OPEN;
                case ')':
                    return CLOSE;
                case ';':
                    return SEMICOLON;
                default:
                    return NO_TOKEN;
            }
        }
    }

    /** What the laws of a text say of the city as it is; changes nothing of it. */
    private static final class Laws {
        static final int MOST = 1000000;
        // each of eight that are open around one another leaves at most five numbers, the sum around them two
        static final int STACK_HEIGHT = 64;

        private final City city;
        private final int[] named = new int[Reader.NAME_COUNT];
        private final int[] stack = new int[STACK_HEIGHT];
        private int height = 0;

        Laws(City city) {
            this.city = city;
        }

        int easing(int clown, int kind) {
            Text text = city.textAt(city.ruling);
            if (text == null || !text.hasLaw(0)) {
                return at(city.skills, clown) + kind;
            }
            nameHouse(city.see(City.PLACE, clown));
            nameClown(clown, kind);
            return held(worked(text, 0), 0, 99);
        }

        int laughing(int clown, int kind) {
            int house = city.see(City.PLACE, clown);
            Text text = city.textAt(city.ruling);
            if (text == null || !text.hasLaw(1)) {
                return city.see(City.MOOD, house);
            }
            nameHouse(house);
            nameClown(clown, kind);
            return held(worked(text, 1), 0, 10);
        }

        int growing(Text text, int house) {
            int there = Integer.bitCount(city.clownsAt(house));
            if (text == null || !text.hasLaw(2)) {
                return there == 0 ? 1 : 0;
            }
            nameHouse(house);
            put(named, Reader.THERE, there);
            return held(worked(text, 2), 0, 9);
        }

        private void nameHouse(int house) {
            put(named, Reader.DAY, city.today());
            put(named, Reader.KIND, at(city.kinds, house));
            put(named, Reader.GRIEF, city.see(City.GRIEF, house));
            put(named, Reader.MOOD, city.see(City.MOOD, house));
            put(named, Reader.LAUGHED, city.see(City.LAUGHED, house));
            put(named, Reader.HOUSE, house);
        }

        private void nameClown(int clown, int kind) {
            put(named, Reader.SKILL, at(city.skills, clown));
            put(named, Reader.AGE, at(city.ages, clown));
            put(named, Reader.TIRED, city.see(City.TIRED, clown));
            put(named, Reader.FALL, kind);
            put(named, Reader.WHO, clown);
        }

        private int worked(Text text, int law) {
            height = 0;
            int stop = text.stopOf(law);
            for (int i = text.startOf(law); i < stop; i++) {
                int word = at(text.code, i);
                int operand = word / Reader.OPERAND;
                int operation = word % Reader.OPERAND;
                switch (operation) {
                    case Reader.NUMBER:
                        push(operand);
                        break;
                    case Reader.NAME:
                        push(at(named, operand));
                        break;
                    case Reader.NEGATE:
                        push(-pop());
                        break;
                    case Reader.NOT:
                        push(1 - pop());
                        break;
                    case Reader.MOODS:
                        push(moodOf(pop()));
                        break;
                    case Reader.HOLD:
                        int high = pop();
                        int low = pop();
                        push(held(pop(), low, high));
                        break;
                    case Reader.IF:
                        // asking changes nothing, so the sum that isn't chosen is just left aside
                        int otherwise = pop();
                        int chosen = pop();
                        push(pop() == 1 ? chosen : otherwise);
                        break;
                    default:
                        int right = pop();
                        push(joined(operation, pop(), right));
                        break;
                }
            }
            return pop();
        }

        private void push(int number) {
            put(stack, height, number);
            height++;
        }

        private int pop() {
            height--;
            return at(stack, height);
        }

        private int moodOf(int house) {
            boolean isTold = house >= 0 && house < at(city.now, City.HOUSES);
            return isTold ? at(city.now, City.MOOD + house) : 0;
        }

        private static int joined(int operation, int left, int right) {
            switch (operation) {
                case Reader.PLUS:
                    return cut(left + right);
                case Reader.MINUS:
                    return cut(left - right);
                case Reader.TIMES:
                    return cut((long) left * right);
                case Reader.OVER:
                    return right == 0 ? 0 : left / right;
                case Reader.AND:
                    return left & right;
                case Reader.OR:
                    return left | right;
                default:
                    return compares(operation, left, right) ? 1 : 0;
            }
        }

        private static int cut(long exact) {
            if (exact > MOST) {
                return MOST;
            }
            return exact < -MOST ? -MOST : (int) exact;
        }

        private static boolean compares(int operation, int left, int right) {
            switch (operation) {
                case Reader.AT_MOST:
                    return left <= right;
                case Reader.AT_LEAST:
                    return left >= right;
                case Reader.BELOW:
                    return left < right;
                case Reader.ABOVE:
                    return left > right;
                case Reader.EQUAL:
                    return left == right;
                default:
                    return left != right;
            }
        }
    }

    /** What clowns and days do; whether it is a step is seen to by who asks. */
    private static final class Guild {
        private final City city;
        private final Laws laws;
        private final int[] asItIs = new int[City.WIDTH];

        Guild(City city, Laws laws) {
            this.city = city;
            this.laws = laws;
        }

        boolean canGo(int clown, int house) {
            return city.hasClown(clown) && city.hasHouse(house) && city.see(City.PLACE, clown) != house;
        }

        boolean canRest(int clown) {
            return city.isOut(clown);
        }

        boolean canFall(int clown, int kind) {
            return isFall(kind) && city.isOut(clown) && city.see(City.TIRED, clown) < MOST_TIRED;
        }

        boolean canPass() {
            return city.today() < LAST_DAY;
        }

        void goes(int clown, int place) {
            city.set(City.PLACE, clown, place);
        }

        void falls(int clown, int kind) {
            int house = city.see(City.PLACE, clown);
            moves(house, kind, laws.easing(clown, kind));
            if (draws() % 10 < laws.laughing(clown, kind)) {
                city.set(City.LAUGHED, house, Math.min(city.see(City.LAUGHED, house) + 1, MOST_LAUGHED));
                if (city.see(City.CLOCK, house) == NONE) {
                    city.set(City.CLOCK, house, clown);
                }
                city.writeDown(house, clown);
            }
            city.set(City.TIRED, clown, city.see(City.TIRED, clown) + 1);
            city.set(City.FALLS, clown, Math.min(city.see(City.FALLS, clown) + 1, MOST_FALLS));
        }

        int oddsOfFall(int clown, int kind) {
            int house = city.see(City.PLACE, clown);
            int grief = city.see(City.GRIEF, house);
            int mood = city.see(City.MOOD, house);
            moves(house, kind, laws.easing(clown, kind));
            int odds = laws.laughing(clown, kind);
            city.set(City.GRIEF, house, grief);
            city.set(City.MOOD, house, mood);
            return odds;
        }

        private void moves(int house, int kind, int eases) {
            city.set(City.GRIEF, house, Math.max(city.see(City.GRIEF, house) - eases, 0));
            city.set(City.MOOD, house, city.turned(kind, city.see(City.MOOD, house)));
        }

        private int draws() {
            int drawn = city.see(City.DRAW, 0);
            city.set(City.DRAW, 0, (drawn * 419 + 293) % 30529);
            return drawn;
        }

        void passes() {
            for (int house = 0; house < city.houseCount(); house++) {
                int grown = laws.growing(city.textAt(city.ruling), house);
                city.set(City.GRIEF, house, Math.min(city.see(City.GRIEF, house) + grown, MOST_GRIEF));
            }
            for (int clown = 0; clown < city.clownCount(); clown++) {
                int rested = city.isOut(clown) ? 1 : 3;
                city.set(City.TIRED, clown, Math.max(city.see(City.TIRED, clown) - rested, 0));
            }
            city.set(City.TODAY, 0, city.today() + 1);
        }

        void actsByDraw() {
            int x = draws();
            int deed = x % 6;
            int clowns = city.clownCount();
            int houses = city.houseCount();
            if (deed == 5) {
                if (canPass()) {
                    passes();
                }
            } else if (clowns > 0) {
                int clown = x % clowns;
                if (deed == 0) {
                    if (houses > 0 && canGo(clown, x / 6 % houses)) {
                        goes(clown, x / 6 % houses);
                    }
                } else if (deed == 4) {
                    if (x % 8 == 0 && canRest(clown)) {
                        goes(clown, NONE);
                    }
                } else if (canFall(clown, x % FALL_KINDS)) {
                    falls(clown, x % FALL_KINDS);
                }
            }
        }

        void beginForetelling() {
            copyWhole(city.now, asItIs);
        }

        void endForetelling() {
            copyWhole(asItIs, city.now);
        }
    }

    /** How falls lead from state to state (0 .. 1023), and where that ends. */
    private abstract static class Walk {
        abstract int moved(int state, int kind, int depth);

        abstract boolean arrived(int state);

        /** Whether a state leads elsewhere when it is come to behind more falls. */
        abstract boolean changes();
    }

    /** A state is a set of moods: one house's alone, or every mood at once. */
    private static final class MoodWalk extends Walk {
        private final City city;
        private boolean toGladness = false;

        MoodWalk(City city) {
            this.city = city;
        }

        int fromMood(int mood) {
            toGladness = true;
            return 1 << mood;
        }

        int fromEveryMood() {
            toGladness = false;
            return EVERY_MOOD;
        }

        int moved(int state, int kind, int depth) {
            return city.turnedSet(kind, state);
        }

        boolean arrived(int state) {
            return toGladness ? state == 1 << GLAD_MOOD : Integer.bitCount(state) == 1;
        }

        boolean changes() {
            return false;
        }
    }

    /** A state is the mood and the grief of the house: mood * 100 + grief. */
    private static final class ComfortWalk extends Walk {
        static final int GRIEFS = 100;

        int tired = 0;
        private final City city;
        private final Laws laws;
        private int clown = 0;
        private int house = 0;
        private int enough = 0;

        ComfortWalk(City city, Laws laws) {
            this.city = city;
            this.laws = laws;
        }

        int begin(int who, int grief) {
            clown = who;
            house = city.see(City.PLACE, who);
            tired = city.see(City.TIRED, who);
            enough = grief;
            return city.see(City.MOOD, house) * GRIEFS + city.see(City.GRIEF, house);
        }

        int moved(int state, int kind, int depth) {
            become(state, tired + depth);
            int left = Math.max(state % GRIEFS - laws.easing(clown, kind), 0);
            return city.turned(kind, state / GRIEFS) * GRIEFS + left;
        }

        boolean arrived(int state) {
            return state % GRIEFS <= enough;
        }

        boolean changes() {
            return true;
        }

        void leaveAsItWas(int state) {
            become(state, tired);
        }

        private void become(int state, int tiredThen) {
            city.set(City.MOOD, house, state / GRIEFS);
            city.set(City.GRIEF, house, state % GRIEFS);
            city.set(City.TIRED, clown, tiredThen);
        }
    }

    /**
     * The fewest falls by which a walk arrives, of like ones the lowest. Layer by layer: the states that so many
     * falls come to, each by its lowest falls and in the order of these, so the first that arrives is the answer.
     */
    private static final class Search {
        static final int STATES = 1024;
        static final int SEEN_BITS = 32;

        // an entry is its falls as digits to the base of five, then its state: falls * 1024 + state
        private final long[] layer = new long[STATES];
        private final long[] nextLayer = new long[STATES];
        private final int[] seen = new int[STATES / SEEN_BITS];
        private int count = 0;
        private int length = NONE;
        private long path = 0;

        void find(Walk walk, int start, int most) {
            length = walk.arrived(start) ? 0 : NONE;
            path = 0;
            layer[0] = start;
            int states = 1;
            for (int depth = 0; depth < most && length == NONE; depth++) {
                count = 0;
                if (depth == 0 || walk.changes()) {
                    Arrays.fill(seen, 0);
                }
                for (int i = 0; i < states * FALL_KINDS && i / FALL_KINDS < STATES && length == NONE; i++) {
                    long entry = layer[i / FALL_KINDS];
                    int kind = i % FALL_KINDS;
                    int state = walk.moved((int) (entry % STATES), kind, depth);
                    add(entry / STATES * FALL_KINDS + kind, state);
                    if (walk.arrived(state)) {
                        length = depth + 1;
                        path = entry / STATES * FALL_KINDS + kind;
                    }
                }
                states = count;
                System.arraycopy(nextLayer, 0, layer, 0, held(count, 0, STATES));
            }
        }

        private void add(long falls, int state) {
            int word = state / SEEN_BITS;
            int bit = 1 << state % SEEN_BITS;
            if (state >= 0 && (at(seen, word) & bit) == 0 && count >= 0 && count < STATES) {
                put(seen, word, at(seen, word) | bit);
                nextLayer[count] = falls * STATES + state;
                count++;
            }
        }

        int answer(int i) {
            if (length == NONE || i < NONE || i >= length) {
                return OTHER;
            }
            if (i == NONE) {
                return length;
            }
            long left = path;
            for (int k = length - 1; k > i; k--) {
                left /= FALL_KINDS;
            }
            return (int) (left % FALL_KINDS);
        }
    }

    /** Clowns matched to houses at the least cost; of like ones the first that is come to is the lowest. */
    private static final class Match {
        int least = NONE;
        final int[] best = new int[MOST_CLOWNS];
        private final City city;
        private final int[] goes = new int[MOST_CLOWNS];

        Match(City city) {
            this.city = city;
        }

        void find() {
            least = NONE;
            assign(0, 0, Math.max(city.clownCount() - city.houseCount(), 0), 0);
        }

        private void assign(int clown, int taken, int idle, int sum) {
            if (clown >= city.clownCount()) {
                if (least == NONE || sum < least) {
                    least = sum;
                    copyWhole(goes, best);
                }
                return;
            }
            for (int house = 0; house < city.houseCount(); house++) {
                if ((taken >> house & 1) == 0) {
                    put(goes, clown, house);
                    int cost = at(city.costs, clown * MOST_HOUSES + house);
                    assign(clown + 1, taken | 1 << house, idle, sum + cost);
                }
            }
            if (idle > 0) {
                put(goes, clown, NONE);
                assign(clown + 1, taken, idle - 1, sum);
            }
        }
    }
}
