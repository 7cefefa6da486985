/** The sentences of "Terms" and of part V that name an edge: each has a test of its own. */
public final class EdgesTermsTest {
    private static final int NONE = ClownsMourn.NONE;

    public static void main(String[] args) {
        housesToldOneByOne();
        houseAtFirst();
        clownsToldOneByOne();
        clownAtFirst();
        moodsAtFirst();
        dayAndXAtFirst();
        theImageAtFirst();
        sentWhereItIsNot();
        restsOnce();
        tiredBelowNine();
        griefZeroAtLeast();
        drawBelowLaughs();
        xIsAnew();
        laughedNinetyNineAtMost();
        clockIsTheFirst();
        fallsUpTo9999();
        griefNinetyNineAtMost();
        tiredLessByDay();
        dayOfAFullCity();
        dayTheLast();
        manyDaysAtOnce();
        latestThirtyLaughs();
        latestThirtySteps();
        eachStepTakenBack();
        stepsThatAreNone();
        thoseToldSince();
        moodsToldStay();
        decadesOfSeeds();
        decadesByDeed();
        decadesWithoutSome();
        decadesWhatCannotBe();
        decadesAreOneStep();
        imageAndBack();
        imageHasNoTape();
        Check.endOfTest();
    }

    private static void due(String call, long got, long want) {
        Check.due(call, got, want);
    }

    private static void due(String call, boolean got, boolean want) {
        Check.due(call, got, want);
    }

    private static void housesToldOneByOne() {
        Check.by("HOUSES 0 .. 5 (told one by one): KIND 0 .. 3, GRIEF 0 .. 99");
        ClownsMourn x = new ClownsMourn();
        int[][] told = {{0, 0}, {3, 99}, {0, 99}, {3, 0}, {1, 1}, {2, 98}};
        for (int i = 0; i < 6; i++) {
            due("of house " + i + ", not told yet", x.of(i, 1), -2);
            due("house " + i, x.house(told[i][0], told[i][1]), i);
            due("about(0)", x.about(0), i + 1);
            due("KIND of " + i, x.of(i, 0), told[i][0]);
            due("GRIEF of " + i, x.of(i, 1), told[i][1]);
        }
        due("the seventh", x.house(0, 0), NONE);
        due("about(0)", x.about(0), 6);
        due("of(6, 0)", x.of(6, 0), -2);
        for (int i = 0; i < 6; i++) {
            due("KIND of " + i + " still", x.of(i, 0), told[i][0]);
            due("GRIEF of " + i + " still", x.of(i, 1), told[i][1]);
        }
    }

    private static void houseAtFirst() {
        Check.by("MOOD (at first 0), CLOCK (at first none), LAUGHED (at first 0)");
        ClownsMourn x = new ClownsMourn();
        x.clown(1, 1);
        for (int i = 0; i < 6; i++) {
            x.house(1, 50);
            due("MOOD", x.of(i, 2), 0);
            due("CLOCK", x.of(i, 3), NONE);
            due("LAUGHED", x.of(i, 4), 0);
            due("CLOWNS there", x.of(i, 6), 0);
        }
    }

    private static void clownsToldOneByOne() {
        Check.by("CLOWNS 0 .. 4 (told one by one): SKILL 1 .. 9, AGE 0 .. 99");
        ClownsMourn x = new ClownsMourn();
        int[][] told = {{1, 0}, {9, 99}, {1, 99}, {9, 0}, {2, 98}};
        for (int i = 0; i < 5; i++) {
            due("ofClown " + i + ", not told yet", x.ofClown(i, 0), -2);
            due("clown " + i, x.clown(told[i][0], told[i][1]), i);
            due("about(1)", x.about(1), i + 1);
        }
        due("the sixth", x.clown(1, 0), NONE);
        due("about(1)", x.about(1), 5);
        due("ofClown(5, 0)", x.ofClown(5, 0), -2);
        for (int i = 0; i < 5; i++) {
            due("SKILL of " + i, x.ofClown(i, 0), told[i][0]);
            due("AGE of " + i, x.ofClown(i, 1), told[i][1]);
        }
    }

    private static void clownAtFirst() {
        Check.by("TIRED 0 .. 9 (at first 0), at a HOUSE or in the yard (at first), FALLS (at first 0)");
        ClownsMourn x = new ClownsMourn();
        x.house(0, 0);
        for (int i = 0; i < 5; i++) {
            x.clown(9, 99);
            due("TIRED", x.ofClown(i, 2), 0);
            due("in the yard", x.ofClown(i, 3), NONE);
            due("FALLS", x.ofClown(i, 4), 0);
        }
    }

    private static void moodsAtFirst() {
        Check.by("by each MOOD m becomes another one (at first (m + that kind + 1) mod 10)");
        ClownsMourn x = new ClownsMourn();
        due("told(0, 0)", x.told(0, 0), 1);
        due("told(0, 8)", x.told(0, 8), 9);
        due("told(0, 9), around", x.told(0, 9), 0);
        due("told(4, 4)", x.told(4, 4), 9);
        due("told(4, 5), around", x.told(4, 5), 0);
        due("told(4, 9), around", x.told(4, 9), 4);
        due("told(4, 0)", x.told(4, 0), 5);
        due("mood(0, 0, 0)", x.mood(0, 0, 0), true);
        due("mood(4, 9, 9)", x.mood(4, 9, 9), true);
        due("mood(0, 9, 9)", x.mood(0, 9, 9), true);
        due("mood(4, 0, 0)", x.mood(4, 0, 0), true);
        due("told(0, 0)", x.told(0, 0), 0);
        due("told(4, 9)", x.told(4, 9), 9);
        due("told(0, 9)", x.told(0, 9), 9);
        due("told(4, 0)", x.told(4, 0), 0);
        due("its neighbour told(1, 0)", x.told(1, 0), 2);
        due("its neighbour told(3, 9)", x.told(3, 9), 3);
    }

    private static void dayAndXAtFirst() {
        Check.by("DAY (at first 0). X: at first 179. BOOK");
        ClownsMourn x = new ClownsMourn();
        due("DAY", x.is(0), 0);
        due("X", x.is(1), 179);
        due("BOOK", x.book(NONE, 0), 0);
        due("STEPS", x.about(4), 0);
        due("THE TEXT (at first none)", x.about(3), NONE);
    }

    private static void theImageAtFirst() {
        Check.by("1: Nobody; THE IMAGE is this");
        Check.same("a new one behind back()", Photo.of(() -> {
            ClownsMourn x = new ClownsMourn();
            x.back();
            return x;
        }), Photo.of(ClownsMourn::new));
        Check.same("one of which all was told, behind back()", Photo.of(() -> {
            ClownsMourn x = Check.city();
            x.mood(0, 0, 9);
            x.send(0, 0);
            x.fall(0, 0);
            x.fall(0, 0);
            x.day(40);
            x.bore(3, true);
            x.worth(2, 9);
            x.behind(1, 2);
            x.grown(0, 3);
            for (int i = 0; i < 30; i++) {
                x.cost(i % 5, i / 5, i);
            }
            x.back();
            return x;
        }), Photo.of(ClownsMourn::new));
        ClownsMourn y = Check.city();
        y.cost(0, 0, 77);
        y.back();
        y.house(0, 0);
        y.clown(1, 0);
        due("COSTS are at first 10 again", y.matched(NONE), 10);
    }

    private static void sentWhereItIsNot() {
        Check.by("SENT: a CLOWN to a HOUSE at which it isn't");
        ClownsMourn x = new ClownsMourn();
        for (int i = 0; i < 6; i++) {
            x.house(0, 0);
        }
        for (int i = 0; i < 5; i++) {
            x.clown(1, 0);
        }
        due("from the yard to the first", x.send(0, 0), true);
        due("to where it is", x.send(0, 0), false);
        due("to the last", x.send(0, 5), true);
        due("to where it is", x.send(0, 5), false);
        due("back to the first", x.send(0, 0), true);
        due("the last clown to the last house", x.send(4, 5), true);
        due("it is there", x.ofClown(4, 3), 5);
        due("CLOWNS at the last", x.of(5, 6), 16);
        for (int i = 1; i < 4; i++) {
            x.send(i, 5);
        }
        x.send(0, 5);
        due("all five at one", x.of(5, 6), 31);
        due("about(4)", x.about(4), 8);
    }

    private static void restsOnce() {
        Check.by("12: RESTS: true. False, if it is in the yard");
        ClownsMourn x = Check.city();
        due("in the yard at first", x.rest(1), false);
        x.send(1, 0);
        due("at house 0", x.rest(1), true);
        due("in the yard then", x.rest(1), false);
        due("about(4)", x.about(4), 2);
        due("it can be sent to the same again", x.send(1, 0), true);
    }

    private static void tiredBelowNine() {
        Check.by("A FALL of a CLOWN at a HOUSE, TIRED below 9");
        ClownsMourn x = Check.city();
        due("in the yard, TIRED 0", x.fall(0, 0), NONE);
        x.send(0, 0);
        for (int tired = 0; tired < 9; tired++) {
            due("TIRED", x.ofClown(0, 2), tired);
            due("a fall at TIRED " + tired, x.fall(0, 0), (tired + 1) % 10);
        }
        due("TIRED", x.ofClown(0, 2), 9);
        due("a fall at TIRED 9", x.fall(0, 0), NONE);
        due("FALLS", x.ofClown(0, 4), 9);
        due("MOOD", x.of(0, 2), 9);
        due("another one may", x.send(1, 0), true);
        due("its fall", x.fall(1, 0), 0);
        x.day(1);
        due("TIRED", x.ofClown(0, 2), 8);
        due("a fall at TIRED 8", x.fall(0, 0), 1);
        due("at TIRED 9 again", x.fall(0, 0), NONE);
        x.rest(0);
        due("TIRED 9 it can rest and be sent", x.send(0, 1), true);
        due("but not fall", x.fall(0, 0), NONE);
    }

    private static void griefZeroAtLeast() {
        Check.by("GRIEF is less by eases (0 at least)");
        // SKILL 3 and kind 2 together are 5
        int[][] griefs = {{0, 0}, {1, 0}, {4, 0}, {5, 0}, {6, 1}, {99, 94}};
        for (int[] grief : griefs) {
            ClownsMourn x = new ClownsMourn();
            x.house(0, grief[0]);
            x.clown(3, 0);
            x.send(0, 0);
            x.fall(0, 2);
            due("GRIEF " + grief[0] + " less 5", x.of(0, 1), grief[1]);
        }
        ClownsMourn y = Check.ruledCity("eases 99;");
        y.send(0, 0);
        y.fall(0, 0);
        due("GRIEF 40 less 99", y.of(0, 1), 0);
        ClownsMourn z = new ClownsMourn();
        z.house(0, 99);
        z.clown(1, 0);
        Check.rule(z, "eases 1000;");
        z.send(0, 0);
        z.fall(0, 0);
        due("GRIEF 99 less 99", z.of(0, 1), 0);
    }

    /** A city of one house and one clown at it whose next draw is this digit. */
    private static ClownsMourn drawing(int digit) {
        for (int seed = 0; seed <= 9999; seed++) {
            if (Check.renewed(seed * 2 + 179) % 10 == digit) {
                ClownsMourn x = new ClownsMourn();
                x.decades(seed, 1);
                x.house(0, 50);
                x.clown(1, 0);
                x.send(0, 0);
                return x;
            }
        }
        return new ClownsMourn();
    }

    private static void drawBelowLaughs() {
        Check.by("a draw by 10 (X mod 10 ..): below laughs: it LAUGHED once more");
        for (int digit = 0; digit < 10; digit++) {
            for (int laughs = 0; laughs <= 10; laughs++) {
                ClownsMourn x = drawing(digit);
                due("X mod 10", x.is(1) % 10, digit);
                Check.rule(x, "laughs " + laughs + ";");
                x.fall(0, 0);
                due("a draw of " + digit + ", laughs " + laughs, x.of(0, 4), digit < laughs ? 1 : 0);
                due("CLOCK", x.of(0, 3), digit < laughs ? 0 : NONE);
                due("BOOK", x.book(NONE, 0), digit < laughs ? 1 : 0);
            }
        }
    }

    private static void xIsAnew() {
        Check.by("X being (X * 419 + 293) mod 30529 then");
        ClownsMourn x = Check.city();
        x.send(0, 0);
        int want = 179;
        for (int i = 0; i < 9; i++) {
            x.fall(0, 0);
            want = Check.renewed(want);
            due("X behind " + (i + 1) + " falls", x.is(1), want);
        }
        // the least, the greatest and what comes behind them
        int[][] edges = {{6832, 0, 293}, {9200, 30528, 30403}, {4464, 1, 712}};
        for (int[] edge : edges) {
            ClownsMourn y = new ClownsMourn();
            y.decades(edge[0], 1);
            due("X by seed " + edge[0], y.is(1), edge[1]);
            y.house(0, 0);
            y.clown(1, 0);
            y.send(0, 0);
            y.fall(0, 0);
            due("X behind " + edge[1], y.is(1), edge[2]);
        }
        ClownsMourn z = Check.ruledCity("laughs 0;");
        z.send(0, 0);
        z.fall(0, 0);
        due("X is anew, if nobody can laugh, too", z.is(1), 14236);
        z.day(9);
        z.rest(0);
        z.send(0, 1);
        z.undo();
        due("days, rests and sendings draw nothing", z.is(1), 14236);
    }

    private static void laughedNinetyNineAtMost() {
        Check.by("it LAUGHED once more (99 at most)");
        ClownsMourn x = Check.ruledCity("laughs 10;");
        x.send(0, 0);
        int text = Check.read(x, "fall 0 by 0;".repeat(9) + "day 9;");
        for (int i = 0; i < 10; i++) {
            x.played(text);
        }
        due("LAUGHED", x.of(0, 4), 90);
        for (int i = 0; i < 8; i++) {
            x.fall(0, 0);
        }
        due("LAUGHED", x.of(0, 4), 98);
        x.fall(0, 0);
        due("LAUGHED", x.of(0, 4), 99);
        x.day(1);
        x.fall(0, 0);
        due("LAUGHED", x.of(0, 4), 99);
        due("written down all the same", x.book(29, 0), 91);
        due("FALLS", x.ofClown(0, 4), 100);
        x.undo();
        due("taken back it is 99 yet", x.of(0, 4), 99);
        x.undo();
        x.undo();
        due("and 98 ahead of that", x.of(0, 4), 98);
    }

    private static void clockIsTheFirst() {
        Check.by("CLOCK is this CLOWN, if there is none yet");
        ClownsMourn x = Check.ruledCity("laughs if who=1 then 10 else 0 end;");
        x.send(0, 0);
        x.send(1, 0);
        x.fall(0, 0);
        due("it didn't laugh: none", x.of(0, 3), NONE);
        x.fall(1, 0);
        due("it laughed at 1", x.of(0, 3), 1);
        Check.rule(x, "laughs 10;");
        x.fall(0, 0);
        due("later at 0", x.of(0, 3), 1);
        due("LAUGHED", x.of(0, 4), 2);
        due("another house has its own", x.of(1, 3), NONE);
        x.undo();
        x.undo();
        due("taken back: none", x.of(0, 3), NONE);
        x.fall(0, 0);
        due("then 0 (which isn't none)", x.of(0, 3), 0);
        x.fall(1, 0);
        due("and stays", x.of(0, 3), 0);
    }

    private static void fallsUpTo9999() {
        Check.by("FALLS 0 .. 9999");
        ClownsMourn x = new ClownsMourn();
        x.house(0, 0);
        x.clown(1, 0);
        x.send(0, 0);
        Check.read(x, "fall0by0;".repeat(9) + "day9;" + "fall0by0;".repeat(9) + "day9;" + "fall0by0;".repeat(3) + "day3;");
        for (int i = 0; i < 476; i++) {
            x.played(0);
        }
        // few are asked, so that no more than 512 calls are made
        due("FALLS", x.ofClown(0, 4), 9996);
        x.fall(0, 0);
        x.fall(0, 0);
        due("FALLS", x.ofClown(0, 4), 9998);
        x.fall(0, 0);
        due("FALLS", x.ofClown(0, 4), 9999);
        due("a fall can be all the same", x.fall(0, 0) != NONE, true);
        due("FALLS", x.ofClown(0, 4), 9999);
        due("TIRED", x.ofClown(0, 2), 4);
        x.undo();
        due("FALLS, that one taken back", x.ofClown(0, 4), 9999);
        x.undo();
        due("FALLS, another one taken back", x.ofClown(0, 4), 9998);
    }

    private static void griefNinetyNineAtMost() {
        Check.by("by HOUSES: GRIEF is more by grows (99 at most)");
        int[][] byOne = {{0, 1}, {97, 98}, {98, 99}, {99, 99}};
        for (int[] grief : byOne) {
            ClownsMourn x = new ClownsMourn();
            x.house(0, grief[0]);
            x.day(1);
            due("GRIEF " + grief[0] + " and 1", x.of(0, 1), grief[1]);
        }
        int[][] byNine = {{0, 9}, {89, 98}, {90, 99}, {91, 99}, {99, 99}};
        for (int[] grief : byNine) {
            ClownsMourn x = new ClownsMourn();
            x.house(0, grief[0]);
            Check.rule(x, "grows 9;");
            x.day(1);
            due("GRIEF " + grief[0] + " and 9", x.of(0, 1), grief[1]);
        }
        ClownsMourn y = new ClownsMourn();
        for (int i = 0; i < 6; i++) {
            y.house(0, 94 + i);
        }
        y.day(3);
        for (int i = 0; i < 6; i++) {
            due("of all six, house " + i, y.of(i, 1), Math.min(97 + i, 99));
        }
    }

    /** One clown at the house (0) and one who goes to the yard (1), both TIRED so much, behind a day. */
    private static void tiredLessByDay() {
        Check.by("by CLOWNS: in the yard TIRED is 3 less, else 1 less (0 at least)");
        for (int tired = 0; tired <= 9; tired++) {
            ClownsMourn x = Check.city();
            x.send(0, 0);
            x.send(1, 1);
            for (int i = 0; i < tired; i++) {
                x.fall(0, 0);
                x.fall(1, 0);
            }
            x.rest(1);
            x.day(1);
            due("at a house TIRED " + tired, x.ofClown(0, 2), Math.max(tired - 1, 0));
            due("in the yard TIRED " + tired, x.ofClown(1, 2), Math.max(tired - 3, 0));
        }
        ClownsMourn y = new ClownsMourn();
        y.house(0, 0);
        for (int i = 0; i < 5; i++) {
            y.clown(1, 0);
            y.send(i, 0);
            y.fall(i, 0);
            y.fall(i, 0);
        }
        y.day(1);
        due("of all five, the last", y.ofClown(4, 2), 1);
        due("and the first", y.ofClown(0, 2), 1);
    }

    private static void dayOfAFullCity() {
        Check.by("A DAY: by HOUSES: GRIEF ..; by CLOWNS: .. TIRED ..; DAY is one more: and nothing else");
        ClownsMourn x = new ClownsMourn();
        for (int i = 0; i < 6; i++) {
            x.house(i % 4, 50 + i);
        }
        for (int i = 0; i < 5; i++) {
            x.clown(i + 1, i);
        }
        Check.rule(x, "laughs 10;eases 1;");
        for (int i = 0; i < 5; i++) {
            x.send(i, 5 - i);
            x.fall(i, i);
        }
        x.rest(0);
        x.rest(4);
        x.day(1);
        int[] grief = {51, 51, 51, 52, 53, 55};
        int[] mood = {0, 5, 4, 3, 2, 1};
        int[] clock = {NONE, 4, 3, 2, 1, 0};
        int[] there = {0, 0, 8, 4, 2, 0};
        for (int i = 0; i < 6; i++) {
            due("KIND of " + i, x.of(i, 0), i % 4);
            due("GRIEF of " + i, x.of(i, 1), grief[i]);
            due("MOOD of " + i, x.of(i, 2), mood[i]);
            due("CLOCK of " + i, x.of(i, 3), clock[i]);
            due("LAUGHED of " + i, x.of(i, 4), i == 0 ? 0 : 1);
            due("CLOWNS at " + i, x.of(i, 6), there[i]);
        }
        int[] at = {NONE, 4, 3, 2, NONE};
        for (int i = 0; i < 5; i++) {
            due("SKILL of " + i, x.ofClown(i, 0), i + 1);
            due("AGE of " + i, x.ofClown(i, 1), i);
            due("TIRED of " + i, x.ofClown(i, 2), 0);
            due("where " + i + " is", x.ofClown(i, 3), at[i]);
            due("FALLS of " + i, x.ofClown(i, 4), 1);
        }
        due("DAY", x.is(0), 1);
        due("BOOK", x.book(NONE, 0), 5);
        due("STEPS", x.about(4), 13);
        due("HOUSES", x.about(0), 6);
        due("CLOWNS", x.about(1), 5);
    }

    private static void dayTheLast() {
        Check.by("DAY is one more (at 9999 none can pass)");
        ClownsMourn x = Check.city();
        Check.passTo(x, 9998);
        due("DAY", x.is(0), 9998);
        due("day(2)", x.day(2), NONE);
        due("day(60)", x.day(60), NONE);
        due("DAY", x.is(0), 9998);
        due("day(1)", x.day(1), 9999);
        due("day(1) at 9999", x.day(1), NONE);
        due("DAY", x.is(0), 9999);
        due("all else can be done", x.send(0, 0), true);
        due("a fall", x.fall(0, 4), 5);
        x.undo();
        x.undo();
        x.undo();
        due("a day taken back", x.is(0), 9998);
        due("can pass again", x.day(1), 9999);
        ClownsMourn y = Check.city();
        Check.passTo(y, 9939);
        due("day(60) to the last", y.day(60), 9999);
        ClownsMourn z = Check.city();
        Check.passTo(z, 9940);
        due("day(60) to one behind the last", z.day(60), NONE);
        due("DAY", z.is(0), 9940);
        due("day(59)", z.day(59), 9999);
    }

    private static void manyDaysAtOnce() {
        Check.by("13: DAYS pass (1 .. 60): DAY");
        ClownsMourn x = Check.city();
        due("day(1)", x.day(1), 1);
        due("about(4)", x.about(4), 1);
        due("day(60)", x.day(60), 61);
        due("about(4)", x.about(4), 30);
        due("GRIEF", x.of(1, 1), 71);
        due("day(61)", x.day(61), NONE);
        due("day(0)", x.day(0), NONE);
        due("DAY", x.is(0), 61);
    }

    private static void latestThirtyLaughs() {
        Check.by("BOOK (the latest 30 laughs): DAY, HOUSE, CLOWN");
        ClownsMourn x = new ClownsMourn();
        for (int i = 0; i < 6; i++) {
            x.house(0, 0);
        }
        for (int i = 0; i < 5; i++) {
            x.clown(1, 0);
        }
        Check.rule(x, "laughs 10;");
        for (int i = 0; i < 29; i++) {
            x.send(i % 5, i % 6);
            x.fall(i % 5, 0);
            x.day(1);
        }
        due("29 of them", x.book(NONE, 0), 29);
        due("the 30th", x.book(29, 0), -2);
        due("the 29th", x.book(28, 0), 28);
        x.send(4, 5);
        x.fall(4, 0);
        due("30 of them", x.book(NONE, 0), 30);
        due("the eldest", x.book(0, 0), 0);
        due("the 30th: DAY", x.book(29, 0), 29);
        due("the 30th: HOUSE", x.book(29, 1), 5);
        due("the 30th: CLOWN", x.book(29, 2), 4);
        due("the 31st", x.book(30, 0), -2);
        x.day(1);
        x.send(0, 1);
        x.fall(0, 0);
        due("31 were", x.book(NONE, 0), 30);
        due("the eldest: DAY", x.book(0, 0), 1);
        due("the eldest: HOUSE", x.book(0, 1), 1);
        due("the eldest: CLOWN", x.book(0, 2), 1);
        due("the latest: DAY", x.book(29, 0), 30);
        due("the latest: HOUSE", x.book(29, 1), 1);
        due("the latest: CLOWN", x.book(29, 2), 0);
        due("the 31st", x.book(30, 0), -2);
        x.undo();
        due("taken back: 30", x.book(NONE, 0), 30);
        due("the eldest is there again", x.book(0, 0), 0);
        due("the latest is as ahead", x.book(29, 0), 29);
        theWholeBook();
    }

    private static void theWholeBook() {
        ClownsMourn x = Check.ruledCity("laughs 10;");
        x.send(0, 0);
        x.send(1, 1);
        for (int laughs = 1; laughs <= 70; laughs++) {
            x.fall(laughs % 2, 0);
            x.day(1);
            if (laughs == 30 || laughs == 31 || laughs == 70) {
                int first = Math.max(laughs - 30, 0);
                due("how many of " + laughs, x.book(NONE, 0), laughs - first);
                for (int i = 0; i < laughs - first; i++) {
                    due("DAY of the " + i + "-th of " + laughs, x.book(i, 0), first + i);
                    due("HOUSE of the " + i + "-th of " + laughs, x.book(i, 1), (first + i + 1) % 2);
                    due("CLOWN of the " + i + "-th of " + laughs, x.book(i, 2), (first + i + 1) % 2);
                }
            }
        }
    }

    private static void latestThirtySteps() {
        Check.by("the latest 30 can be taken back, the latest first");
        ClownsMourn x = Check.city();
        for (int i = 0; i < 29; i++) {
            x.day(1);
        }
        due("29", x.about(4), 29);
        x.send(0, 0);
        due("30", x.about(4), 30);
        x.rest(0);
        due("31, of which 30", x.about(4), 30);
        due("the latest", x.undo(), 29);
        due("it is at 0 again", x.ofClown(0, 3), 0);
        due("the one ahead of it", x.undo(), 28);
        due("it is in the yard", x.ofClown(0, 3), NONE);
        for (int i = 28; i > 0; i--) {
            due("a day", x.undo(), i - 1);
        }
        due("the 31st, eldest", x.undo(), NONE);
        due("DAY", x.is(0), 1);
        due("none", x.about(4), 0);
        // a long way around: 95 steps, 10 taken back, 25 done, then all that can be
        for (int i = 0; i < 94; i++) {
            x.day(1);
        }
        for (int i = 0; i < 10; i++) {
            x.undo();
        }
        due("20", x.about(4), 20);
        due("DAY", x.is(0), 85);
        x.day(25);
        due("30", x.about(4), 30);
        for (int i = 29; i >= 0; i--) {
            due("undo", x.undo(), i);
        }
        due("DAY", x.is(0), 80);
        due("none", x.undo(), NONE);
    }

    private static ClownsMourn busy() {
        ClownsMourn x = Check.ruledCity("laughs 10;eases 3;");
        Check.read(x, "send 1 to 0;fall 2 by 1;day 2;rest 1;");
        x.send(0, 0);
        x.fall(0, 3);
        x.fall(0, 1);
        x.day(3);
        return x;
    }

    private interface Deed {
        void on(ClownsMourn x);
    }

    private static void takenBack(String what, int steps, Deed deed) {
        Check.same(what, Photo.of(() -> {
            ClownsMourn x = busy();
            deed.on(x);
            for (int i = 0; i < steps; i++) {
                x.undo();
            }
            return x;
        }), Photo.of(EdgesTermsTest::busy));
    }

    private static void eachStepTakenBack() {
        Check.by("all of HOUSES and CLOWNS but KIND, SKILL, AGE, DAY, X, BOOK are as ahead of it");
        takenBack("SENT", 1, x -> x.send(1, 1));
        takenBack("SENT from a house", 1, x -> x.send(0, 1));
        takenBack("RESTS", 1, x -> x.rest(0));
        takenBack("A FALL", 1, x -> x.fall(0, 4));
        takenBack("a DAY", 1, x -> x.day(1));
        takenBack("20 DAYS, each", 20, x -> x.day(20));
        takenBack("DECADES", 1, x -> x.decades(77, 40));
        takenBack("DECADES of the last seed", 1, x -> x.decades(9999, 1));
        takenBack("PLAYED: five steps", 5, x -> x.played(1));
    }

    private static void stepsThatAreNone() {
        Check.by("STEPS: SENT, RESTS, A FALL, a DAY (each), DECADES");
        ClownsMourn x = Check.city();
        x.mood(0, 0, 1);
        x.house(0, 0);
        x.clown(1, 0);
        Check.rule(x, "mood 0 by 0 to 1;house 0 grief 0;clown 1 age 0;");
        x.played(0);
        x.cost(0, 0, 0);
        x.bore(0, true);
        x.worth(1, 1);
        x.behind(0, 1);
        x.grown(0, 0);
        x.image();
        x.back();
        x.foretold(60, 0);
        x.heavy(600);
        due("what isn't a step", x.about(4), 0);
        due("undo()", x.undo(), NONE);
        x.send(0, 0);
        due("SENT", x.about(4), 1);
        x.fall(0, 0);
        due("A FALL", x.about(4), 2);
        x.rest(0);
        due("RESTS", x.about(4), 3);
        x.day(2);
        due("a DAY (each)", x.about(4), 5);
        x.decades(0, 40);
        due("DECADES", x.about(4), 6);
    }

    private static void thoseToldSince() {
        Check.by("those told since are as told");
        ClownsMourn x = Check.city();
        x.send(0, 0);
        int house = x.house(3, 98);
        int clown = x.clown(9, 77);
        x.send(clown, house);
        x.fall(clown, 4);
        x.day(5);
        x.send(0, house);
        x.decades(3, 40);
        for (int i = 0; i < 10; i++) {
            x.undo();
        }
        due("all ten are taken back", x.about(4), 0);
        due("HOUSES", x.about(0), 3);
        due("CLOWNS", x.about(1), 3);
        due("KIND", x.of(house, 0), 3);
        due("GRIEF", x.of(house, 1), 98);
        due("MOOD", x.of(house, 2), 0);
        due("CLOCK", x.of(house, 3), NONE);
        due("LAUGHED", x.of(house, 4), 0);
        due("CLOWNS there", x.of(house, 6), 0);
        due("SKILL", x.ofClown(clown, 0), 9);
        due("AGE", x.ofClown(clown, 1), 77);
        due("TIRED", x.ofClown(clown, 2), 0);
        due("in the yard", x.ofClown(clown, 3), NONE);
        due("FALLS", x.ofClown(clown, 4), 0);
        due("the one of before is in the yard, too", x.ofClown(0, 3), NONE);
        ClownsMourn y = new ClownsMourn();
        y.day(1);
        y.house(1, 50);
        y.undo();
        due("a house told behind a day isn't aged by taking that back", y.of(0, 1), 50);
        due("it is there", y.about(0), 1);
        due("DAY", y.is(0), 0);
    }

    private static void moodsToldStay() {
        Check.by("MOODS told stay");
        ClownsMourn x = Check.city();
        x.send(0, 0);
        x.fall(0, 0);
        x.mood(0, 0, 5);
        x.fall(0, 1);
        x.mood(4, 9, 0);
        x.undo();
        x.undo();
        due("told(0, 0)", x.told(0, 0), 5);
        due("told(4, 9)", x.told(4, 9), 0);
        due("MOOD of the house is as ahead", x.of(0, 2), 0);
        due("a fall now", x.fall(0, 0), 5);
    }

    private static void decadesOfSeeds() {
        Check.by("DECADES by a SEED: X is SEED (0 .. 9999) * 2 + 179; n times (1 .. 40)");
        int[][] calls = {{0, 1}, {0, 40}, {9999, 1}, {9999, 40}, {5000, 7}};
        for (int[] call : calls) {
            ClownsMourn x = new ClownsMourn();
            int want = call[0] * 2 + 179;
            int days = 0;
            for (int i = 0; i < call[1]; i++) {
                days += want % 6 == 5 ? 1 : 0;
                want = Check.renewed(want);
            }
            due("decades(" + call[0] + ", " + call[1] + ")", x.decades(call[0], call[1]), days);
            due("X", x.is(1), want);
            due("DAY", x.is(0), days);
        }
        ClownsMourn y = new ClownsMourn();
        y.decades(3, 3);
        y.decades(0, 1);
        due("X is by the seed, whatever it was", y.is(1), 14236);
    }

    /** X is set so that the first draw is x; just odd x from 179 on can be. */
    private static ClownsMourn drawn(ClownsMourn x, int draw) {
        x.decades((draw - 179) / 2, 1);
        return x;
    }

    private static void decadesByDeed() {
        Check.by("of the CLOWN x mod how many there are: x mod 6: 0 SENT ..; 1, 2, 3 A FALL of kind x mod 5; .. 5 a DAY");
        ClownsMourn fell = Check.city();
        fell.send(0, 0);
        fell.send(1, 1);
        drawn(fell, 181);
        due("x = 181: clown 1 falls by kind 1", fell.of(1, 2), 2);
        due("clown 0 doesn't", fell.ofClown(0, 4), 0);
        drawn(fell, 183);
        due("x = 183: clown 1 falls by kind 3", fell.of(1, 2), 6);
        drawn(fell, 185);
        due("x = 185: a DAY", fell.is(0), 1);
        // even x come second: the seed's own draw is a DAY or can't be; all that is done by 2 draws is told by formula
        int[] seen = new int[6];
        for (int seed = 0; seed <= 3000; seed++) {
            if ((seed * 2 + 179) % 6 == 5) {
                for (int count = 1; count <= 3; count++) {
                    secondDeed(seed, count, seed % (count + 1) - 1);
                }
                seen[Check.renewed(seed * 2 + 179) % 6]++;
            }
        }
        for (int deed = 0; deed < 6; deed++) {
            due("x mod 6 = " + deed + " was drawn", seen[deed] > 0, true);
        }
    }

    /** So many houses and clowns, all clowns at one house or in the yard: what the second draw of this seed does. */
    private static void secondDeed(int seed, int count, int house) {
        int x = Check.renewed(seed * 2 + 179);
        ClownsMourn y = new ClownsMourn();
        for (int i = 0; i < count; i++) {
            y.house(0, 50);
            y.clown(1, 0);
        }
        for (int i = 0; i < count; i++) {
            y.send(i, house);
        }
        y.decades(seed, 2);
        int clown = x % count;
        int at = house;
        int mood = 0;
        if (x % 6 == 0) {
            at = x / 6 % count;
        } else if (x % 6 == 4 && x % 8 == 0) {
            at = NONE;
        } else if (x % 6 >= 1 && x % 6 <= 3 && house != NONE) {
            mood = x % 5 + 1;
        }
        String behind = " behind x = " + x + " of " + count;
        due("where it is" + behind, y.ofClown(clown, 3), at);
        due("MOOD" + behind, y.of(Math.max(house, 0), 2), mood);
        due("FALLS" + behind, y.ofClown(clown, 4), mood == 0 ? 0 : 1);
        due("DAY" + behind, y.is(0), x % 6 == 5 ? 2 : 1);
        for (int i = 1; i < count; i++) {
            due("another one" + behind, y.ofClown((clown + i) % count, 3), house);
        }
    }

    private static void decadesWithoutSome() {
        Check.by("What there are none of isn't");
        for (int seed = 0; seed < 60; seed++) {
            int days = 0;
            int want = seed * 2 + 179;
            for (int i = 0; i < 40; i++) {
                days += want % 6 == 5 ? 1 : 0;
                want = Check.renewed(want);
            }
            ClownsMourn houses = new ClownsMourn();
            houses.house(0, 0);
            due("without clowns: DAYS", houses.decades(seed, 40), days);
            due("X", houses.is(1), want);
            due("GRIEF", houses.of(0, 1), days);
            due("MOOD", houses.of(0, 2), 0);
            ClownsMourn clowns = new ClownsMourn();
            clowns.clown(1, 0);
            due("without houses: DAYS", clowns.decades(seed, 40), days);
            due("X", clowns.is(1), want);
            due("in the yard", clowns.ofClown(0, 3), NONE);
            due("FALLS", clowns.ofClown(0, 4), 0);
        }
    }

    private static void decadesWhatCannotBe() {
        Check.by("(each if it can be); 5 a DAY (if it can pass)");
        ClownsMourn last = Check.city();
        Check.passTo(last, 9999);
        due("x = 179, a DAY at 9999", last.decades(0, 1), 9999);
        due("X is anew all the same", last.is(1), 14236);
        due("GRIEF isn't more", last.of(0, 1), 99);
        ClownsMourn ahead = Check.city();
        Check.passTo(ahead, 9998);
        due("40 draws at 9998", ahead.decades(0, 40), 9999);
        ClownsMourn tired = Check.city();
        tired.send(1, 1);
        for (int i = 0; i < 9; i++) {
            tired.fall(1, 0);
        }
        tired.decades(1, 1);
        due("x = 181: TIRED 9 can't fall", tired.ofClown(1, 4), 9);
        due("and nothing is drawn for it", tired.is(1), Check.renewed(181));
        ClownsMourn yard = Check.city();
        yard.decades(1, 1);
        due("x = 181: in the yard it can't fall", yard.ofClown(1, 4), 0);
        due("X", yard.is(1), Check.renewed(181));
        ClownsMourn eight = Check.city();
        eight.send(1, 1);
        for (int i = 0; i < 8; i++) {
            eight.fall(1, 0);
        }
        eight.decades(1, 1);
        due("x = 181: TIRED 8 can", eight.ofClown(1, 4), 9);
        due("X is drawn twice", eight.is(1), Check.renewed(Check.renewed(181)));
    }

    private static void decadesAreOneStep() {
        Check.by("It is one STEP: DAY");
        ClownsMourn x = Check.city();
        due("decades(0, 2)", x.decades(0, 2), 1);
        due("one step", x.about(4), 1);
        x.decades(9999, 40);
        due("two", x.about(4), 2);
        ClownsMourn y = new ClownsMourn();
        y.decades(1, 1);
        due("a step, though nothing could be done", y.about(4), 1);
        y.undo();
        due("X is as ahead", y.is(1), 179);
        for (int i = 0; i < 31; i++) {
            y.decades(i, 1);
        }
        due("30 at most", y.about(4), 30);
    }

    private static void imageAndBack() {
        Check.by("47, 48: AN IMAGE: all as it is; BACK to THE IMAGE (it stays): DAY");
        ClownsMourn x = busy();
        due("image(): DAY", x.image(), 3);
        x.day(30);
        due("back(): DAY", x.back(), 3);
        x.day(1);
        due("it stays", x.back(), 3);
        due("back() at once", x.back(), 3);
        x.day(2);
        due("a later image", x.image(), 5);
        x.undo();
        due("back() to the later", x.back(), 5);
        Check.same("all is so again", Photo.of(() -> {
            ClownsMourn y = busy();
            y.image();
            y.send(1, 1);
            y.fall(1, 1);
            y.decades(5, 40);
            y.day(60);
            y.mood(1, 1, 1);
            y.house(1, 1);
            y.clown(1, 1);
            y.by(NONE);
            y.bore(1, true);
            y.worth(1, 1);
            y.behind(0, 1);
            y.grown(1, 1);
            y.cost(0, 0, 1);
            y.back();
            return y;
        }), Photo.of(() -> {
            ClownsMourn y = busy();
            y.image();
            return y;
        }));
        ClownsMourn w = Check.city();
        Check.read(w, "grows 3;");
        w.bore(5, true);
        w.grown(0, 3);
        w.image();
        w.bore(NONE, true);
        w.bore(70, false);
        w.grown(NONE, 0);
        w.grown(0, 4);
        due("another TRIAL", w.bears(1), 0);
        due("another one is GROWN", w.whose(), 0);
        w.back();
        due("TRIALS are so again", w.bears(1), 6);
        due("GROWN is so again", w.whose(), 1);
        ClownsMourn z = Check.city();
        for (int i = 0; i < 3; i++) {
            Check.read(z, "grows " + i + ";");
        }
        z.image();
        Check.read(z, "grows 3;");
        due("four texts", z.about(2), 4);
        z.back();
        due("three", z.about(2), 3);
        due("the fourth isn't any more", z.by(3), false);
        due("another one has its number", Check.read(z, "grows 7;"), 3);
        z.by(3);
        due("and rules", z.of(0, 5), 7);
        z.image();
        z.day(40);
        z.undo();
        z.back();
        due("THE TEXT is of the image", z.about(3), 3);
        due("steps are of the image", z.undo(), NONE);
    }

    private static void imageHasNoTape() {
        Check.by("AN IMAGE: all as it is, but the tape and the latest FAULT");
        ClownsMourn x = Check.city();
        Check.write(x, "rest 0;");
        x.image();
        Check.write(x, "day 1;");
        x.back();
        due("the tape stays", x.about(7), 6);
        due("it is read", x.text(), 0);
        due("played", x.played(0), NONE);
        due("as it was written", x.is(0), 1);
        due("fault(0)", x.fault(0), 0);
        x.back();
        due("the latest FAULT stays", x.fault(0), 0);
        Check.read(x, "day 0;");
        x.back();
        due("fault(0)", x.fault(0), 2);
        due("fault(1)", x.fault(1), 4);
        x.image();
        Check.read(x, "day !;");
        x.back();
        due("the latest, not the image's", x.fault(0), 1);
        due("the tape is empty", x.about(7), 0);
    }
}
