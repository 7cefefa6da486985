/** The sentences of parts III and IV that name an edge, and the promises on what is asked. */
public final class EdgesAsksTest {
    private static final int NONE = ClownsMourn.NONE;

    public static void main(String[] args) {
        foretoldDays();
        foretoldToTheLastDay();
        heavyDays();
        heavyNumbers();
        heavyToTheLastDay();
        orderOfNone();
        orderOfNine();
        orderLowest();
        forAllOfOne();
        forAllOfTwenty();
        forAllLowest();
        comfortNumbers();
        comfortWhileNotTired();
        comfortLowest();
        comfortAsAllIsThen();
        rings();
        costs();
        matchedOfNone();
        matchedAsManyAsCanBe();
        matchedLowest();
        trialsUpToEight();
        bearsBelow();
        bearsFewestErrors();
        nextUpTo();
        nextNotAllNotNone();
        worths();
        sharesOfFirst();
        sharesBelowNothing();
        staysAtEdges();
        staysOfLikeOnes();
        staysBounds();
        lessonsInOrder();
        lessonsOfNone();
        grownUpToEight();
        whoseLaw();
        clocks();
        saddest();
        tiredest();
        sitting();
        ledger();
        looks();
        tiredNineIsAsked();
        aboutAtMost();
        Check.endOfTest();
    }

    private static void due(String call, long got, long want) {
        Check.due(call, got, want);
    }

    private static void due(String call, boolean got, boolean want) {
        Check.due(call, got, want);
    }

    private static ClownsMourn houses(int count, int grief) {
        ClownsMourn x = new ClownsMourn();
        for (int i = 0; i < count; i++) {
            x.house(0, grief);
        }
        return x;
    }

    /** One house with this GRIEF, one clown with this SKILL at it. */
    private static ClownsMourn pair(int grief, int skill) {
        ClownsMourn x = houses(1, grief);
        x.clown(skill, 0);
        x.send(0, 0);
        return x;
    }

    /** Each FALL leaves each MOOD as it is. */
    private static ClownsMourn still(ClownsMourn x) {
        for (int fall = 0; fall < 5; fall++) {
            for (int mood = 0; mood < 10; mood++) {
                x.mood(fall, mood, mood);
            }
        }
        return x;
    }

    private static void foretoldDays() {
        Check.by("FORETOLD behind n DAYS (1 .. 60 ..), nothing else being done: GRIEF of a HOUSE");
        ClownsMourn x = houses(6, 30);
        due("foretold(0, 0)", x.foretold(0, 0), NONE);
        due("foretold(1, 0)", x.foretold(1, 0), 31);
        due("foretold(59, 0)", x.foretold(59, 0), 89);
        due("foretold(60, 0)", x.foretold(60, 0), 90);
        due("foretold(61, 0)", x.foretold(61, 0), NONE);
        due("foretold(60, 5)", x.foretold(60, 5), 90);
        due("foretold(60, 6)", x.foretold(60, 6), NONE);
        due("foretold(60, -1)", x.foretold(60, -1), NONE);
        due("GRIEF now", x.of(0, 1), 30);
        ClownsMourn y = houses(1, 39);
        due("99 at most: foretold(60, 0)", y.foretold(60, 0), 99);
        y.day(1);
        due("99 at most: foretold(60, 0)", y.foretold(60, 0), 99);
        due("foretold(59, 0)", y.foretold(59, 0), 99);
        due("foretold(58, 0)", y.foretold(58, 0), 98);
        y.clown(1, 0);
        y.send(0, 0);
        due("one is there", y.foretold(60, 0), 40);
        Check.rule(y, "grows if day<5 then 2 else there end;");
        due("by the DAY as then", y.foretold(4, 0), 48);
        due("by the DAY as then", y.foretold(5, 0), 49);
    }

    private static void foretoldToTheLastDay() {
        Check.by("FORETOLD .. (.. those that can pass)");
        ClownsMourn x = new ClownsMourn();
        Check.passTo(x, 9997);
        x.house(0, 10);
        due("two DAYS ahead: foretold(1, 0)", x.foretold(1, 0), 11);
        due("foretold(2, 0)", x.foretold(2, 0), 12);
        due("foretold(3, 0)", x.foretold(3, 0), 12);
        due("foretold(60, 0)", x.foretold(60, 0), 12);
        x.day(2);
        due("on the last: foretold(1, 0)", x.foretold(1, 0), 12);
        due("foretold(60, 0)", x.foretold(60, 0), 12);
        due("DAY", x.is(0), 9999);
    }

    private static void heavyDays() {
        Check.by("HEAVY: in how many DAYS (0 .. 60) GRIEF of all HOUSES together is a told number or more first; none");
        ClownsMourn x = houses(1, 0);
        due("heavy(0)", x.heavy(0), 0);
        due("heavy(1)", x.heavy(1), 1);
        due("heavy(59)", x.heavy(59), 59);
        due("heavy(60)", x.heavy(60), 60);
        due("heavy(61)", x.heavy(61), NONE);
        ClownsMourn y = houses(2, 20);
        due("as much as there is", y.heavy(40), 0);
        due("less than there is", y.heavy(39), 0);
        due("one more", y.heavy(41), 1);
        due("two more", y.heavy(42), 1);
        due("three more", y.heavy(43), 2);
        due("in 60", y.heavy(160), 60);
        due("in 60, or more", y.heavy(159), 60);
        due("none", y.heavy(161), NONE);
    }

    private static void heavyNumbers() {
        Check.by("HEAVY: .. a told number (0 .. 600)");
        ClownsMourn none = new ClownsMourn();
        due("without houses heavy(0)", none.heavy(0), 0);
        due("without houses heavy(1)", none.heavy(1), NONE);
        due("heavy(-1)", none.heavy(-1), NONE);
        ClownsMourn x = houses(6, 99);
        due("heavy(594)", x.heavy(594), 0);
        due("heavy(595)", x.heavy(595), NONE);
        due("heavy(600)", x.heavy(600), NONE);
        due("heavy(601)", x.heavy(601), NONE);
        due("heavy(-1)", x.heavy(-1), NONE);
        ClownsMourn y = houses(6, 39);
        due("heavy(588)", y.heavy(588), 59);
        due("heavy(589)", y.heavy(589), 60);
        due("heavy(594)", y.heavy(594), 60);
        due("heavy(595)", y.heavy(595), NONE);
        y.clown(1, 0);
        y.send(0, 0);
        y.fall(0, 4);
        y.rest(0);
        due("MOOD of the first isn't grief: heavy(229)", y.heavy(229), 0);
        due("heavy(230)", y.heavy(230), 1);
        ClownsMourn z = houses(6, 38);
        due("heavy(588)", z.heavy(588), 60);
        due("heavy(589)", z.heavy(589), NONE);
    }

    private static void heavyToTheLastDay() {
        Check.by("HEAVY .. at 9999 none can pass");
        ClownsMourn x = new ClownsMourn();
        Check.passTo(x, 9998);
        x.house(0, 10);
        x.house(0, 20);
        due("heavy(30)", x.heavy(30), 0);
        due("heavy(32)", x.heavy(32), 1);
        due("heavy(33)", x.heavy(33), NONE);
        x.day(1);
        due("heavy(32)", x.heavy(32), 0);
        due("heavy(33)", x.heavy(33), NONE);
    }

    private static void orderOfNone() {
        Check.by("ORDER: .. how many (0: it is 9), the i-th; none");
        ClownsMourn x = still(pair(50, 1));
        due("none", x.order(0, NONE), -2);
        due("none", x.order(0, 0), -2);
        x.mood(4, 0, 9);
        due("one", x.order(0, NONE), 1);
        due("the first", x.order(0, 0), 4);
        due("the second", x.order(0, 1), -2);
        due("order(0, -2)", x.order(0, -2), -2);
        x.fall(0, 4);
        due("it is 9", x.order(0, NONE), 0);
        due("the first of none", x.order(0, 0), -2);
        ClownsMourn y = houses(6, 0);
        due("of the last house", y.order(5, NONE), 2);
        due("of none such", y.order(6, NONE), -2);
    }

    private static void orderOfNine() {
        Check.by("ORDER: the fewest FALLS by which the MOOD of a HOUSE comes to 9");
        ClownsMourn x = still(houses(1, 0));
        for (int mood = 0; mood < 9; mood++) {
            x.mood(mood % 5, mood, mood + 1);
        }
        due("nine of them", x.order(0, NONE), 9);
        for (int i = 0; i < 9; i++) {
            due("the " + i + "-th", x.order(0, i), i % 5);
        }
        due("the 9th", x.order(0, 9), -2);
        x.mood(4, 0, 8);
        due("a short way", x.order(0, NONE), 2);
        due("the first", x.order(0, 0), 4);
        due("the second", x.order(0, 1), 3);
        x.mood(3, 8, 0);
        due("none", x.order(0, NONE), -2);
        // away from 9 and to it again: it would be there without
        x.mood(3, 0, 9);
        due("one", x.order(0, NONE), 1);
    }

    private static void orderLowest() {
        Check.by("ORDER: of like ones the lowest kind first, then the second, ..");
        ClownsMourn x = still(houses(1, 0));
        x.mood(0, 0, 1);
        x.mood(1, 0, 2);
        x.mood(4, 1, 9);
        x.mood(0, 2, 9);
        due("two", x.order(0, NONE), 2);
        due("0 ahead of 1", x.order(0, 0), 0);
        due("then 4", x.order(0, 1), 4);
        x.mood(3, 1, 9);
        due("then 3", x.order(0, 1), 3);
        x.mood(4, 0, 9);
        due("the fewest are ahead of the lowest", x.order(0, NONE), 1);
        due("by 4", x.order(0, 0), 4);
        x.mood(2, 0, 9);
        due("by 2", x.order(0, 0), 2);
    }

    private static void forAllOfOne() {
        Check.by("FOR ALL: the fewest FALLS by which every MOOD 0 .. 9 comes to one and the same; none");
        ClownsMourn x = still(new ClownsMourn());
        due("none", x.all(NONE), -2);
        due("none", x.all(0), -2);
        for (int mood = 0; mood < 10; mood++) {
            x.mood(4, mood, 0);
        }
        due("one", x.all(NONE), 1);
        due("by 4", x.all(0), 4);
        due("the second", x.all(1), -2);
        due("all(-2)", x.all(-2), -2);
        x.mood(4, 9, 9);
        due("but for one mood", x.all(NONE), -2);
        x.mood(4, 9, 8);
        due("behind two", x.all(NONE), 2);
        x.mood(4, 0, 1);
        due("0 and 1 change about", x.all(NONE), -2);
    }

    /** A ring of five that needs 16 falls (1 and 2), and a way of so many moods to it by fall 0. */
    private static ClownsMourn slowly(int way) {
        ClownsMourn x = still(new ClownsMourn());
        x.mood(1, 4, 0);
        for (int mood = 0; mood < 5; mood++) {
            x.mood(2, mood, (mood + 1) % 5);
        }
        for (int mood = 5; mood < 10; mood++) {
            boolean far = mood - 5 < way;
            x.mood(0, mood, !far || mood == 5 ? 0 : mood - 1);
        }
        return x;
    }

    private static void forAllOfTwenty() {
        Check.by("FOR ALL: .. (20 at most are looked at)");
        due("19 falls", slowly(3).all(NONE), 19);
        ClownsMourn x = slowly(4);
        due("20 falls", x.all(NONE), 20);
        int[] falls = {0, 0, 0, 0, 1, 2, 2, 2, 2, 1, 2, 2, 2, 2, 1, 2, 2, 2, 2, 1};
        for (int i = 0; i < 20; i++) {
            due("the " + i + "-th", x.all(i), falls[i]);
        }
        due("the 20th", x.all(20), -2);
        due("21 falls", slowly(5).all(NONE), -2);
        due("21 falls: the first", slowly(5).all(0), -2);
    }

    private static void forAllLowest() {
        Check.by("FOR ALL: .. likewise (of like ones the lowest kind first, then the second, ..)");
        ClownsMourn x = still(new ClownsMourn());
        for (int mood = 0; mood < 10; mood++) {
            x.mood(2, mood, mood / 4);
            x.mood(3, mood, Math.max(mood - 2, 0));
            x.mood(4, mood, 0);
        }
        due("one is the fewest", x.all(NONE), 1);
        due("by 4", x.all(0), 4);
        x.mood(4, 9, 9);
        due("by 2, 2 (moods 0 .. 2, then 0)", x.all(NONE), 2);
        due("the first", x.all(0), 2);
        due("the second", x.all(1), 2);
    }

    private static void comfortNumbers() {
        Check.by("COMFORT: .. by which GRIEF there is g (0 .. 99) or less .. how many (0: it is), the i-th; none");
        ClownsMourn x = pair(50, 1);
        due("g -1", x.comfort(0, -1, NONE), -2);
        due("g 100", x.comfort(0, 100, NONE), -2);
        due("g 99", x.comfort(0, 99, NONE), 0);
        due("g 51", x.comfort(0, 51, NONE), 0);
        due("g 50", x.comfort(0, 50, NONE), 0);
        due("g 50, the first of none", x.comfort(0, 50, 0), -2);
        due("g 49", x.comfort(0, 49, NONE), 1);
        due("g 49, the first", x.comfort(0, 49, 0), 0);
        due("g 45", x.comfort(0, 45, NONE), 1);
        due("g 45, the first", x.comfort(0, 45, 0), 4);
        due("g 45, the second", x.comfort(0, 45, 1), -2);
        due("g 45, i -2", x.comfort(0, 45, -2), -2);
        due("g 44", x.comfort(0, 44, NONE), 2);
        ClownsMourn y = pair(3, 5);
        due("g 0: less than nothing isn't", y.comfort(0, 0, NONE), 1);
        due("by the lowest kind", y.comfort(0, 0, 0), 0);
        ClownsMourn z = pair(0, 1);
        due("GRIEF 0, g 0", z.comfort(0, 0, NONE), 0);
        z.rest(0);
        due("in the yard", z.comfort(0, 99, NONE), -2);
    }

    private static void comfortWhileNotTired() {
        Check.by("COMFORT: .. (each as it can be: TIRED below 9 ahead of it, one more behind it)");
        ClownsMourn x = pair(45, 1);
        due("nine falls of 5 each", x.comfort(0, 0, NONE), 9);
        due("the first", x.comfort(0, 0, 0), 4);
        due("the ninth", x.comfort(0, 0, 8), 4);
        due("the tenth", x.comfort(0, 0, 9), -2);
        ClownsMourn y = pair(46, 1);
        due("a tenth can't be", y.comfort(0, 0, NONE), -2);
        due("nor its first", y.comfort(0, 0, 0), -2);
        due("g 1", y.comfort(0, 1, NONE), 9);
        for (int tired = 1; tired <= 9; tired++) {
            y.fall(0, 0);
            int grief = y.of(0, 1);
            int left = 9 - tired;
            due("TIRED " + tired, y.ofClown(0, 2), tired);
            due("GRIEF less " + left + " times 5", y.comfort(0, grief - 5 * left, NONE), left);
            due("and one less", y.comfort(0, grief - 5 * left - 1, NONE), -2);
        }
        Check.rule(y, "eases 99;");
        due("TIRED 9, however much it would ease", y.comfort(0, y.of(0, 1) - 1, NONE), -2);
        due("TIRED 9, but it is so", y.comfort(0, y.of(0, 1), NONE), 0);
        ClownsMourn z = pair(36, 1);
        Check.rule(z, "eases tired;");
        due("0 and 1 and .. 8", z.comfort(0, 0, NONE), 9);
        due("1 less", z.comfort(0, 35, NONE), 2);
        ClownsMourn v = still(pair(50, 1));
        Check.rule(v, "eases if tired=8 then 5 else 0 end;");
        due("by the ninth alone, though nothing changes by the eight", v.comfort(0, 45, NONE), 9);
        due("the ninth", v.comfort(0, 45, 8), 0);
        due("more than that", v.comfort(0, 44, NONE), -2);
        ClownsMourn w = pair(37, 1);
        Check.rule(w, "eases tired;");
        due("one more than 36", w.comfort(0, 0, NONE), -2);
    }

    private static void comfortLowest() {
        Check.by("COMFORT: .. of like ones the lowest kind first, then the second, ..");
        int[][] want = {{6, 0, 4}, {7, 1, 4}, {8, 2, 4}, {9, 3, 4}, {10, 4, 4}};
        for (int[] falls : want) {
            ClownsMourn x = pair(falls[0], 1);
            due("GRIEF " + falls[0], x.comfort(0, 0, NONE), 2);
            due("the first", x.comfort(0, 0, 0), falls[1]);
            due("the second", x.comfort(0, 0, 1), falls[2]);
        }
        ClownsMourn y = pair(20, 1);
        Check.rule(y, "eases if fall=4 then 10 else if mood=1 then 10 else 0 end end;");
        due("two by 4, but the lower one first if it can be", y.comfort(0, 0, NONE), 2);
        due("the first", y.comfort(0, 0, 0), 4);
        due("the second", y.comfort(0, 0, 1), 4);
        due("by one", y.comfort(0, 10, 0), 4);
        Check.rule(y, "eases if mood=1 then 20 else if fall=4 then 10 else 0 end end;");
        due("two again", y.comfort(0, 0, NONE), 2);
        due("0 leads to MOOD 1", y.comfort(0, 0, 0), 0);
        due("then any", y.comfort(0, 0, 1), 0);
    }

    private static void comfortAsAllIsThen() {
        Check.by("COMFORT: .. eases as all is then, but that it doesn't laugh");
        ClownsMourn x = pair(50, 1);
        Check.rule(x, "eases if grief<=40 then 20 else 10 end;laughs 10;");
        due("by GRIEF as then: 10 and 20 and 20", x.comfort(0, 0, NONE), 3);
        Check.rule(x, "eases if laughed=0 then 10 else 50 end;laughs 10;");
        due("it doesn't laugh", x.comfort(0, 0, NONE), 5);
        x.fall(0, 0);
        due("it has laughed", x.comfort(0, 0, NONE), 1);
        ClownsMourn y = pair(50, 1);
        Check.rule(y, "eases if moods 0=9 then 50 else 0 end;");
        due("moods of the house itself as then", y.comfort(0, 0, NONE), 3);
        due("the first", y.comfort(0, 0, 0), 3);
        due("the second", y.comfort(0, 0, 1), 4);
        due("the third", y.comfort(0, 0, 2), 0);
        Check.rule(y, "eases if day=1 then 50 else 0 end;");
        due("no DAY passes", y.comfort(0, 0, NONE), -2);
        y.day(1);
        due("on that DAY", y.comfort(0, 0, NONE), 1);
    }

    private static void rings() {
        Check.by("RING of a FALL: MOODS (bits) to which one comes again, falling so again and again");
        ClownsMourn x = still(new ClownsMourn());
        for (int fall = 0; fall < 5; fall++) {
            due("all stay", x.ring(fall), 1023);
        }
        due("ring(5)", x.ring(5), NONE);
        due("ring(-1)", x.ring(-1), NONE);
        for (int mood = 0; mood < 10; mood++) {
            x.mood(0, mood, Math.min(mood + 1, 9));
            x.mood(1, mood, Math.max(mood - 1, 0));
            x.mood(2, mood, (mood + 1) % 10);
            x.mood(3, mood, mood ^ 1);
            x.mood(4, mood, 5);
        }
        due("up to 9, the longest way", x.ring(0), 512);
        due("down to 0", x.ring(1), 1);
        due("around all ten", x.ring(2), 1023);
        due("about by twos", x.ring(3), 1023);
        due("at once to 5", x.ring(4), 32);
        x.mood(0, 9, 8);
        due("8 and 9", x.ring(0), 256 | 512);
        x.mood(2, 9, 1);
        due("all but 0", x.ring(2), 1022);
    }

    private static void costs() {
        Check.by("COSTS (told for CLOWN and HOUSE, 0 .. 99; at first 10) (CLOWNS, HOUSES there or not)");
        ClownsMourn x = new ClownsMourn();
        due("cost(0, 0, 0)", x.cost(0, 0, 0), true);
        due("cost(4, 5, 99)", x.cost(4, 5, 99), true);
        due("cost(4, 0, 99)", x.cost(4, 0, 99), true);
        due("cost(0, 5, 0)", x.cost(0, 5, 0), true);
        due("nobody is there", x.matched(NONE), 0);
        x.house(0, 0);
        x.clown(1, 0);
        due("told ahead of them", x.matched(NONE), 0);
        due("cost(0, 0, 99)", x.cost(0, 0, 99), true);
        due("99", x.matched(NONE), 99);
        due("cost(0, 0, 100)", x.cost(0, 0, 100), false);
        due("cost(0, 0, -1)", x.cost(0, 0, -1), false);
        due("99 yet", x.matched(NONE), 99);
        // each of the thirty is its own: the others are dear, so that this one is seen
        for (int clown = 0; clown < 5; clown++) {
            for (int house = 0; house < 6; house++) {
                ClownsMourn y = houses(6, 0);
                for (int i = 0; i < 5; i++) {
                    y.clown(1, 0);
                    for (int k = 0; k < 6; k++) {
                        y.cost(i, k, i == clown ? 99 : 50);
                    }
                }
                y.cost(clown, house, 3);
                due("cost(" + clown + ", " + house + ", 3)", y.matched(NONE), 203);
                due("where it goes", y.matched(clown), house);
            }
        }
    }

    private static void matchedOfNone() {
        Check.by("31: the cost of all (clown NONE), where a CLOWN goes (NONE). -2 for others");
        ClownsMourn x = new ClownsMourn();
        due("nobody", x.matched(NONE), 0);
        due("no such clown", x.matched(0), -2);
        due("matched(-2)", x.matched(-2), -2);
        for (int i = 0; i < 5; i++) {
            x.clown(1, 0);
            due("without houses", x.matched(NONE), 0);
            due("it goes nowhere", x.matched(i), NONE);
            due("the next isn't told", x.matched(i + 1), -2);
        }
        ClownsMourn y = houses(6, 0);
        due("without clowns", y.matched(NONE), 0);
        due("no such clown", y.matched(0), -2);
    }

    private static void matchedAsManyAsCanBe() {
        Check.by("MATCHED: as many CLOWNS as can be go to HOUSES, one to each at most: least cost of all together");
        ClownsMourn x = new ClownsMourn();
        for (int i = 0; i < 30; i++) {
            x.cost(i % 5, i / 5, 99);
        }
        for (int i = 1; i <= 5; i++) {
            x.clown(1, 0);
        }
        for (int houses = 1; houses <= 6; houses++) {
            x.house(0, 0);
            due("five clowns, " + houses + " houses at 99 each", x.matched(NONE), 99 * Math.min(houses, 5));
            for (int clown = 0; clown < 5; clown++) {
                due("clown " + clown, x.matched(clown), clown < houses ? clown : NONE);
            }
        }
        for (int clown = 0; clown < 5; clown++) {
            x.cost(clown, 5 - clown, clown);
        }
        due("0 and 1 and .. 4", x.matched(NONE), 10);
        for (int clown = 0; clown < 5; clown++) {
            due("clown " + clown, x.matched(clown), 5 - clown);
        }
        ClownsMourn y = houses(1, 0);
        for (int i = 0; i < 5; i++) {
            y.clown(1, 0);
            y.cost(i, 0, 50 - i);
        }
        due("one house: the cheapest", y.matched(NONE), 46);
        due("clown 4", y.matched(4), 0);
        due("clown 0", y.matched(0), NONE);
        // the least for one alone isn't the least for both
        ClownsMourn z = houses(2, 0);
        z.clown(1, 0);
        z.clown(1, 0);
        z.cost(0, 0, 1);
        z.cost(0, 1, 2);
        z.cost(1, 0, 3);
        z.cost(1, 1, 50);
        due("2 and 3", z.matched(NONE), 5);
        due("clown 0", z.matched(0), 1);
        due("clown 1", z.matched(1), 0);
    }

    private static void matchedLowest() {
        Check.by("MATCHED: .. of like ones CLOWN by CLOWN the lowest HOUSE (none behind all)");
        ClownsMourn x = houses(6, 0);
        for (int i = 0; i < 5; i++) {
            x.clown(1, 0);
        }
        due("at first 10", x.matched(NONE), 50);
        for (int i = 0; i < 5; i++) {
            due("clown " + i, x.matched(i), i);
        }
        x.cost(0, 5, 9);
        due("49", x.matched(NONE), 49);
        due("clown 0", x.matched(0), 5);
        due("clown 1", x.matched(1), 0);
        due("clown 4", x.matched(4), 3);
        ClownsMourn y = houses(2, 0);
        for (int i = 0; i < 4; i++) {
            y.clown(1, 0);
        }
        due("clown 0", y.matched(0), 0);
        due("clown 1", y.matched(1), 1);
        due("clown 2: none", y.matched(2), NONE);
        due("clown 3: none", y.matched(3), NONE);
        y.cost(0, 0, 11);
        due("clown 0 takes 1 rather than none", y.matched(0), 1);
        due("clown 1", y.matched(1), 0);
    }

    private static void trialsUpToEight() {
        Check.by("TRIALS (8 at most; told: GRIEF 0 .. 99, whether it laughed) (grief NONE: none any more)");
        ClownsMourn x = new ClownsMourn();
        due("bore(NONE) of none", x.bore(NONE, true), 0);
        for (int round = 0; round < 2; round++) {
            for (int i = 1; i <= 8; i++) {
                due("bore", x.bore(i % 2 == 0 ? 0 : 99, i % 2 == 0), i);
                due("about(5)", x.about(5), i);
            }
            due("the ninth", x.bore(0, true), -2);
            due("about(5)", x.about(5), 8);
            due("bears 1 .. 99", x.bears(1) * 1000 + x.bears(2), 1099);
            due("bore(NONE)", x.bore(NONE, false), 0);
            due("about(5)", x.about(5), 0);
            due("bears(0)", x.bears(0), 0);
            due("bears(2)", x.bears(2), 100);
        }
        due("bore(100)", x.bore(100, true), -2);
        due("bore(-2)", x.bore(-2, true), -2);
        due("about(5)", x.about(5), 0);
    }

    private static void bears(int grief, boolean laughed, int least, int greatest) {
        ClownsMourn x = new ClownsMourn();
        x.bore(grief, laughed);
        due("GRIEF " + grief + " " + laughed + ": errors", x.bears(0), 0);
        due("GRIEF " + grief + " " + laughed + ": least", x.bears(1), least);
        due("GRIEF " + grief + " " + laughed + ": greatest", x.bears(2), greatest);
    }

    private static void bearsBelow() {
        Check.by("a HOUSE that bears b (0 .. 100) laughs at GRIEF below b, else not");
        for (int b = 0; b <= 100; b++) {
            ClownsMourn y = new ClownsMourn();
            if (b > 0) {
                y.bore(b - 1, true);
            }
            if (b < 100) {
                y.bore(b, false);
            }
            due("just " + b + ": errors", y.bears(0), 0);
            due("just " + b + ": least", y.bears(1), b);
            due("just " + b + ": greatest", y.bears(2), b);
            due("just " + b + ": no TRIAL more", y.next(99), NONE);
        }
        bears(0, true, 1, 100);
        bears(0, false, 0, 0);
        bears(1, true, 2, 100);
        bears(1, false, 0, 1);
        bears(50, true, 51, 100);
        bears(50, false, 0, 50);
        bears(98, true, 99, 100);
        bears(98, false, 0, 98);
        bears(99, true, 100, 100);
        bears(99, false, 0, 99);
        ClownsMourn x = new ClownsMourn();
        due("no TRIALS: errors", x.bears(0), 0);
        due("no TRIALS: least", x.bears(1), 0);
        due("no TRIALS: greatest", x.bears(2), 100);
        due("bears(3)", x.bears(3), -2);
        due("bears(-1)", x.bears(-1), -2);
    }

    private static void bearsFewestErrors() {
        Check.by("b by which the fewest TRIALS are otherwise: how many are, the least, the greatest such b");
        ClownsMourn x = new ClownsMourn();
        for (int i = 0; i < 4; i++) {
            x.bore(50, true);
            x.bore(50, false);
        }
        due("four of eight", x.bears(0), 4);
        due("least", x.bears(1), 0);
        due("greatest", x.bears(2), 100);
        ClownsMourn y = new ClownsMourn();
        y.bore(60, true);
        y.bore(40, false);
        due("one of two", y.bears(0), 1);
        due("least: 0 .. 40", y.bears(1), 0);
        due("greatest: 61 .. 100", y.bears(2), 100);
        y.bore(10, true);
        due("one of three", y.bears(0), 1);
        due("least: 11", y.bears(1), 11);
        y.bore(70, false);
        due("greatest: 70", y.bears(2), 70);
        ClownsMourn z = new ClownsMourn();
        for (int i = 0; i < 7; i++) {
            z.bore(99, true);
        }
        z.bore(0, false);
        due("one of eight", z.bears(0), 1);
        due("just 100", z.bears(1), 100);
    }

    private static void nextUpTo() {
        Check.by("NEXT TRIAL up to a GRIEF (0 .. 99): as near to half of these b as can be; of like ones the lowest; none");
        ClownsMourn x = new ClownsMourn();
        due("next(-1)", x.next(-1), NONE);
        due("next(0)", x.next(0), 0);
        due("next(1)", x.next(1), 1);
        due("next(48)", x.next(48), 48);
        due("next(49)", x.next(49), 49);
        due("next(50): 51 or 50 of 101 would, as near", x.next(50), 49);
        due("next(99)", x.next(99), 49);
        due("next(100)", x.next(100), NONE);
        x.bore(99, false);
        due("of 0 .. 99 half would at 49", x.next(99), 49);
        x.bore(NONE, false);
        x.bore(2, false);
        due("of 0, 1, 2: two or one, as near", x.next(99), 0);
        x.bore(3, false);
        x.bore(0, true);
        due("of 1, 2", x.next(99), 1);
        x.bore(NONE, false);
        x.bore(3, false);
        due("of 0 .. 3 half would at 1", x.next(99), 1);
        due("up to 0", x.next(0), 0);
    }

    private static void nextNotAllNotNone() {
        Check.by("NEXT TRIAL .. would laugh, not all, not none");
        ClownsMourn x = new ClownsMourn();
        x.bore(98, true);
        due("of 99, 100 up to 98: all would", x.next(98), NONE);
        due("up to 99", x.next(99), 99);
        x.bore(99, true);
        due("just 100: all would, always", x.next(99), NONE);
        ClownsMourn y = new ClownsMourn();
        y.bore(0, false);
        due("just 0: none would, ever", y.next(99), NONE);
        ClownsMourn z = new ClownsMourn();
        z.bore(40, true);
        z.bore(41, false);
        due("just 41", z.next(99), NONE);
        z.bore(NONE, true);
        z.bore(40, true);
        z.bore(42, false);
        due("41 and 42: at 41 one would", z.next(99), 41);
        due("up to 40", z.next(40), NONE);
        // b far apart: the GRIEF between them asks alike, the lowest is taken
        ClownsMourn w = new ClownsMourn();
        w.bore(0, false);
        w.bore(99, true);
        due("0 and 100 are as good", w.bears(0), 1);
        due("at 0 already one of two would", w.next(99), 0);
    }

    private static void worths() {
        Check.by("WORTH of each set of CLOWNS 0 .. 3 (told, bits 1 .. 15: 0 .. 999; at first 0)");
        ClownsMourn x = new ClownsMourn();
        for (int n = 1; n <= 4; n++) {
            for (int clown = 0; clown < n; clown++) {
                due("at first 0", x.share(clown, n, false), 0);
                due("at first 0", x.share(clown, n, true), 1);
            }
        }
        due("worth(0, 1)", x.worth(0, 1), false);
        due("worth(16, 1)", x.worth(16, 1), false);
        due("worth(1, -1)", x.worth(1, -1), false);
        due("worth(1, 1000)", x.worth(1, 1000), false);
        due("worth(1, 999)", x.worth(1, 999), true);
        due("share(0, 1)", x.share(0, 1, false), 999);
        due("worth(1, 0)", x.worth(1, 0), true);
        due("share(0, 1)", x.share(0, 1, false), 0);
        due("worth(15, 999)", x.worth(15, 999), true);
        due("share(3, 4)", x.share(3, 4, false), 999);
        due("share(3, 4)", x.share(3, 4, true), 4);
        due("the first three alone", x.share(2, 3, false), 0);
    }

    private static void sharesOfFirst() {
        Check.by("SHARES .. of the first n (1 .. 4): what each adds to WORTH of those ahead of it, on the mean of all orders");
        ClownsMourn x = new ClownsMourn();
        for (int set = 1; set < 16; set++) {
            x.worth(set, 10 * Integer.bitCount(set));
        }
        for (int n = 1; n <= 4; n++) {
            for (int clown = 0; clown < n; clown++) {
                due("each adds 10", x.share(clown, n, false), 10);
                due("each adds 10", x.share(clown, n, true), 1);
            }
            due("share(n, n)", x.share(n, n, false), NONE);
            due("share(-1, n)", x.share(-1, n, false), NONE);
        }
        due("share(0, 0)", x.share(0, 0, false), NONE);
        due("share(0, 5)", x.share(0, 5, false), NONE);
        ClownsMourn y = new ClownsMourn();
        y.worth(1, 1);
        due("first of four: 6 of 24", y.share(0, 4, false), 1);
        due("first of four: 6 of 24", y.share(0, 4, true), 4);
        due("behind 0 alone: 2 of 24 less", y.share(1, 4, false), -1);
        due("behind 0 alone: 2 of 24 less", y.share(1, 4, true), 12);
        due("of three: 2 of 6", y.share(0, 3, true), 3);
        due("of two: 1 of 2", y.share(0, 2, true), 2);
        due("of one", y.share(0, 1, true), 1);
    }

    private static void sharesBelowNothing() {
        Check.by("SHARES .. in lowest terms (below 0, too: the upper one)");
        ClownsMourn x = new ClownsMourn();
        x.worth(7, 999);
        due("the fourth spoils it: 6 of 24", x.share(3, 4, false), -999);
        due("the lower one is above 0", x.share(3, 4, true), 4);
        for (int set = 1; set < 15; set++) {
            x.worth(set, (set & 8) == 0 ? 999 : 0);
        }
        due("the fourth spoils all: 18 of 24", x.share(3, 4, false), -2997);
        due("the lower one", x.share(3, 4, true), 4);
        x.worth(7, 0);
        due("12 of 24", x.share(3, 4, false), -999);
        due("12 of 24", x.share(3, 4, true), 2);
        ClownsMourn y = new ClownsMourn();
        for (int set = 1; set < 16; set++) {
            y.worth(set, (set & 8) == 0 ? 0 : 999);
        }
        due("the fourth is all", y.share(3, 4, false), 999);
        due("the fourth is all", y.share(3, 4, true), 1);
        due("the others are nothing", y.share(0, 4, false), 0);
        due("the others are nothing", y.share(0, 4, true), 1);
    }

    private static void stay(int p, int pay, int c, int hours, int upper, int lower) {
        ClownsMourn x = new ClownsMourn();
        String call = "stays(" + p + ", " + pay + ", " + c + ", ";
        due(call + "0)", x.stays(p, pay, c, 0), hours);
        due(call + "1)", x.stays(p, pay, c, 1), upper);
        due(call + "2)", x.stays(p, pay, c, 2), lower);
    }

    private static void staysAtEdges() {
        Check.by("STAY OR GO: p of 10 (0 .. 10), pay (0 .. 999), c (0 .. 99): hours (0 .. 6): how many, that mean in lowest terms");
        stay(0, 0, 0, 0, 0, 1);
        stay(0, 999, 0, 0, 0, 1);
        stay(0, 999, 99, 0, 0, 1);
        stay(0, 0, 99, 0, 0, 1);
        stay(10, 0, 0, 0, 0, 1);
        stay(10, 0, 99, 0, 0, 1);
        stay(10, 999, 0, 1, 999, 1);
        stay(10, 999, 99, 1, 900, 1);
        stay(10, 99, 99, 0, 0, 1);
        stay(10, 100, 99, 1, 1, 1);
        stay(1, 999, 0, 6, 468090441, 1000000);
        stay(9, 999, 0, 6, 998999001, 1000000);
        stay(9, 999, 1, 6, 997764441, 1000000);
        stay(1, 999, 99, 1, 9, 10);
        stay(5, 999, 0, 6, 62937, 64);
    }

    private static void staysOfLikeOnes() {
        Check.by("STAY OR GO: .. by which it has most on the mean; of like ones the fewest");
        stay(1, 10, 1, 0, 0, 1);
        stay(1, 11, 1, 1, 1, 10);
        stay(1, 990, 99, 0, 0, 1);
        stay(1, 991, 99, 1, 1, 10);
        // hour i is worth it as long as p * pay of 10 is above i * c
        stay(5, 4, 1, 1, 1, 1);
        stay(5, 5, 1, 2, 7, 4);
        stay(1, 50, 1, 4, 9049, 1000);
        stay(1, 60, 1, 5, 131441, 10000);
        stay(1, 61, 1, 6, 13612659, 1000000);
    }

    private static void staysBounds() {
        Check.by("37: -100000 for others");
        ClownsMourn x = new ClownsMourn();
        int[] low = {0, 0, 0, 0};
        int[] high = {10, 999, 99, 2};
        for (int i = 0; i < 4; i++) {
            for (int side = 0; side < 2; side++) {
                int[] in = {5, 5, 5, 0};
                in[i] = side == 0 ? low[i] : high[i];
                due("the last that is allowed", x.stays(in[0], in[1], in[2], in[3]) != -100000, true);
                in[i] += side == 0 ? -1 : 1;
                due("the first that isn't", x.stays(in[0], in[1], in[2], in[3]), -100000);
            }
        }
    }

    private static void lessonsInOrder() {
        Check.by("LESSONS: in how many orders all five can be learnt; the lowest one");
        ClownsMourn x = new ClownsMourn();
        due("120", x.lessons(NONE), 120);
        for (int i = 0; i < 5; i++) {
            due("lessons(" + i + ")", x.lessons(i), i);
        }
        due("lessons(5)", x.lessons(5), -2);
        due("lessons(-2)", x.lessons(-2), -2);
        int[] orders = {60, 20, 5, 1};
        for (int i = 0; i < 4; i++) {
            due("behind(" + i + ", " + (i + 1) + ")", x.behind(i, i + 1), true);
            due("orders", x.lessons(NONE), orders[i]);
        }
        for (int i = 0; i < 5; i++) {
            due("lessons(" + i + ")", x.lessons(i), 4 - i);
        }
        due("behind(0, 4), which follows", x.behind(0, 4), true);
        due("one order yet", x.lessons(NONE), 1);
        ClownsMourn y = new ClownsMourn();
        y.behind(0, 4);
        y.behind(1, 4);
        y.behind(2, 4);
        y.behind(3, 4);
        due("all behind 4", y.lessons(NONE), 24);
        int[] lowest = {4, 0, 1, 2, 3};
        for (int i = 0; i < 5; i++) {
            due("lessons(" + i + ")", y.lessons(i), lowest[i]);
        }
    }

    private static void lessonsOfNone() {
        Check.by("LESSONS: .. none (0 orders)");
        for (int length = 2; length <= 5; length++) {
            ClownsMourn x = new ClownsMourn();
            for (int i = 0; i < length; i++) {
                due("behind", x.behind(i, (i + 1) % length), true);
            }
            due("a ring of " + length, x.lessons(NONE), 0);
            for (int i = 0; i < 5; i++) {
                due("none", x.lessons(i), -2);
            }
        }
        ClownsMourn y = new ClownsMourn();
        for (int fall = 0; fall < 5; fall++) {
            for (int other = 0; other < 5; other++) {
                due("behind(" + fall + ", " + other + ")", y.behind(fall, other), fall != other);
                due("again", y.behind(fall, other), false);
            }
        }
        due("all behind all", y.lessons(NONE), 0);
    }

    private static void grownUpToEight() {
        Check.by("GROWN, 8 at most: a HOUSE, by how much 0 .. 9 (house NONE: none any more)");
        ClownsMourn x = houses(6, 0);
        due("grown(NONE) of none", x.grown(NONE, 0), 0);
        for (int round = 0; round < 2; round++) {
            for (int i = 1; i <= 8; i++) {
                due("grown", x.grown(i % 2 == 0 ? 0 : 5, i % 2 == 0 ? 0 : 9), i);
                due("about(6)", x.about(6), i);
            }
            due("the ninth", x.grown(0, 0), -2);
            due("about(6)", x.about(6), 8);
            due("grown(NONE)", x.grown(NONE, 0), 0);
            due("about(6)", x.about(6), 0);
        }
        due("grown(6, 0)", x.grown(6, 0), -2);
        due("grown(-2, 0)", x.grown(-2, 0), -2);
        due("grown(0, -1)", x.grown(0, -1), -2);
        due("grown(0, 10)", x.grown(0, 10), -2);
        due("about(6)", x.about(6), 0);
    }

    private static void whoseLaw() {
        Check.by("WHOSE LAW: TEXTS (bits) by whose grows all are so (as now)");
        ClownsMourn x = houses(2, 0);
        due("no texts", x.whose(), 0);
        Check.read(x, "grows 0;");
        due("nothing is GROWN", x.whose(), 1);
        Check.read(x, "grows 9;");
        Check.read(x, "grows house*9;");
        Check.read(x, "grows 9-day;");
        due("four texts", x.whose(), 15);
        x.grown(1, 9);
        due("9 of house 1", x.whose(), 14);
        x.grown(0, 0);
        due("and 0 of house 0", x.whose(), 4);
        x.grown(0, 9);
        due("and 9 of it", x.whose(), 0);
        x.grown(NONE, 0);
        x.grown(0, 9);
        due("9 of house 0", x.whose(), 10);
        x.day(1);
        due("as now", x.whose(), 2);
        x.undo();
        due("taken back", x.whose(), 10);
        for (int i = 0; i < 7; i++) {
            x.grown(1, 9);
        }
        due("all eight", x.whose(), 10);
        x.grown(NONE, 0);
        for (int i = 0; i < 7; i++) {
            x.grown(1, 9);
        }
        x.grown(1, 8);
        due("but for the eighth", x.whose(), 0);
        for (int house = 0; house < 6; house++) {
            for (int by = 0; by <= 9; by++) {
                ClownsMourn y = houses(6, 0);
                Check.read(y, "grows if house=" + house + " then " + by + " else " + (9 - by) + " end;");
                Check.read(y, "grows if house=" + house + " then " + (9 - by) + " else " + by + " end;");
                y.grown(house, by);
                due("house " + house + " by " + by, y.whose(), 1);
            }
        }
    }

    private static void clocks() {
        Check.by("CLOCKS of a CLOWN: HOUSES (bits)");
        ClownsMourn x = houses(6, 0);
        for (int i = 0; i < 5; i++) {
            x.clown(1, 0);
            due("none yet", x.clocks(i), 0);
        }
        due("clocks(5)", x.clocks(5), NONE);
        due("clocks(-1)", x.clocks(-1), NONE);
        Check.rule(x, "laughs 10;");
        for (int i = 0; i < 6; i++) {
            x.send(4, i);
            x.fall(4, 0);
        }
        due("all six", x.clocks(4), 63);
        x.send(0, 0);
        x.fall(0, 0);
        due("not the first", x.clocks(0), 0);
        due("all six yet", x.clocks(4), 63);
        for (int i = 0; i < 4; i++) {
            x.undo();
        }
        due("the sixth is taken back", x.clocks(4), 31);
        ClownsMourn y = houses(1, 0);
        due("without clowns", y.clocks(0), NONE);
    }

    private static void saddest() {
        Check.by("SADDEST: the HOUSE of most GRIEF (0, too); of like ones the lowest; none (none is told)");
        ClownsMourn x = new ClownsMourn();
        x.clown(1, 0);
        due("none is told", x.saddest(), NONE);
        x.house(0, 0);
        due("GRIEF 0", x.saddest(), 0);
        x.house(0, 0);
        due("of like ones", x.saddest(), 0);
        x.house(0, 98);
        due("98", x.saddest(), 2);
        x.house(0, 98);
        due("of like ones", x.saddest(), 2);
        x.house(0, 97);
        x.house(0, 99);
        due("the last", x.saddest(), 5);
        x.day(1);
        due("99 at most: of like ones", x.saddest(), 2);
    }

    private static void tiredest() {
        Check.by("TIREDEST: the CLOWN who is TIRED most (0, too); of like ones the lowest; none (none is told)");
        ClownsMourn x = houses(1, 0);
        due("none is told", x.tiredest(), NONE);
        for (int i = 0; i < 5; i++) {
            x.clown(1, 0);
            due("TIRED 0", x.tiredest(), 0);
        }
        x.send(4, 0);
        x.fall(4, 0);
        due("the last", x.tiredest(), 4);
        x.send(2, 0);
        x.fall(2, 0);
        due("of like ones", x.tiredest(), 2);
        x.fall(4, 0);
        due("two", x.tiredest(), 4);
        x.rest(4);
        due("in the yard, too", x.tiredest(), 4);
        x.day(1);
        due("all are 0", x.tiredest(), 0);
    }

    private static void sitting() {
        Check.by("SITTING: CLOWNS (bits) TIRED 9 that are at a HOUSE");
        ClownsMourn x = houses(2, 0);
        due("nobody", x.sitting(), 0);
        int want = 0;
        for (int i = 4; i >= 0; i--) {
            x.clown(1, 0);
        }
        for (int i = 4; i >= 0; i--) {
            x.send(i, i % 2);
            for (int k = 0; k < 8; k++) {
                x.fall(i, 0);
            }
            due("TIRED 8", x.sitting(), want);
            x.fall(i, 0);
            want |= 1 << i;
            due("TIRED 9", x.sitting(), want);
        }
        due("all five", x.sitting(), 31);
        x.rest(4);
        due("in the yard", x.sitting(), 15);
        x.send(4, 0);
        due("at a house again", x.sitting(), 31);
        x.day(1);
        due("TIRED 8", x.sitting(), 0);
    }

    private static void ledger() {
        Check.by("BY THE BOOK: laughs at a CLOWN (NONE: all)");
        ClownsMourn x = houses(1, 0);
        due("nothing, without clowns", x.ledger(NONE), 0);
        due("ledger(0)", x.ledger(0), -2);
        for (int i = 0; i < 5; i++) {
            x.clown(1, 0);
            x.send(i, 0);
            due("nothing yet", x.ledger(i), 0);
        }
        due("ledger(5)", x.ledger(5), -2);
        due("ledger(-2)", x.ledger(-2), -2);
        Check.rule(x, "laughs 10;");
        for (int i = 0; i < 30; i++) {
            x.fall(i < 6 ? 0 : i < 14 ? 4 : i < 22 ? 1 : 2, 0);
        }
        due("all 30", x.ledger(NONE), 30);
        due("clown 0", x.ledger(0), 6);
        due("clown 4", x.ledger(4), 8);
        due("clown 3", x.ledger(3), 0);
        x.fall(3, 0);
        due("30 at most", x.ledger(NONE), 30);
        due("the eldest is out of it", x.ledger(0), 5);
        due("the latest is in it", x.ledger(3), 1);
        x.undo();
        due("taken back", x.ledger(0), 6);
        due("taken back", x.ledger(3), 0);
    }

    private static void looks() {
        Check.by("17, 18, 21: what is asked by the least and the greatest number, -2 for others");
        ClownsMourn x = Check.city();
        x.send(1, 1);
        due("of(1, 0): KIND", x.of(1, 0), 2);
        due("of(1, 6): CLOWNS there (bits)", x.of(1, 6), 2);
        due("of(1, 7)", x.of(1, 7), -2);
        due("of(1, -1)", x.of(1, -1), -2);
        due("of(2, 0)", x.of(2, 0), -2);
        due("of(-1, 0)", x.of(-1, 0), -2);
        due("ofClown(1, 0): SKILL", x.ofClown(1, 0), 5);
        due("ofClown(1, 4): FALLS", x.ofClown(1, 4), 0);
        due("ofClown(1, 5)", x.ofClown(1, 5), -2);
        due("ofClown(1, -1)", x.ofClown(1, -1), -2);
        due("ofClown(2, 0)", x.ofClown(2, 0), -2);
        due("ofClown(-1, 0)", x.ofClown(-1, 0), -2);
        due("is(0)", x.is(0), 0);
        due("is(1)", x.is(1), 179);
        due("is(2)", x.is(2), -2);
        due("is(-1)", x.is(-1), -2);
        Check.by("19, 20: of each FALL 0 .. 4. NONE for others (in the yard)");
        due("eased(1, 0)", x.eased(1, 0), 5);
        due("eased(1, 4)", x.eased(1, 4), 9);
        due("eased(1, 5)", x.eased(1, 5), NONE);
        due("eased(1, -1)", x.eased(1, -1), NONE);
        due("eased(0, 0) in the yard", x.eased(0, 0), NONE);
        due("laughs(1, 0)", x.laughs(1, 0), 1);
        due("laughs(1, 4)", x.laughs(1, 4), 5);
        due("laughs(1, 5)", x.laughs(1, 5), NONE);
        due("laughs(1, -1)", x.laughs(1, -1), NONE);
        due("laughs(0, 0) in the yard", x.laughs(0, 0), NONE);
        Check.rule(x, "eases 30;laughs if grief=0 then 7 else 3 end;");
        due("laughs as it would be asked in that FALL: GRIEF 0 at least", x.laughs(1, 0), 7);
    }

    private static void tiredNineIsAsked() {
        Check.by("19, 20: NONE for others (in the yard): just the yard is named, TIRED 9 isn't");
        ClownsMourn x = pair(99, 1);
        for (int i = 0; i < 9; i++) {
            x.fall(0, 0);
        }
        due("a fall can't be", x.fall(0, 0), NONE);
        due("eased", x.eased(0, 3), 4);
        due("laughs", x.laughs(0, 4), 4);
    }

    private static void aboutAtMost() {
        Check.by("49: 0 HOUSES, 1 CLOWNS, 2 TEXTS, 3 THE TEXT, 4 STEPS, 5 TRIALS, 6 GROWN, 7 bytes of the tape. -2 for others");
        ClownsMourn x = houses(6, 0);
        for (int i = 0; i < 5; i++) {
            x.clown(1, 0);
        }
        for (int i = 0; i < 4; i++) {
            x.text();
        }
        x.by(3);
        x.day(60);
        for (int i = 0; i < 8; i++) {
            x.bore(0, true);
            x.grown(0, 0);
        }
        for (int i = 0; i < 15; i++) {
            x.feed(0, 0, 0, 0, 0);
        }
        int[] want = {6, 5, 4, 3, 30, 8, 8, 300};
        for (int what = 0; what < 8; what++) {
            due("about(" + what + ")", x.about(what), want[what]);
        }
        x.house(0, 0);
        x.clown(1, 0);
        x.text();
        x.by(4);
        x.day(1);
        x.bore(0, true);
        x.grown(0, 0);
        x.feed(0, 0, 0, 0, 0);
        for (int what = 0; what < 8; what++) {
            due("about(" + what + ") yet", x.about(what), want[what]);
        }
        due("about(8)", x.about(8), -2);
        due("about(-1)", x.about(-1), -2);
        ClownsMourn y = new ClownsMourn();
        for (int what = 0; what < 8; what++) {
            due("about(" + what + ") of a new one", y.about(what), what == 3 ? NONE : 0);
        }
    }
}
