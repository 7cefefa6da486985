/**
 * Of each promise the calls that are refused: the first value that is not allowed on either side of each argument, and
 * values far outside; what is full, empty or there already. Each is answered as the document says, and nothing has
 * changed. What only asks changes nothing either.
 */
public final class RefusedTest {
    private static final int NONE = ClownsMourn.NONE;
    private static final int OTHER = -2;
    private static final int LEAST = Integer.MIN_VALUE;
    private static final int MOST = Integer.MAX_VALUE;

    private interface Call {
        int on(ClownsMourn x);
    }

    private interface CallOf {
        int on(ClownsMourn x, int value);
    }

    private enum Kind implements Photo.Recipe {
        NEW, ORDINARY, FULL, TIRED, LATE, LAST;

        private String photo = null;

        public ClownsMourn make() {
            switch (this) {
                case NEW:
                    return new ClownsMourn();
                case ORDINARY:
                    return ordinary();
                case FULL:
                    return full();
                case TIRED:
                    return tired();
                case LATE:
                    return late(9998);
                default:
                    return late(9999);
            }
        }

        String photo() {
            if (photo == null) {
                photo = Photo.of(this);
            }
            return photo;
        }
    }

    public static void main(String[] args) {
        tellingHousesClownsMoods();
        tapeAndTexts();
        steps();
        daysAndDecades();
        looks();
        foretelling();
        falls();
        costsAndTrials();
        shares();
        lessonsAndLaws();
        others();
        asksChangeNothing();
        Check.endOfTest();
    }

    /** Two houses, two clowns, two texts, an image, six steps, a laugh, and "rest 1;" on the tape. */
    private static ClownsMourn ordinary() {
        ClownsMourn x = Check.city();
        Check.read(x, "day 0;");
        Check.rule(x, "eases skill+1;laughs 10;grows there+2;");
        Check.read(x, "house 3 grief 9;day 2;rest 0;");
        x.mood(1, 3, 3);
        x.cost(0, 1, 3);
        x.cost(1, 1, 4);
        x.bore(30, true);
        x.bore(60, false);
        x.worth(1, 7);
        x.worth(3, 20);
        x.behind(0, 4);
        x.grown(0, 2);
        x.send(0, 0);
        x.image();
        x.fall(0, 1);
        x.day(2);
        x.send(1, 1);
        x.rest(1);
        Check.write(x, "rest 1;");
        return x;
    }

    /** Of all there is as much as can be; the image has no text, so that the tape can be read behind it. */
    private static ClownsMourn full() {
        ClownsMourn x = new ClownsMourn();
        for (int i = 0; i < 6; i++) {
            x.house(i % 4, 90 + i);
        }
        for (int i = 0; i < 5; i++) {
            x.clown(i + 1, i);
        }
        x.image();
        Check.rule(x, "laughs 10;eases fall;");
        Check.read(x, "grows 2;");
        Check.read(x, "");
        Check.read(x, "grows there*3;");
        for (int i = 0; i < 5; i++) {
            x.send(i, i);
            for (int k = 0; k < 7; k++) {
                x.fall(i, k % 5);
            }
        }
        for (int i = 0; i < 8; i++) {
            x.bore(10 * i, i < 4);
            x.grown(i % 6, 0);
        }
        Check.write(x, "rest 3;" + " ".repeat(293));
        return x;
    }

    /** Clown 0 is TIRED 9 at house 0, whose GRIEF is 13 yet. */
    private static ClownsMourn tired() {
        ClownsMourn x = Check.city();
        x.send(0, 0);
        for (int i = 0; i < 9; i++) {
            x.fall(0, 0);
        }
        return x;
    }

    private static ClownsMourn late(int day) {
        ClownsMourn x = Check.city();
        x.send(0, 0);
        Check.passTo(x, day);
        return x;
    }

    private static void refused(Kind kind, String call, int answer, Call refused) {
        Check.due(call + " of one that is " + kind, refused.on(kind.make()), answer);
        Check.same("what has changed by " + call + " of one that is " + kind, Photo.of(() -> {
            ClownsMourn x = kind.make();
            refused.on(x);
            return x;
        }), kind.photo());
    }

    /** Just below low, just above high, and far outside. */
    private static void outside(Kind kind, String call, int answer, int low, int high, CallOf refused) {
        for (int value : new int[] {low - 1, high + 1, LEAST, MOST, low - 65536, high + 65536}) {
            refused(kind, call.replace("_", Integer.toString(value)), answer, x -> refused.on(x, value));
        }
    }

    private static int flag(boolean answer) {
        return answer ? 1 : 0;
    }

    private static void tellingHousesClownsMoods() {
        Check.by("2: NONE for others, or if there are 6");
        outside(Kind.ORDINARY, "house(_, 5)", NONE, 0, 3, (x, v) -> x.house(v, 5));
        outside(Kind.ORDINARY, "house(1, _)", NONE, 0, 99, (x, v) -> x.house(1, v));
        refused(Kind.FULL, "house(0, 0)", NONE, x -> x.house(0, 0));
        Check.by("3: NONE for others, or if there are 5");
        outside(Kind.ORDINARY, "clown(_, 5)", NONE, 1, 9, (x, v) -> x.clown(v, 5));
        outside(Kind.ORDINARY, "clown(1, _)", NONE, 0, 99, (x, v) -> x.clown(1, v));
        refused(Kind.FULL, "clown(1, 0)", NONE, x -> x.clown(1, 0));
        Check.by("4: False for others");
        outside(Kind.ORDINARY, "mood(_, 3, 7)", 0, 0, 4, (x, v) -> flag(x.mood(v, 3, 7)));
        outside(Kind.ORDINARY, "mood(1, _, 7)", 0, 0, 9, (x, v) -> flag(x.mood(1, v, 7)));
        outside(Kind.ORDINARY, "mood(1, 3, _)", 0, 0, 9, (x, v) -> flag(x.mood(1, 3, v)));
    }

    private static void tapeAndTexts() {
        Check.by("5: NONE, and none come, if there would be more than 300");
        refused(Kind.FULL, "feed at 300", NONE, x -> x.feed(1, 2, 3, 4, 5));
        refused(Kind.FULL, "feed at 300, of blanks", NONE, x -> x.feed(0x20202020, 0, 0, 0, 0));
        Check.by("6: NONE, and nothing is done, if it has not so many, or n is below 0");
        outside(Kind.NEW, "end(_)", NONE, 0, 0, (x, v) -> x.end(v));
        outside(Kind.ORDINARY, "end(_)", NONE, 0, 7, (x, v) -> x.end(v));
        outside(Kind.FULL, "end(_)", NONE, 0, 300, (x, v) -> x.end(v));
        Check.by("7: NONE: .. or (the tape stays) there are 4");
        refused(Kind.FULL, "text()", NONE, x -> x.text());
        Check.by("8: NONE for others, and ahead of any");
        outside(Kind.ORDINARY, "fault(_)", NONE, 0, 1, (x, v) -> x.fault(v));
        refused(Kind.NEW, "fault(0)", NONE, x -> x.fault(0));
        refused(Kind.NEW, "fault(1)", NONE, x -> x.fault(1));
        Check.by("9: False for others");
        outside(Kind.NEW, "by(_)", 0, NONE, NONE, (x, v) -> flag(x.by(v)));
        outside(Kind.ORDINARY, "by(_)", 0, NONE, 1, (x, v) -> flag(x.by(v)));
        outside(Kind.FULL, "by(_)", 0, NONE, 3, (x, v) -> flag(x.by(v)));
        Check.by("14: -2 for others");
        outside(Kind.NEW, "played(_)", OTHER, 0, -1, (x, v) -> x.played(v));
        outside(Kind.ORDINARY, "played(_)", OTHER, 0, 1, (x, v) -> x.played(v));
        outside(Kind.FULL, "played(_)", OTHER, 0, 3, (x, v) -> x.played(v));
    }

    private static void steps() {
        Check.by("10: False, if it can't be, and for others");
        refused(Kind.NEW, "send(0, 0)", 0, x -> flag(x.send(0, 0)));
        outside(Kind.ORDINARY, "send(_, 1)", 0, 0, 1, (x, v) -> flag(x.send(v, 1)));
        outside(Kind.ORDINARY, "send(1, _)", 0, 0, 1, (x, v) -> flag(x.send(1, v)));
        outside(Kind.FULL, "send(_, 5)", 0, 0, 4, (x, v) -> flag(x.send(v, 5)));
        outside(Kind.FULL, "send(4, _)", 0, 0, 5, (x, v) -> flag(x.send(4, v)));
        refused(Kind.ORDINARY, "send(0, 0), where it is", 0, x -> flag(x.send(0, 0)));
        Check.by("11: NONE, if it can't be, and for others");
        refused(Kind.NEW, "fall(0, 0)", NONE, x -> x.fall(0, 0));
        refused(Kind.ORDINARY, "fall(1, 0) in the yard", NONE, x -> x.fall(1, 0));
        refused(Kind.TIRED, "fall(0, 0), TIRED 9", NONE, x -> x.fall(0, 0));
        outside(Kind.ORDINARY, "fall(_, 0)", NONE, 0, 1, (x, v) -> x.fall(v, 0));
        outside(Kind.ORDINARY, "fall(0, _)", NONE, 0, 4, (x, v) -> x.fall(0, v));
        outside(Kind.FULL, "fall(_, 4)", NONE, 0, 4, (x, v) -> x.fall(v, 4));
        Check.by("12: False, if it is in the yard, and for others");
        refused(Kind.NEW, "rest(0)", 0, x -> flag(x.rest(0)));
        refused(Kind.ORDINARY, "rest(1) in the yard", 0, x -> flag(x.rest(1)));
        outside(Kind.ORDINARY, "rest(_)", 0, 0, 1, (x, v) -> flag(x.rest(v)));
        outside(Kind.FULL, "rest(_)", 0, 0, 4, (x, v) -> flag(x.rest(v)));
        Check.by("16: NONE: there is none");
        refused(Kind.NEW, "undo()", NONE, x -> x.undo());
    }

    private static void daysAndDecades() {
        Check.by("13: NONE for others, or beyond 9999 (nothing is done then)");
        outside(Kind.ORDINARY, "day(_)", NONE, 1, 60, (x, v) -> x.day(v));
        refused(Kind.LATE, "day(2) at 9998", NONE, x -> x.day(2));
        refused(Kind.LATE, "day(60) at 9998", NONE, x -> x.day(60));
        refused(Kind.LAST, "day(1) at 9999", NONE, x -> x.day(1));
        refused(Kind.LAST, "day(60) at 9999", NONE, x -> x.day(60));
        Check.by("15: NONE for others");
        outside(Kind.ORDINARY, "decades(_, 5)", NONE, 0, 9999, (x, v) -> x.decades(v, 5));
        outside(Kind.ORDINARY, "decades(5, _)", NONE, 1, 40, (x, v) -> x.decades(5, v));
    }

    private static void looks() {
        Check.by("17: -2 for others");
        refused(Kind.NEW, "of(0, 0)", OTHER, x -> x.of(0, 0));
        outside(Kind.ORDINARY, "of(_, 1)", OTHER, 0, 1, (x, v) -> x.of(v, 1));
        outside(Kind.ORDINARY, "of(0, _)", OTHER, 0, 6, (x, v) -> x.of(0, v));
        outside(Kind.FULL, "of(_, 1)", OTHER, 0, 5, (x, v) -> x.of(v, 1));
        Check.by("18: -2 for others");
        refused(Kind.NEW, "ofClown(0, 0)", OTHER, x -> x.ofClown(0, 0));
        outside(Kind.ORDINARY, "ofClown(_, 1)", OTHER, 0, 1, (x, v) -> x.ofClown(v, 1));
        outside(Kind.ORDINARY, "ofClown(0, _)", OTHER, 0, 4, (x, v) -> x.ofClown(0, v));
        outside(Kind.FULL, "ofClown(_, 0)", OTHER, 0, 4, (x, v) -> x.ofClown(v, 0));
        Check.by("19: NONE for others (in the yard)");
        refused(Kind.NEW, "eased(0, 0)", NONE, x -> x.eased(0, 0));
        refused(Kind.ORDINARY, "eased(1, 0) in the yard", NONE, x -> x.eased(1, 0));
        outside(Kind.FULL, "eased(_, 0)", NONE, 0, 4, (x, v) -> x.eased(v, 0));
        outside(Kind.ORDINARY, "eased(0, _)", NONE, 0, 4, (x, v) -> x.eased(0, v));
        Check.by("20: NONE for others (in the yard)");
        refused(Kind.NEW, "laughs(0, 0)", NONE, x -> x.laughs(0, 0));
        refused(Kind.ORDINARY, "laughs(1, 0) in the yard", NONE, x -> x.laughs(1, 0));
        outside(Kind.FULL, "laughs(_, 0)", NONE, 0, 4, (x, v) -> x.laughs(v, 0));
        outside(Kind.ORDINARY, "laughs(0, _)", NONE, 0, 4, (x, v) -> x.laughs(0, v));
        Check.by("21: -2 for others");
        outside(Kind.ORDINARY, "is(_)", OTHER, 0, 1, (x, v) -> x.is(v));
        Check.by("22: -2 if there is none such, and for others");
        refused(Kind.NEW, "book(0, 0)", OTHER, x -> x.book(0, 0));
        outside(Kind.ORDINARY, "book(_, 0)", OTHER, NONE, 0, (x, v) -> x.book(v, 0));
        outside(Kind.FULL, "book(_, 0)", OTHER, NONE, 29, (x, v) -> x.book(v, 0));
        outside(Kind.FULL, "book(29, _)", OTHER, 0, 2, (x, v) -> x.book(29, v));
        Check.by("25: NONE for others");
        outside(Kind.ORDINARY, "told(_, 3)", NONE, 0, 4, (x, v) -> x.told(v, 3));
        outside(Kind.ORDINARY, "told(1, _)", NONE, 0, 9, (x, v) -> x.told(1, v));
    }

    private static void foretelling() {
        Check.by("23: NONE for others");
        refused(Kind.NEW, "foretold(1, 0)", NONE, x -> x.foretold(1, 0));
        outside(Kind.ORDINARY, "foretold(_, 1)", NONE, 1, 60, (x, v) -> x.foretold(v, 1));
        outside(Kind.ORDINARY, "foretold(1, _)", NONE, 0, 1, (x, v) -> x.foretold(1, v));
        outside(Kind.FULL, "foretold(60, _)", NONE, 0, 5, (x, v) -> x.foretold(60, v));
        Check.by("24: NONE: none, and for others");
        outside(Kind.ORDINARY, "heavy(_)", NONE, 0, 600, (x, v) -> x.heavy(v));
        refused(Kind.NEW, "heavy(1) without houses", NONE, x -> x.heavy(1));
        refused(Kind.LAST, "heavy(600) on the last DAY", NONE, x -> x.heavy(600));
    }

    private static void falls() {
        Check.by("26: -2: none, there is none such, and for others");
        refused(Kind.NEW, "order(0, NONE)", OTHER, x -> x.order(0, NONE));
        outside(Kind.ORDINARY, "order(_, NONE)", OTHER, 0, 1, (x, v) -> x.order(v, NONE));
        outside(Kind.ORDINARY, "order(1, _)", OTHER, NONE, 1, (x, v) -> x.order(1, v));
        outside(Kind.FULL, "order(_, NONE)", OTHER, 0, 5, (x, v) -> x.order(v, NONE));
        Check.by("27: -2: none, there is none such, and for others");
        refused(Kind.NEW, "all(NONE)", OTHER, x -> x.all(NONE));
        outside(Kind.NEW, "all(_)", OTHER, NONE, NONE, (x, v) -> x.all(v));
        Check.by("28: -2: none, there is none such, and for others (in the yard)");
        refused(Kind.NEW, "comfort(0, 99, NONE)", OTHER, x -> x.comfort(0, 99, NONE));
        refused(Kind.ORDINARY, "comfort(1, 99, NONE) in the yard", OTHER, x -> x.comfort(1, 99, NONE));
        refused(Kind.TIRED, "comfort(0, 12, NONE), TIRED 9", OTHER, x -> x.comfort(0, 12, NONE));
        outside(Kind.ORDINARY, "comfort(_, 99, NONE)", OTHER, 0, 1, (x, v) -> x.comfort(v, 99, NONE));
        outside(Kind.ORDINARY, "comfort(0, _, NONE)", OTHER, 0, 99, (x, v) -> x.comfort(0, v, NONE));
        outside(Kind.ORDINARY, "comfort(0, 36, _)", OTHER, NONE, 1, (x, v) -> x.comfort(0, 36, v));
        Check.by("29: NONE for others");
        outside(Kind.ORDINARY, "ring(_)", NONE, 0, 4, (x, v) -> x.ring(v));
    }

    private static void costsAndTrials() {
        Check.by("30: False for others (CLOWNS, HOUSES there or not)");
        outside(Kind.ORDINARY, "cost(_, 1, 0)", 0, 0, 4, (x, v) -> flag(x.cost(v, 1, 0)));
        outside(Kind.ORDINARY, "cost(1, _, 0)", 0, 0, 5, (x, v) -> flag(x.cost(1, v, 0)));
        outside(Kind.ORDINARY, "cost(0, 0, _)", 0, 0, 99, (x, v) -> flag(x.cost(0, 0, v)));
        Check.by("31: -2 for others");
        outside(Kind.NEW, "matched(_)", OTHER, NONE, NONE, (x, v) -> x.matched(v));
        outside(Kind.ORDINARY, "matched(_)", OTHER, NONE, 1, (x, v) -> x.matched(v));
        outside(Kind.FULL, "matched(_)", OTHER, NONE, 4, (x, v) -> x.matched(v));
        Check.by("32: -2 for others, or if there are 8");
        outside(Kind.ORDINARY, "bore(_, true)", OTHER, NONE, 99, (x, v) -> x.bore(v, true));
        outside(Kind.ORDINARY, "bore(_, false)", OTHER, NONE, 99, (x, v) -> x.bore(v, false));
        refused(Kind.FULL, "bore(50, true)", OTHER, x -> x.bore(50, true));
        Check.by("33: -2 for others");
        outside(Kind.ORDINARY, "bears(_)", OTHER, 0, 2, (x, v) -> x.bears(v));
        Check.by("34: NONE: none, and for others");
        outside(Kind.ORDINARY, "next(_)", NONE, 0, 99, (x, v) -> x.next(v));
        refused(Kind.ORDINARY, "next(30): all would", NONE, x -> x.next(30));
    }

    private static void shares() {
        Check.by("35: False for others (bits 1 .. 15)");
        outside(Kind.ORDINARY, "worth(_, 5)", 0, 1, 15, (x, v) -> flag(x.worth(v, 5)));
        outside(Kind.ORDINARY, "worth(3, _)", 0, 0, 999, (x, v) -> flag(x.worth(3, v)));
        Check.by("36: NONE for others");
        for (int of = 1; of <= 4; of++) {
            int n = of;
            outside(Kind.ORDINARY, "share(_, " + n + ", false)", NONE, 0, n - 1, (x, v) -> x.share(v, n, false));
        }
        outside(Kind.ORDINARY, "share(0, _, false)", NONE, 1, 4, (x, v) -> x.share(0, v, false));
        outside(Kind.ORDINARY, "share(0, _, true)", NONE, 1, 4, (x, v) -> x.share(0, v, true));
        Check.by("37: -100000 for others");
        outside(Kind.ORDINARY, "stays(_, 9, 1, 0)", -100000, 0, 10, (x, v) -> x.stays(v, 9, 1, 0));
        outside(Kind.ORDINARY, "stays(5, _, 1, 0)", -100000, 0, 999, (x, v) -> x.stays(5, v, 1, 0));
        outside(Kind.ORDINARY, "stays(5, 9, _, 0)", -100000, 0, 99, (x, v) -> x.stays(5, 9, v, 0));
        outside(Kind.ORDINARY, "stays(5, 9, 1, _)", -100000, 0, 2, (x, v) -> x.stays(5, 9, 1, v));
    }

    private static void lessonsAndLaws() {
        Check.by("38: False for others (unlike ones), and if it is so");
        outside(Kind.ORDINARY, "behind(_, 2)", 0, 0, 4, (x, v) -> flag(x.behind(v, 2)));
        outside(Kind.ORDINARY, "behind(2, _)", 0, 0, 4, (x, v) -> flag(x.behind(2, v)));
        refused(Kind.ORDINARY, "behind(0, 4), which is so", 0, x -> flag(x.behind(0, 4)));
        for (int fall = 0; fall < 5; fall++) {
            int alike = fall;
            refused(Kind.ORDINARY, "behind itself", 0, x -> flag(x.behind(alike, alike)));
        }
        Check.by("39: -2: none, and for others");
        outside(Kind.ORDINARY, "lessons(_)", OTHER, NONE, 4, (x, v) -> x.lessons(v));
        Check.by("40: -2 for others, or if there are 8");
        outside(Kind.NEW, "grown(_, 0)", OTHER, NONE, NONE, (x, v) -> x.grown(v, 0));
        outside(Kind.ORDINARY, "grown(_, 0)", OTHER, NONE, 1, (x, v) -> x.grown(v, 0));
        outside(Kind.ORDINARY, "grown(0, _)", OTHER, 0, 9, (x, v) -> x.grown(0, v));
        refused(Kind.FULL, "grown(0, 0)", OTHER, x -> x.grown(0, 0));
    }

    private static void others() {
        Check.by("42: NONE for others");
        outside(Kind.NEW, "clocks(_)", NONE, 0, -1, (x, v) -> x.clocks(v));
        outside(Kind.ORDINARY, "clocks(_)", NONE, 0, 1, (x, v) -> x.clocks(v));
        outside(Kind.FULL, "clocks(_)", NONE, 0, 4, (x, v) -> x.clocks(v));
        Check.by("43: NONE: none");
        refused(Kind.NEW, "saddest()", NONE, x -> x.saddest());
        Check.by("44: NONE: none");
        refused(Kind.NEW, "tiredest()", NONE, x -> x.tiredest());
        Check.by("46: -2 for others");
        outside(Kind.NEW, "ledger(_)", OTHER, NONE, NONE, (x, v) -> x.ledger(v));
        outside(Kind.ORDINARY, "ledger(_)", OTHER, NONE, 1, (x, v) -> x.ledger(v));
        outside(Kind.FULL, "ledger(_)", OTHER, NONE, 4, (x, v) -> x.ledger(v));
        Check.by("49: -2 for others");
        outside(Kind.ORDINARY, "about(_)", OTHER, 0, 7, (x, v) -> x.about(v));
    }

    private static void unchanged(String call, Call ask) {
        for (Kind kind : Kind.values()) {
            Check.same("what has changed by " + call + " of one that is " + kind, Photo.of(() -> {
                ClownsMourn x = kind.make();
                ask.on(x);
                return x;
            }), kind.photo());
        }
    }

    private static void asksChangeNothing() {
        Check.by("III: All that follows changes nothing");
        unchanged("foretold", x -> x.foretold(1, 0) + x.foretold(60, 1));
        unchanged("heavy", x -> x.heavy(0) + x.heavy(100) + x.heavy(600));
        unchanged("order", x -> x.order(0, NONE) + x.order(1, 0));
        unchanged("all", x -> x.all(NONE) + x.all(0));
        unchanged("comfort", x -> x.comfort(0, 0, NONE) + x.comfort(0, 30, 0) + x.comfort(0, 99, NONE));
        unchanged("ring", x -> x.ring(1));
        unchanged("matched", x -> x.matched(NONE) + x.matched(0));
        unchanged("bears, next", x -> x.bears(0) + x.bears(1) + x.bears(2) + x.next(99));
        unchanged("share", x -> x.share(0, 4, false) + x.share(3, 4, true));
        unchanged("stays", x -> x.stays(5, 100, 10, 0) + x.stays(5, 100, 10, 1) + x.stays(5, 100, 10, 2));
        unchanged("lessons", x -> x.lessons(NONE) + x.lessons(4));
        unchanged("whose", x -> x.whose());
        unchanged("clocks and others", x -> x.clocks(0) + x.saddest() + x.tiredest() + x.sitting() + x.ledger(0));
        Check.by("17 to 22, 25, 49: what is asked is answered, nothing is done");
        unchanged("of, ofClown", x -> x.of(0, 5) + x.of(1, 6) + x.ofClown(0, 3));
        unchanged("eased", x -> x.eased(0, 0) + x.eased(0, 4));
        unchanged("laughs", x -> x.laughs(0, 0) + x.laughs(0, 4));
        unchanged("is, book, told, about", x -> x.is(1) + x.book(NONE, 0) + x.told(4, 9) + x.about(7) + x.fault(0));
    }
}
