/** What the tests of edges share: counting answers that are not due, and writing texts on a tape. */
final class Check {
    static final int NONE = ClownsMourn.NONE;

    private static int wrong = 0;
    private static int checked = 0;
    private static String sentence = "";

    private Check() {
    }

    /** The sentence of the document that the next answers are due by. */
    static void by(String words) {
        sentence = words;
    }

    static void due(String call, long got, long want) {
        checked++;
        if (got != want) {
            wrong++;
            System.out.println("[" + sentence + "] " + call + " answered " + got + ", due is " + want);
        }
    }

    static void due(String call, boolean got, boolean want) {
        due(call, got ? 1 : 0, want ? 1 : 0);
    }

    static void same(String what, String got, String want) {
        checked++;
        if (!got.equals(want)) {
            wrong++;
            System.out.println("[" + sentence + "] " + what + ":\n  " + got + "\n  due is\n  " + want);
        }
    }

    static void endOfTest() {
        System.out.println(checked + " answers, " + wrong + " wrong");
        if (wrong != 0) {
            System.exit(1);
        }
    }

    /** The tape has these signs and no others. */
    static void write(ClownsMourn x, String signs) {
        x.end(0);
        add(x, signs);
    }

    /** These signs come behind the tape (which must have room for the twenties that they fill). */
    static void add(ClownsMourn x, String signs) {
        int length = x.about(7);
        for (int i = 0; i < signs.length(); i += 20) {
            int[] five = new int[5];
            for (int k = 0; k < 20; k++) {
                int sign = i + k < signs.length() ? signs.charAt(i + k) : 0;
                five[k / 4] = five[k / 4] << 8 | sign;
            }
            x.feed(five[0], five[1], five[2], five[3], five[4]);
        }
        x.end(length + signs.length());
    }

    static int read(ClownsMourn x, String signs) {
        write(x, signs);
        return x.text();
    }

    /** It is read, and it rules. */
    static void rule(ClownsMourn x, String signs) {
        x.by(read(x, signs));
    }

    /** Houses 0 (father, GRIEF 40) and 1 (uncle, 10), clowns 0 (SKILL 3, AGE 20) and 1 (5, 60). */
    static ClownsMourn city() {
        ClownsMourn x = new ClownsMourn();
        x.house(0, 40);
        x.house(2, 10);
        x.clown(3, 20);
        x.clown(5, 60);
        return x;
    }

    static ClownsMourn ruledCity(String signs) {
        ClownsMourn x = city();
        rule(x, signs);
        return x;
    }

    /** As x is, but on this DAY and with a text more; mostly by that text, so that it takes few calls. */
    static void passTo(ClownsMourn x, int day) {
        int text = read(x, "day 60;".repeat(24));
        int left = day - x.is(0);
        for (int i = 0; i < left / (24 * 60); i++) {
            x.played(text);
        }
        for (int i = 0; i < left % (24 * 60) / 60; i++) {
            x.day(60);
        }
        x.day(left % 60);
    }

    static int renewed(int x) {
        return (x * 419 + 293) % 30529;
    }
}
