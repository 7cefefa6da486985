import java.util.Random;

/** Runs of drawn calls, each answered by the class and by the Oracle. The seeds are fixed. */
public final class OracleTest {
    private static final int RUNS = 1500;
    private static final int CALLS = 480;
    private static int wrong = 0;
    private static long faults = 0;
    private static long texts = 0;

    private final Random random;
    private final ClownsMourn x = new ClownsMourn();
    private final Oracle o = new Oracle();
    private final int run;
    private final StringBuilder trail = new StringBuilder();
    private int calls = 0;
    private boolean bad = false;

    private OracleTest(int run) {
        this.run = run;
        this.random = new Random(run * 7919L + 5);
    }

    public static void main(String[] args) {
        for (int run = 0; run < RUNS && wrong < 10; run++) {
            new OracleTest(run).play();
        }
        System.out.println(RUNS + " runs, " + texts + " texts, " + faults + " faults, " + wrong + " wrong");
        if (wrong != 0) {
            System.exit(1);
        }
    }

    private void due(String call, long got, long want) {
        trail.append(call).append(" -> ").append(got).append('\n');
        calls++;
        if (got != want && !bad) {
            bad = true;
            wrong++;
            System.out.println("run " + run + ":\n" + trail + "due is " + want);
        }
    }

    private static long flag(boolean b) {
        return b ? 1 : 0;
    }

    /** Mostly from low to high, at times just outside, at times far outside. */
    private int arg(int low, int high) {
        int r = random.nextInt(40);
        if (r == 0) {
            return low - 1 - random.nextInt(2);
        }
        if (r == 1) {
            return high + 1 + random.nextInt(2);
        }
        if (r == 2 && random.nextInt(4) == 0) {
            int[] far = {Integer.MIN_VALUE, Integer.MAX_VALUE, -1000, 1000000, 1 << 30, -2};
            return far[random.nextInt(far.length)];
        }
        return low + random.nextInt(high - low + 1);
    }

    private void play() {
        int style = random.nextInt(8);
        if (style != 0) {
            int houses = 1 + random.nextInt(6);
            for (int i = 0; i < houses; i++) {
                int a = random.nextInt(4);
                int b = random.nextInt(100);
                due("house " + a + " " + b, x.house(a, b), o.house(a, b));
            }
            int clowns = 1 + random.nextInt(5);
            for (int i = 0; i < clowns; i++) {
                int a = 1 + random.nextInt(9);
                int b = random.nextInt(100);
                due("clown " + a + " " + b, x.clown(a, b), o.clown(a, b));
            }
        }
        if (style == 1) {
            ageNearTheLastDay();
        }
        due("image", x.image(), o.image());
        int telling = random.nextInt(3) == 0 ? 30 : 5;
        while (calls < CALLS && !bad) {
            int r = random.nextInt(100);
            if (r < 35) {
                act();
            } else if (r < 35 + telling) {
                tell();
            } else if (r < 38 + telling) {
                write();
            } else if (r < 50 + telling) {
                look();
            } else {
                ask();
            }
        }
    }

    private void ageNearTheLastDay() {
        for (int i = 0; i < 166; i++) {
            due("day 60", x.day(60), o.day(60));
        }
        int n = 1 + random.nextInt(38);
        due("day " + n, x.day(n), o.day(n));
    }

    private int aClown() {
        return arg(0, Math.max(0, o.about(1) - 1));
    }

    private int aHouse() {
        return arg(0, Math.max(0, o.about(0) - 1));
    }

    private void act() {
        int a;
        int b;
        switch (random.nextInt(16)) {
            case 0:
            case 1:
            case 2:
                a = aClown();
                b = aHouse();
                due("send " + a + " " + b, flag(x.send(a, b)), flag(o.send(a, b)));
                break;
            case 3:
            case 4:
            case 5:
            case 6:
            case 7:
                a = aClown();
                b = arg(0, 4);
                due("fall " + a + " " + b, x.fall(a, b), o.fall(a, b));
                break;
            case 8:
                a = aClown();
                due("rest " + a, flag(x.rest(a)), flag(o.rest(a)));
                break;
            case 9:
                a = arg(1, random.nextInt(3) == 0 ? 60 : 3);
                due("day " + a, x.day(a), o.day(a));
                break;
            case 10:
                a = arg(0, 9999);
                b = arg(1, 40);
                due("decades " + a + " " + b, x.decades(a, b), o.decades(a, b));
                break;
            case 11:
                a = arg(0, Math.max(0, o.about(2) - 1));
                due("played " + a, x.played(a), o.played(a));
                break;
            case 12:
            case 13:
                due("undo", x.undo(), o.undo());
                break;
            case 14:
                if (random.nextInt(6) == 0) {
                    due("image", x.image(), o.image());
                }
                break;
            default:
                if (random.nextInt(8) == 0) {
                    due("back", x.back(), o.back());
                }
                break;
        }
    }

    private void tell() {
        int a = arg(0, 4);
        int b = arg(0, 9);
        int c = arg(0, 9);
        boolean f = random.nextBoolean();
        switch (random.nextInt(9)) {
            case 0:
                if (random.nextInt(4) == 0) {
                    c = arg(0, 99);
                    a = arg(0, 3);
                    due("house " + a + " " + c, x.house(a, c), o.house(a, c));
                }
                break;
            case 1:
                if (random.nextInt(4) == 0) {
                    c = arg(0, 99);
                    b = arg(1, 9);
                    due("clown " + b + " " + c, x.clown(b, c), o.clown(b, c));
                }
                break;
            case 2:
                due("mood " + a + " " + b + " " + c, flag(x.mood(a, b, c)), flag(o.mood(a, b, c)));
                break;
            case 3:
                b = arg(0, 5);
                c = random.nextBoolean() ? arg(0, 99) : arg(0, 3);
                due("cost " + a + " " + b + " " + c, flag(x.cost(a, b, c)), flag(o.cost(a, b, c)));
                break;
            case 4:
                c = random.nextInt(12) == 0 ? -1 : arg(0, 99);
                due("bore " + c + " " + f, x.bore(c, f), o.bore(c, f));
                break;
            case 5:
                b = arg(1, 15);
                c = arg(0, 999);
                due("worth " + b + " " + c, flag(x.worth(b, c)), flag(o.worth(b, c)));
                break;
            case 6:
                if (random.nextInt(3) == 0) {
                    b = arg(0, 4);
                    due("behind " + a + " " + b, flag(x.behind(a, b)), flag(o.behind(a, b)));
                }
                break;
            case 7:
                a = random.nextInt(6) == 0 ? -1 : arg(0, 5);
                due("grown " + a + " " + b, x.grown(a, b), o.grown(a, b));
                break;
            default:
                a = arg(-1, Math.max(0, o.about(2) - 1));
                due("by " + a, flag(x.by(a)), flag(o.by(a)));
                break;
        }
    }

    private void look() {
        int a;
        int b;
        switch (random.nextInt(6)) {
            case 0:
            case 1:
                a = aHouse();
                b = arg(0, 6);
                due("of " + a + " " + b, x.of(a, b), o.of(a, b));
                break;
            case 2:
                a = aClown();
                b = arg(0, 4);
                due("ofClown " + a + " " + b, x.ofClown(a, b), o.ofClown(a, b));
                break;
            case 3:
                a = arg(0, 1);
                due("is " + a, x.is(a), o.is(a));
                break;
            case 4:
                a = arg(-1, Math.max(0, o.book(-1, 0) - 1));
                b = arg(0, 2);
                due("book " + a + " " + b, x.book(a, b), o.book(a, b));
                break;
            default:
                a = arg(0, 7);
                due("about " + a, x.about(a), o.about(a));
                break;
        }
    }

    private void ask() {
        int a = aClown();
        int b = arg(0, 4);
        int c = arg(-1, 5);
        int d;
        boolean f = random.nextBoolean();
        switch (random.nextInt(24)) {
            case 0:
                due("eased " + a + " " + b, x.eased(a, b), o.eased(a, b));
                break;
            case 1:
                due("laughs " + a + " " + b, x.laughs(a, b), o.laughs(a, b));
                break;
            case 2:
                a = arg(1, 60);
                b = aHouse();
                due("foretold " + a + " " + b, x.foretold(a, b), o.foretold(a, b));
                break;
            case 3:
                a = random.nextBoolean() ? arg(0, 600) : arg(0, 250);
                due("heavy " + a, x.heavy(a), o.heavy(a));
                break;
            case 4:
                a = arg(0, 4);
                b = arg(0, 9);
                due("told " + a + " " + b, x.told(a, b), o.told(a, b));
                break;
            case 5:
                b = aHouse();
                due("order " + b + " " + c, x.order(b, c), o.order(b, c));
                break;
            case 6:
                c = arg(-1, 12);
                due("all " + c, x.all(c), o.all(c));
                break;
            case 7:
            case 8:
                d = arg(0, 99);
                c = arg(-1, 4);
                due("comfort " + a + " " + d + " " + c, x.comfort(a, d, c), o.comfort(a, d, c));
                break;
            case 9:
                a = arg(0, 4);
                due("ring " + a, x.ring(a), o.ring(a));
                break;
            case 10:
            case 11:
                a = arg(-1, 4);
                due("matched " + a, x.matched(a), o.matched(a));
                break;
            case 12:
                a = arg(0, 2);
                due("bears " + a, x.bears(a), o.bears(a));
                break;
            case 13:
                a = arg(0, 99);
                due("next " + a, x.next(a), o.next(a));
                break;
            case 14:
                a = arg(0, 3);
                b = arg(1, 4);
                due("share " + a + " " + b + " " + f, x.share(a, b, f), o.share(a, b, f));
                break;
            case 15:
                a = arg(0, 10);
                b = arg(0, 999);
                c = random.nextBoolean() ? arg(0, 99) : arg(0, 9);
                d = arg(0, 2);
                due("stays " + a + " " + b + " " + c + " " + d, x.stays(a, b, c, d), o.stays(a, b, c, d));
                break;
            case 16:
                due("lessons " + c, x.lessons(c), o.lessons(c));
                break;
            case 17:
                due("whose", x.whose(), o.whose());
                break;
            case 18:
                due("clocks " + a, x.clocks(a), o.clocks(a));
                break;
            case 19:
                due("saddest", x.saddest(), o.saddest());
                break;
            case 20:
                due("tiredest", x.tiredest(), o.tiredest());
                break;
            case 21:
                due("sitting", x.sitting(), o.sitting());
                break;
            case 22:
                a = arg(-1, 4);
                due("ledger " + a, x.ledger(a), o.ledger(a));
                break;
            default:
                a = arg(0, 1);
                due("fault " + a, x.fault(a), o.fault(a));
                break;
        }
    }

    private void write() {
        if (random.nextInt(4) != 0) {
            due("end 0", x.end(0), o.end(0));
        }
        String s = new Writer(random).script();
        trail.append("'").append(s).append("'\n");
        byte[] bytes = new byte[(s.length() + 19) / 20 * 20];
        for (int i = 0; i < s.length(); i++) {
            bytes[i] = (byte) s.charAt(i);
        }
        for (int i = 0; i < bytes.length; i += 20) {
            int[] v = new int[5];
            for (int k = 0; k < 20; k++) {
                v[k / 4] = v[k / 4] << 8 | bytes[i + k] & 255;
            }
            due("feed", x.feed(v[0], v[1], v[2], v[3], v[4]), o.feed(v[0], v[1], v[2], v[3], v[4]));
        }
        int n = random.nextInt(30) == 0 ? arg(0, 300) : s.length();
        due("end " + n, x.end(n), o.end(n));
        due("text", x.text(), o.text());
        texts++;
        faults += o.fault(0) > 0 ? 1 : 0;
        due("fault 0", x.fault(0), o.fault(0));
        due("fault 1", x.fault(1), o.fault(1));
        due("about 7", x.about(7), o.about(7));
        int t = o.about(2) - 1;
        if (t >= 0 && random.nextInt(3) != 0) {
            due("by " + t, flag(x.by(t)), flag(o.by(t)));
        }
        if (t >= 0 && random.nextInt(3) == 0) {
            due("played " + t, x.played(t), o.played(t));
        }
        if (t == 3 && random.nextInt(3) == 0) {
            due("back", x.back(), o.back());
        }
    }

    /** Writes texts by the grammar, with a slip now and then. */
    static final class Writer {
        private final Random random;
        private final StringBuilder s = new StringBuilder();
        private final int slips;
        private String law;

        Writer(Random random) {
            this.random = random;
            this.slips = random.nextInt(3) == 0 ? 25 : 1000;
        }

        String script() {
            int clauses = random.nextInt(6) == 0 ? 26 : 1 + random.nextInt(9);
            boolean[] had = new boolean[3];
            for (int i = 0; i < clauses && s.length() < 290; i++) {
                int before = s.length();
                int kind = clauses == 26 ? 3 + random.nextInt(7) : random.nextInt(12);
                if (kind < 3 && had[kind] && random.nextInt(15) != 0) {
                    kind = 9;
                }
                clause(kind > 9 ? random.nextInt(3) : kind);
                if (kind < 3) {
                    had[kind] = true;
                }
                if (s.length() > 300 && random.nextInt(5) != 0) {
                    s.setLength(before);
                    break;
                }
            }
            if (s.length() > 300) {
                s.setLength(300);
            }
            if (random.nextInt(12) == 0 && s.length() > 0) {
                int at = random.nextInt(s.length());
                String odd = "?;()+-*/<>=#09azZ \n\t\r&!\u00e9";
                s.setCharAt(at, odd.charAt(random.nextInt(odd.length())));
            }
            return s.toString();
        }

        private void put(String t) {
            if (random.nextInt(slips) == 0) {
                String[] odd = {"eases", "if", "99999", "then", "", ";", "(", "Mood", "house", "not", "and", "<=", "there",
                    "who", "0", "end", "-", "\u00ff", "hold", "from", "00007", "10000"};
                t = odd[random.nextInt(odd.length)];
            }
            boolean tight = s.length() == 0 || t.isEmpty();
            if (!tight) {
                char a = s.charAt(s.length() - 1);
                char b = t.charAt(0);
                boolean glue = letterOrDigit(a) && letterOrDigit(b)
                        && (Character.isDigit(a) == Character.isDigit(b));
                boolean sign = (a == '<' || a == '>') && b == '=';
                if (glue || sign || random.nextInt(6) == 0) {
                    s.append(random.nextInt(5) == 0 ? '\n' : ' ');
                }
            }
            s.append(t);
        }

        private static boolean letterOrDigit(char c) {
            return c < 128 && Character.isLetterOrDigit(c);
        }

        private void num(int low, int high) {
            int v = low + random.nextInt(high - low + 1);
            if (random.nextInt(slips) == 0) {
                v = random.nextBoolean() ? high + 1 : Math.max(0, low - 1);
            }
            put(Integer.toString(v));
        }

        private void clause(int kind) {
            switch (kind) {
                case 0: law = "eases"; put(law); sum(0); break;
                case 1: law = "laughs"; put(law); sum(0); break;
                case 2: law = "grows"; put(law); sum(0); break;
                case 3: put("house"); num(0, 3); put("grief"); num(0, 99); break;
                case 4: put("clown"); num(1, 9); put("age"); num(0, 99); break;
                case 5: put("mood"); num(0, 9); put("by"); num(0, 4); put("to"); num(0, 9); break;
                case 6: put("send"); num(0, 2); put("to"); num(0, 2); break;
                case 7: put("fall"); num(0, 4); put("by"); num(0, 2); break;
                case 8: put("rest"); num(0, 2); break;
                default: put("day"); num(1, random.nextInt(8) == 0 ? 60 : 3); break;
            }
            put(";");
        }

        private void sum(int depth) {
            product(depth);
            while (random.nextInt(3) == 0) {
                put(random.nextBoolean() ? "+" : "-");
                product(depth);
            }
        }

        private void product(int depth) {
            one(depth);
            while (random.nextInt(4) == 0) {
                put(random.nextBoolean() ? "*" : "/");
                one(depth);
            }
        }

        private void one(int depth) {
            int r = random.nextInt(depth > 9 ? 6 : 14);
            switch (r) {
                case 0:
                case 1:
                    put(Integer.toString(random.nextInt(random.nextInt(4) == 0 ? 10000 : 12)));
                    break;
                case 6: put("("); sum(depth + 1); put(")"); break;
                case 7: put("-"); one(depth + 1); break;
                case 8:
                    put("hold");
                    one(depth + 1);
                    put("from");
                    one(depth + 1);
                    put("to");
                    one(depth + 1);
                    break;
                case 9:
                case 10: put("moods"); one(depth + 1); break;
                case 11:
                    put("if");
                    ask(depth + 1);
                    while (random.nextInt(3) == 0) {
                        put(random.nextBoolean() ? "and" : "or");
                        ask(depth + 1);
                    }
                    put("then");
                    sum(depth + 1);
                    put("else");
                    sum(depth + 1);
                    put("end");
                    break;
                default: name(); break;
            }
        }

        private void name() {
            String[] all = {"day", "kind", "grief", "mood", "laughed", "house"};
            String[] fall = {"skill", "age", "tired", "fall", "who"};
            if (random.nextBoolean()) {
                put(all[random.nextInt(6)]);
            } else if (law.equals("grows") != (random.nextInt(40) == 0)) {
                put("there");
            } else {
                put(fall[random.nextInt(5)]);
            }
        }

        private void ask(int depth) {
            if (depth < 10 && random.nextInt(5) == 0) {
                put("not");
                ask(depth + 1);
                return;
            }
            sum(depth);
            put(new String[] {"<", "<=", ">", ">=", "=", "#"}[random.nextInt(6)]);
            sum(depth);
        }
    }
}
