import java.math.BigInteger;
import java.util.ArrayList;
import java.util.Arrays;
import java.util.HashMap;
import java.util.HashSet;
import java.util.List;
import java.util.Map;
import java.util.Set;

/** The document written once more, slowly and by other means, to hold the class against. */
final class Oracle {
    static final int NONE = -1;

    static final class House {
        int kind, grief, mood, clock = -1, laughed;

        House copy() {
            House h = new House();
            h.kind = kind;
            h.grief = grief;
            h.mood = mood;
            h.clock = clock;
            h.laughed = laughed;
            return h;
        }
    }

    static final class Clown {
        int skill, age, tired, at = -1, falls;

        Clown copy() {
            Clown c = new Clown();
            c.skill = skill;
            c.age = age;
            c.tired = tired;
            c.at = at;
            c.falls = falls;
            return c;
        }
    }

    /** What a step changes. */
    static final class Scene {
        List<House> houses = new ArrayList<>();
        List<Clown> clowns = new ArrayList<>();
        int day;
        int x = 179;
        List<int[]> book = new ArrayList<>();

        Scene copy() {
            Scene s = new Scene();
            for (House h : houses) {
                s.houses.add(h.copy());
            }
            for (Clown c : clowns) {
                s.clowns.add(c.copy());
            }
            s.day = day;
            s.x = x;
            s.book.addAll(book);
            return s;
        }
    }

    /** All that an image has. */
    static final class World {
        Scene scene = new Scene();
        List<Scene> steps = new ArrayList<>();
        int[][] moods = new int[5][10];
        List<Script> texts = new ArrayList<>();
        int ruling = -1;
        int[][] costs = new int[5][6];
        List<int[]> trials = new ArrayList<>();
        int[] worth = new int[16];
        boolean[][] behind = new boolean[5][5];
        List<int[]> grown = new ArrayList<>();

        World() {
            for (int f = 0; f < 5; f++) {
                Arrays.fill(costs[f], 10);
                for (int m = 0; m < 10; m++) {
                    moods[f][m] = (m + f + 1) % 10;
                }
            }
        }

        World copy() {
            World w = new World();
            w.scene = scene.copy();
            for (Scene s : steps) {
                w.steps.add(s.copy());
            }
            for (int f = 0; f < 5; f++) {
                w.moods[f] = moods[f].clone();
                w.costs[f] = costs[f].clone();
                w.behind[f] = behind[f].clone();
            }
            w.texts.addAll(texts);
            w.ruling = ruling;
            w.trials.addAll(trials);
            w.worth = worth.clone();
            w.grown.addAll(grown);
            return w;
        }
    }

    static final class Script {
        List<Object[]> clauses = new ArrayList<>();
        Map<String, Sum> laws = new HashMap<>();
    }

    static final class Env {
        Scene scene;
        int house, clown, kind;
    }

    interface Sum {
        long value(Env e);
    }

    interface Truth {
        boolean holds(Env e);
    }

    static final class Fault extends RuntimeException {
        private static final long serialVersionUID = 1L;
        final int what, place;

        Fault(int what, int place) {
            this.what = what;
            this.place = place;
        }
    }

    static final class Parser {
        final String tape;
        final List<String> tokens = new ArrayList<>();
        final List<Integer> places = new ArrayList<>();
        int i = 0;
        int deep = 0;
        String law;

        Parser(String tape) {
            this.tape = tape;
            String signs = "=#+-*/();";
            int at = 0;
            while (at < tape.length()) {
                char c = tape.charAt(at);
                int to = at + 1;
                if (c == ' ' || c == '\n') {
                    at++;
                    continue;
                }
                if (letter(c)) {
                    while (to < tape.length() && letter(tape.charAt(to))) {
                        to++;
                    }
                } else if (digit(c)) {
                    while (to < tape.length() && digit(tape.charAt(to))) {
                        to++;
                    }
                } else if (c == '<' || c == '>') {
                    if (to < tape.length() && tape.charAt(to) == '=') {
                        to++;
                    }
                } else if (signs.indexOf(c) < 0) {
                    tokens.add("?bad");
                    places.add(at);
                    at = to;
                    continue;
                }
                tokens.add(tape.substring(at, to));
                places.add(at);
                at = to;
            }
            tokens.add("");
            places.add(tape.length());
        }

        static boolean letter(char c) {
            return c >= 'a' && c <= 'z' || c >= 'A' && c <= 'Z';
        }

        static boolean digit(char c) {
            return c >= '0' && c <= '9';
        }

        String peek() {
            return tokens.get(i);
        }

        Fault fault(int what) {
            return new Fault(what, places.get(i));
        }

        void eat(String t) {
            if (!peek().equals(t)) {
                throw fault(1);
            }
            i++;
        }

        int num(int low, int high) {
            String t = peek();
            if (t.isEmpty() || !digit(t.charAt(0))) {
                throw fault(1);
            }
            BigInteger v = new BigInteger(t);
            if (v.compareTo(BigInteger.valueOf(low)) < 0 || v.compareTo(BigInteger.valueOf(high)) > 0) {
                throw fault(2);
            }
            i++;
            return v.intValue();
        }

        Script script() {
            Script s = new Script();
            Set<String> firsts = new HashSet<>(Arrays.asList("eases", "laughs", "grows", "house", "clown", "mood",
                    "send", "fall", "rest", "day"));
            while (!peek().isEmpty()) {
                String first = peek();
                if (!firsts.contains(first)) {
                    throw fault(1);
                }
                if (s.laws.containsKey(first)) {
                    throw fault(4);
                }
                if (s.clauses.size() == 24) {
                    throw fault(6);
                }
                i++;
                Object[] c = {first, 0, 0, 0};
                switch (first) {
                    case "house": c[1] = num(0, 3); eat("grief"); c[2] = num(0, 99); break;
                    case "clown": c[1] = num(1, 9); eat("age"); c[2] = num(0, 99); break;
                    case "mood": c[1] = num(0, 9); eat("by"); c[2] = num(0, 4); eat("to"); c[3] = num(0, 9); break;
                    case "send": c[1] = num(0, 4); eat("to"); c[2] = num(0, 5); break;
                    case "fall": c[1] = num(0, 4); eat("by"); c[2] = num(0, 4); break;
                    case "rest": c[1] = num(0, 4); break;
                    case "day": c[1] = num(1, 60); break;
                    default: law = first; s.laws.put(first, sum()); break;
                }
                eat(";");
                s.clauses.add(c);
            }
            return s;
        }

        static long clamp(long v) {
            return v > 1000000 ? 1000000 : v < -1000000 ? -1000000 : v;
        }

        Sum sum() {
            Sum left = product();
            while (peek().equals("+") || peek().equals("-")) {
                boolean plus = tokens.get(i++).equals("+");
                Sum a = left;
                Sum b = product();
                left = e -> clamp(plus ? a.value(e) + b.value(e) : a.value(e) - b.value(e));
            }
            return left;
        }

        Sum product() {
            Sum left = one();
            while (peek().equals("*") || peek().equals("/")) {
                boolean times = tokens.get(i++).equals("*");
                Sum a = left;
                Sum b = one();
                left = e -> {
                    long u = a.value(e);
                    long v = b.value(e);
                    return clamp(times ? u * v : v == 0 ? 0 : u / v);
                };
            }
            return left;
        }

        void nest() {
            if (deep == 8) {
                throw fault(3);
            }
            deep++;
            i++;
        }

        Sum one() {
            String t = peek();
            if (!t.isEmpty() && digit(t.charAt(0))) {
                int v = num(0, 9999);
                return e -> v;
            }
            switch (t) {
                case "(": {
                    nest();
                    Sum a = sum();
                    eat(")");
                    deep--;
                    return a;
                }
                case "-": {
                    nest();
                    Sum a = one();
                    deep--;
                    return e -> -a.value(e);
                }
                case "hold": {
                    nest();
                    Sum a = one();
                    eat("from");
                    Sum b = one();
                    eat("to");
                    Sum c = one();
                    deep--;
                    return e -> {
                        long low = b.value(e);
                        long high = c.value(e);
                        long v = a.value(e);
                        return low > high ? high : v < low ? low : v > high ? high : v;
                    };
                }
                case "moods": {
                    nest();
                    Sum a = one();
                    deep--;
                    return e -> {
                        long h = a.value(e);
                        return h >= 0 && h < e.scene.houses.size() ? e.scene.houses.get((int) h).mood : 0;
                    };
                }
                case "if": {
                    nest();
                    Truth q = either();
                    eat("then");
                    Sum a = sum();
                    eat("else");
                    Sum b = sum();
                    eat("end");
                    deep--;
                    return e -> q.holds(e) ? a.value(e) : b.value(e);
                }
                default:
                    return name(t);
            }
        }

        Sum name(String t) {
            boolean grows = law.equals("grows");
            Sum s;
            switch (t) {
                case "day": s = e -> e.scene.day; break;
                case "kind": s = e -> e.scene.houses.get(e.house).kind; break;
                case "grief": s = e -> e.scene.houses.get(e.house).grief; break;
                case "mood": s = e -> e.scene.houses.get(e.house).mood; break;
                case "laughed": s = e -> e.scene.houses.get(e.house).laughed; break;
                case "house": s = e -> e.house; break;
                case "skill": s = grows ? null : e -> e.scene.clowns.get(e.clown).skill; break;
                case "age": s = grows ? null : e -> e.scene.clowns.get(e.clown).age; break;
                case "tired": s = grows ? null : e -> e.scene.clowns.get(e.clown).tired; break;
                case "fall": s = grows ? null : e -> e.kind; break;
                case "who": s = grows ? null : e -> e.clown; break;
                case "there": s = grows ? e -> there(e.scene, e.house) : null; break;
                default: throw fault(1);
            }
            if (s == null) {
                throw fault(5);
            }
            i++;
            return s;
        }

        Truth either() {
            Truth left = both();
            while (peek().equals("or")) {
                i++;
                Truth a = left;
                Truth b = both();
                left = e -> a.holds(e) | b.holds(e);
            }
            return left;
        }

        Truth both() {
            Truth left = ask();
            while (peek().equals("and")) {
                i++;
                Truth a = left;
                Truth b = ask();
                left = e -> a.holds(e) & b.holds(e);
            }
            return left;
        }

        Truth ask() {
            if (peek().equals("not")) {
                nest();
                Truth a = ask();
                deep--;
                return e -> !a.holds(e);
            }
            Sum a = sum();
            String sign = peek();
            if (!Arrays.asList("<", "<=", ">", ">=", "=", "#").contains(sign)) {
                throw fault(1);
            }
            i++;
            Sum b = sum();
            return e -> {
                int c = Long.compare(a.value(e), b.value(e));
                switch (sign) {
                    case "<": return c < 0;
                    case "<=": return c <= 0;
                    case ">": return c > 0;
                    case ">=": return c >= 0;
                    case "=": return c == 0;
                    default: return c != 0;
                }
            };
        }
    }

    World w = new World();
    World image = new World();
    String tape = "";
    int fault = NONE;
    int place = NONE;

    static int there(Scene s, int house) {
        int n = 0;
        for (Clown c : s.clowns) {
            n += c.at == house ? 1 : 0;
        }
        return n;
    }

    Sum law(int text, String name) {
        return text < 0 ? null : w.texts.get(text).laws.get(name);
    }

    static int cut(long v, int high) {
        return (int) (v < 0 ? 0 : v > high ? high : v);
    }

    static Env env(Scene s, int house, int clown, int kind) {
        Env e = new Env();
        e.scene = s;
        e.house = house;
        e.clown = clown;
        e.kind = kind;
        return e;
    }

    int eases(Scene s, int clown, int kind) {
        Sum law = law(w.ruling, "eases");
        Clown c = s.clowns.get(clown);
        return law == null ? c.skill + kind : cut(law.value(env(s, c.at, clown, kind)), 99);
    }

    int odds(Scene s, int clown, int kind) {
        Sum law = law(w.ruling, "laughs");
        Clown c = s.clowns.get(clown);
        return law == null ? s.houses.get(c.at).mood : cut(law.value(env(s, c.at, clown, kind)), 10);
    }

    int grows(Scene s, int text, int house) {
        Sum law = law(text, "grows");
        return law == null ? there(s, house) == 0 ? 1 : 0 : cut(law.value(env(s, house, -1, -1)), 9);
    }

    boolean isHouse(int h) {
        return h >= 0 && h < w.scene.houses.size();
    }

    boolean isClown(int c) {
        return c >= 0 && c < w.scene.clowns.size();
    }

    static boolean in(int v, int a, int b) {
        return v >= a && v <= b;
    }

    int house(int kind, int grief) {
        if (!in(kind, 0, 3) || !in(grief, 0, 99) || w.scene.houses.size() == 6) {
            return NONE;
        }
        House h = new House();
        h.kind = kind;
        h.grief = grief;
        w.scene.houses.add(h);
        return w.scene.houses.size() - 1;
    }

    int clown(int skill, int age) {
        if (!in(skill, 1, 9) || !in(age, 0, 99) || w.scene.clowns.size() == 5) {
            return NONE;
        }
        Clown c = new Clown();
        c.skill = skill;
        c.age = age;
        w.scene.clowns.add(c);
        return w.scene.clowns.size() - 1;
    }

    boolean mood(int fall, int from, int to) {
        if (!in(fall, 0, 4) || !in(from, 0, 9) || !in(to, 0, 9)) {
            return false;
        }
        w.moods[fall][from] = to;
        return true;
    }

    int feed(int a, int b, int c, int d, int e) {
        if (tape.length() + 20 > 300) {
            return NONE;
        }
        StringBuilder s = new StringBuilder(tape);
        for (int v : new int[] {a, b, c, d, e}) {
            s.append((char) (v >>> 24)).append((char) (v >>> 16 & 255)).append((char) (v >>> 8 & 255))
                    .append((char) (v & 255));
        }
        tape = s.toString();
        return tape.length();
    }

    int end(int n) {
        if (n < 0 || n > tape.length()) {
            return NONE;
        }
        tape = tape.substring(0, n);
        return n;
    }

    int text() {
        if (w.texts.size() == 4) {
            return NONE;
        }
        String read = tape;
        tape = "";
        try {
            w.texts.add(new Parser(read).script());
            fault = 0;
            place = NONE;
            return w.texts.size() - 1;
        } catch (Fault f) {
            fault = f.what;
            place = f.place;
            return NONE;
        }
    }

    int fault(int what) {
        return what == 0 ? fault : what == 1 ? place : NONE;
    }

    boolean by(int text) {
        if (text < -1 || text >= w.texts.size()) {
            return false;
        }
        w.ruling = text;
        return true;
    }

    void step() {
        w.steps.add(w.scene.copy());
        if (w.steps.size() > 30) {
            w.steps.remove(0);
        }
    }

    boolean canSend(int clown, int house) {
        return isClown(clown) && isHouse(house) && w.scene.clowns.get(clown).at != house;
    }

    boolean send(int clown, int house) {
        if (!canSend(clown, house)) {
            return false;
        }
        step();
        w.scene.clowns.get(clown).at = house;
        return true;
    }

    boolean canFall(int clown, int fall) {
        return isClown(clown) && in(fall, 0, 4) && w.scene.clowns.get(clown).at >= 0
                && w.scene.clowns.get(clown).tired < 9;
    }

    int draw() {
        int x = w.scene.x;
        w.scene.x = (int) ((long) x * 419 + 293) % 30529;
        return x;
    }

    void doFall(int clown, int fall) {
        Clown c = w.scene.clowns.get(clown);
        House h = w.scene.houses.get(c.at);
        h.grief = Math.max(0, h.grief - eases(w.scene, clown, fall));
        h.mood = w.moods[fall][h.mood];
        if (draw() % 10 < odds(w.scene, clown, fall)) {
            h.laughed = Math.min(99, h.laughed + 1);
            if (h.clock < 0) {
                h.clock = clown;
            }
            w.scene.book.add(new int[] {w.scene.day, c.at, clown});
            if (w.scene.book.size() > 30) {
                w.scene.book.remove(0);
            }
        }
        c.tired++;
        c.falls = Math.min(9999, c.falls + 1);
    }

    int fall(int clown, int fall) {
        if (!canFall(clown, fall)) {
            return NONE;
        }
        step();
        doFall(clown, fall);
        return w.scene.houses.get(w.scene.clowns.get(clown).at).mood;
    }

    boolean rest(int clown) {
        if (!isClown(clown) || w.scene.clowns.get(clown).at < 0) {
            return false;
        }
        step();
        w.scene.clowns.get(clown).at = -1;
        return true;
    }

    void doDay(Scene s) {
        int[] more = new int[s.houses.size()];
        for (int h = 0; h < more.length; h++) {
            more[h] = grows(s, w.ruling, h);
        }
        for (int h = 0; h < more.length; h++) {
            s.houses.get(h).grief = Math.min(99, s.houses.get(h).grief + more[h]);
        }
        for (Clown c : s.clowns) {
            c.tired = Math.max(0, c.tired - (c.at < 0 ? 3 : 1));
        }
        s.day++;
    }

    int day(int n) {
        if (!in(n, 1, 60) || w.scene.day + n > 9999) {
            return NONE;
        }
        for (int i = 0; i < n; i++) {
            step();
            doDay(w.scene);
        }
        return w.scene.day;
    }

    int played(int text) {
        if (text < 0 || text >= w.texts.size()) {
            return -2;
        }
        List<Object[]> clauses = w.texts.get(text).clauses;
        for (int i = 0; i < clauses.size(); i++) {
            Object[] c = clauses.get(i);
            int a = (Integer) c[1];
            int b = (Integer) c[2];
            int d = (Integer) c[3];
            boolean done = true;
            switch ((String) c[0]) {
                case "house": done = house(a, b) >= 0; break;
                case "clown": done = clown(a, b) >= 0; break;
                case "mood": done = mood(b, a, d); break;
                case "send": done = send(a, b); break;
                case "fall": done = fall(b, a) >= 0; break;
                case "rest": done = rest(a); break;
                case "day":
                    for (int k = 0; k < a; k++) {
                        done &= day(1) >= 0;
                    }
                    break;
                default: break;
            }
            if (!done) {
                return i;
            }
        }
        return NONE;
    }

    int decades(int seed, int n) {
        if (!in(seed, 0, 9999) || !in(n, 1, 40)) {
            return NONE;
        }
        step();
        Scene s = w.scene;
        s.x = seed * 2 + 179;
        for (int k = 0; k < n; k++) {
            int x = draw();
            int clown = s.clowns.isEmpty() ? -1 : x % s.clowns.size();
            int house = s.houses.isEmpty() ? -1 : x / 6 % s.houses.size();
            switch (x % 6) {
                case 0:
                    if (canSend(clown, house)) {
                        s.clowns.get(clown).at = house;
                    }
                    break;
                case 4:
                    if (x % 8 == 0 && isClown(clown)) {
                        s.clowns.get(clown).at = -1;
                    }
                    break;
                case 5:
                    if (s.day < 9999) {
                        doDay(s);
                    }
                    break;
                default:
                    if (canFall(clown, x % 5)) {
                        doFall(clown, x % 5);
                    }
                    break;
            }
        }
        return s.day;
    }

    int undo() {
        if (w.steps.isEmpty()) {
            return NONE;
        }
        Scene then = w.steps.remove(w.steps.size() - 1);
        for (int h = then.houses.size(); h < w.scene.houses.size(); h++) {
            then.houses.add(w.scene.houses.get(h));
        }
        for (int c = then.clowns.size(); c < w.scene.clowns.size(); c++) {
            then.clowns.add(w.scene.clowns.get(c));
        }
        w.scene = then;
        return w.steps.size();
    }

    int of(int house, int what) {
        if (!isHouse(house) || !in(what, 0, 6)) {
            return -2;
        }
        House h = w.scene.houses.get(house);
        int bits = 0;
        for (int c = 0; c < w.scene.clowns.size(); c++) {
            bits |= w.scene.clowns.get(c).at == house ? 1 << c : 0;
        }
        return new int[] {h.kind, h.grief, h.mood, h.clock, h.laughed, grows(w.scene, w.ruling, house), bits}[what];
    }

    int ofClown(int clown, int what) {
        if (!isClown(clown) || !in(what, 0, 4)) {
            return -2;
        }
        Clown c = w.scene.clowns.get(clown);
        return new int[] {c.skill, c.age, c.tired, c.at, c.falls}[what];
    }

    boolean out(int clown) {
        return isClown(clown) && w.scene.clowns.get(clown).at >= 0;
    }

    int eased(int clown, int fall) {
        return out(clown) && in(fall, 0, 4) ? eases(w.scene, clown, fall) : NONE;
    }

    int laughs(int clown, int fall) {
        if (!out(clown) || !in(fall, 0, 4)) {
            return NONE;
        }
        Scene s = w.scene.copy();
        House h = s.houses.get(s.clowns.get(clown).at);
        h.grief = Math.max(0, h.grief - eases(s, clown, fall));
        h.mood = w.moods[fall][h.mood];
        return odds(s, clown, fall);
    }

    int is(int what) {
        return what == 0 ? w.scene.day : what == 1 ? w.scene.x : -2;
    }

    int book(int i, int what) {
        if (i == NONE) {
            return w.scene.book.size();
        }
        return in(i, 0, w.scene.book.size() - 1) && in(what, 0, 2) ? w.scene.book.get(i)[what] : -2;
    }

    int foretold(int n, int house) {
        if (!in(n, 1, 60) || !isHouse(house)) {
            return NONE;
        }
        Scene s = w.scene.copy();
        for (int k = 0; k < n; k++) {
            if (s.day < 9999) {
                doDay(s);
            }
        }
        return s.houses.get(house).grief;
    }

    int heavy(int grief) {
        if (!in(grief, 0, 600)) {
            return NONE;
        }
        Scene s = w.scene.copy();
        for (int k = 0; k <= 60; k++) {
            int sum = 0;
            for (House h : s.houses) {
                sum += h.grief;
            }
            if (sum >= grief) {
                return k;
            }
            if (s.day == 9999) {
                return NONE;
            }
            doDay(s);
        }
        return NONE;
    }

    int told(int fall, int from) {
        return in(fall, 0, 4) && in(from, 0, 9) ? w.moods[fall][from] : NONE;
    }

    static int pick(String path, int i) {
        if (path == null) {
            return -2;
        }
        return i == NONE ? path.length() : in(i, 0, path.length() - 1) ? path.charAt(i) - '0' : -2;
    }

    int order(int house, int i) {
        if (!isHouse(house)) {
            return -2;
        }
        // best[m]: the lowest of the shortest ways from m to 9, made better until nothing changes
        String[] best = new String[10];
        best[9] = "";
        for (int round = 0; round < 20; round++) {
            for (int m = 0; m < 10; m++) {
                for (int f = 0; f < 5; f++) {
                    String rest = best[w.moods[f][m]];
                    best[m] = better(best[m], rest == null ? null : f + rest);
                }
            }
        }
        return pick(best[w.scene.houses.get(house).mood], i);
    }

    static String better(String a, String b) {
        if (a == null || b == null) {
            return a == null ? b : a;
        }
        if (a.length() != b.length()) {
            return a.length() < b.length() ? a : b;
        }
        return a.compareTo(b) <= 0 ? a : b;
    }

    int all(int i) {
        Map<Integer, String> ways = new HashMap<>();
        ways.put(1023, "");
        String found = null;
        List<Integer> layer = new ArrayList<>();
        layer.add(1023);
        for (int n = 1; n <= 20 && found == null; n++) {
            Map<Integer, String> fresh = new HashMap<>();
            for (int set : layer) {
                for (int f = 0; f < 5; f++) {
                    int to = 0;
                    for (int m = 0; m < 10; m++) {
                        to |= (set >> m & 1) << w.moods[f][m];
                    }
                    if (!ways.containsKey(to)) {
                        fresh.put(to, better(fresh.get(to), ways.get(set) + f));
                    }
                }
            }
            ways.putAll(fresh);
            layer = new ArrayList<>(fresh.keySet());
            for (int m = 0; m < 10; m++) {
                found = better(found, fresh.get(1 << m));
            }
        }
        return pick(found, i);
    }

    private Map<Integer, String> eases;

    String comforting(Scene s, int clown, int g) {
        Clown c = s.clowns.get(clown);
        House h = s.houses.get(c.at);
        if (h.grief <= g) {
            return "";
        }
        if (c.tired >= 9) {
            return null;
        }
        int key = (c.tired * 10 + h.mood) * 100 + h.grief;
        if (eases.containsKey(key)) {
            return eases.get(key);
        }
        String best = null;
        for (int f = 0; f < 5; f++) {
            Scene t = s.copy();
            House th = t.houses.get(c.at);
            th.grief = Math.max(0, th.grief - eases(s, clown, f));
            th.mood = w.moods[f][th.mood];
            t.clowns.get(clown).tired++;
            String rest = comforting(t, clown, g);
            best = better(best, rest == null ? null : f + rest);
        }
        eases.put(key, best);
        return best;
    }

    int comfort(int clown, int g, int i) {
        if (!out(clown) || !in(g, 0, 99)) {
            return -2;
        }
        eases = new HashMap<>();
        return pick(comforting(w.scene, clown, g), i);
    }

    int ring(int fall) {
        if (!in(fall, 0, 4)) {
            return NONE;
        }
        int bits = 0;
        for (int m = 0; m < 10; m++) {
            int t = m;
            for (int k = 0; k < 10; k++) {
                t = w.moods[fall][t];
                bits |= t == m ? 1 << m : 0;
            }
        }
        return bits;
    }

    boolean cost(int clown, int house, int cost) {
        if (!in(clown, 0, 4) || !in(house, 0, 5) || !in(cost, 0, 99)) {
            return false;
        }
        w.costs[clown][house] = cost;
        return true;
    }

    int matched(int clown) {
        if (clown != NONE && !isClown(clown)) {
            return -2;
        }
        int clowns = w.scene.clowns.size();
        int houses = w.scene.houses.size();
        int[] best = null;
        int bestCost = 0;
        int codes = 1;
        for (int c = 0; c < clowns; c++) {
            codes *= houses + 1;
        }
        // all ways to say a house or none (behind all) of each clown, the first clown's the highest digit
        for (int code = 0; code < codes; code++) {
            int[] goes = new int[clowns];
            int left = code;
            int used = 0;
            int count = 0;
            int cost = 0;
            boolean fine = true;
            for (int c = clowns - 1; c >= 0; c--) {
                goes[c] = left % (houses + 1);
                left /= houses + 1;
                if (goes[c] < houses) {
                    fine &= (used >> goes[c] & 1) == 0;
                    used |= 1 << goes[c];
                    count++;
                    cost += w.costs[c][goes[c]];
                }
            }
            if (fine && count == Math.min(clowns, houses) && (best == null || cost < bestCost)) {
                best = goes;
                bestCost = cost;
            }
        }
        return clown == NONE ? bestCost : best[clown] == houses ? NONE : best[clown];
    }

    int bore(int grief, boolean laughed) {
        if (grief == NONE) {
            w.trials.clear();
            return 0;
        }
        if (!in(grief, 0, 99) || w.trials.size() == 8) {
            return -2;
        }
        w.trials.add(new int[] {grief, laughed ? 1 : 0});
        return w.trials.size();
    }

    List<Integer> borne(int[] least) {
        List<Integer> best = new ArrayList<>();
        least[0] = 99;
        for (int b = 0; b <= 100; b++) {
            int wrong = 0;
            for (int[] t : w.trials) {
                wrong += (t[0] < b) != (t[1] == 1) ? 1 : 0;
            }
            if (wrong < least[0]) {
                best.clear();
                least[0] = wrong;
            }
            if (wrong == least[0]) {
                best.add(b);
            }
        }
        return best;
    }

    int bears(int what) {
        int[] least = new int[1];
        List<Integer> best = borne(least);
        return what == 0 ? least[0] : what == 1 ? best.get(0) : what == 2 ? best.get(best.size() - 1) : -2;
    }

    int next(int high) {
        if (!in(high, 0, 99)) {
            return NONE;
        }
        List<Integer> best = borne(new int[1]);
        int found = NONE;
        double off = 1e9;
        for (int g = 0; g <= high; g++) {
            int laugh = 0;
            for (int b : best) {
                laugh += g < b ? 1 : 0;
            }
            double d = Math.abs(laugh - best.size() / 2.0);
            if (laugh != 0 && laugh != best.size() && d < off) {
                off = d;
                found = g;
            }
        }
        return found;
    }

    boolean worth(int clowns, int worth) {
        if (!in(clowns, 1, 15) || !in(worth, 0, 999)) {
            return false;
        }
        w.worth[clowns] = worth;
        return true;
    }

    private static void orders(int n, List<Integer> begun, List<List<Integer>> into) {
        if (begun.size() == n) {
            into.add(new ArrayList<>(begun));
        }
        for (int k = 0; k < n; k++) {
            if (!begun.contains(k)) {
                begun.add(k);
                orders(n, begun, into);
                begun.remove(begun.size() - 1);
            }
        }
    }

    static int lowest(BigInteger up, BigInteger down, boolean low) {
        BigInteger g = up.gcd(down);
        return (low ? down.divide(g) : up.divide(g)).intValueExact();
    }

    int share(int clown, int of, boolean low) {
        if (!in(of, 1, 4) || !in(clown, 0, of - 1)) {
            return NONE;
        }
        List<List<Integer>> orders = new ArrayList<>();
        orders(of, new ArrayList<>(), orders);
        long sum = 0;
        for (List<Integer> order : orders) {
            int set = 0;
            for (int c : order) {
                if (c == clown) {
                    sum += w.worth[set | 1 << c] - w.worth[set];
                }
                set |= 1 << c;
            }
        }
        return lowest(BigInteger.valueOf(sum), BigInteger.valueOf(orders.size()), low);
    }

    int stays(int p, int pay, int c, int what) {
        if (!in(p, 0, 10) || !in(pay, 0, 999) || !in(c, 0, 99) || !in(what, 0, 2)) {
            return -100000;
        }
        BigInteger all = BigInteger.TEN.pow(6);
        BigInteger best = null;
        int hours = 0;
        for (int h = 0; h <= 6; h++) {
            // of all ends: it laughs in hour k, or in none of the h
            BigInteger mean = BigInteger.ZERO;
            BigInteger left = all;
            long paid = 0;
            for (int k = 1; k <= h; k++) {
                paid += (long) k * c;
                BigInteger laugh = left.multiply(BigInteger.valueOf(p)).divide(BigInteger.TEN);
                mean = mean.add(laugh.multiply(BigInteger.valueOf(pay - paid)));
                left = left.subtract(laugh);
            }
            mean = mean.subtract(left.multiply(BigInteger.valueOf(paid)));
            if (best == null || mean.compareTo(best) > 0) {
                best = mean;
                hours = h;
            }
        }
        return what == 0 ? hours : lowest(best, all, what == 2);
    }

    boolean behind(int fall, int other) {
        if (!in(fall, 0, 4) || !in(other, 0, 4) || fall == other || w.behind[fall][other]) {
            return false;
        }
        w.behind[fall][other] = true;
        return true;
    }

    int lessons(int i) {
        List<List<Integer>> orders = new ArrayList<>();
        orders(5, new ArrayList<>(), orders);
        orders.removeIf(order -> {
            for (int f = 0; f < 5; f++) {
                for (int o = 0; o < 5; o++) {
                    if (w.behind[f][o] && order.indexOf(f) < order.indexOf(o)) {
                        return true;
                    }
                }
            }
            return false;
        });
        if (i == NONE) {
            return orders.size();
        }
        return !orders.isEmpty() && in(i, 0, 4) ? orders.get(0).get(i) : -2;
    }

    int grown(int house, int by) {
        if (house == NONE) {
            w.grown.clear();
            return 0;
        }
        if (!isHouse(house) || !in(by, 0, 9) || w.grown.size() == 8) {
            return -2;
        }
        w.grown.add(new int[] {house, by});
        return w.grown.size();
    }

    int whose() {
        int bits = 0;
        for (int t = 0; t < w.texts.size(); t++) {
            boolean so = true;
            for (int[] g : w.grown) {
                so &= grows(w.scene, t, g[0]) == g[1];
            }
            bits |= so ? 1 << t : 0;
        }
        return bits;
    }

    int clocks(int clown) {
        if (!isClown(clown)) {
            return NONE;
        }
        int bits = 0;
        for (int h = 0; h < w.scene.houses.size(); h++) {
            bits |= w.scene.houses.get(h).clock == clown ? 1 << h : 0;
        }
        return bits;
    }

    int saddest() {
        int best = NONE;
        for (int h = w.scene.houses.size() - 1; h >= 0; h--) {
            if (best == NONE || w.scene.houses.get(h).grief >= w.scene.houses.get(best).grief) {
                best = h;
            }
        }
        return best;
    }

    int tiredest() {
        int best = NONE;
        for (int c = w.scene.clowns.size() - 1; c >= 0; c--) {
            if (best == NONE || w.scene.clowns.get(c).tired >= w.scene.clowns.get(best).tired) {
                best = c;
            }
        }
        return best;
    }

    int sitting() {
        int bits = 0;
        for (int c = 0; c < w.scene.clowns.size(); c++) {
            bits |= out(c) && w.scene.clowns.get(c).tired == 9 ? 1 << c : 0;
        }
        return bits;
    }

    int ledger(int clown) {
        if (clown != NONE && !isClown(clown)) {
            return -2;
        }
        int n = 0;
        for (int[] line : w.scene.book) {
            n += clown == NONE || line[2] == clown ? 1 : 0;
        }
        return n;
    }

    int image() {
        image = w.copy();
        return w.scene.day;
    }

    int back() {
        w = image.copy();
        return w.scene.day;
    }

    int about(int what) {
        if (!in(what, 0, 7)) {
            return -2;
        }
        return new int[] {w.scene.houses.size(), w.scene.clowns.size(), w.texts.size(), w.ruling, w.steps.size(),
            w.trials.size(), w.grown.size(), tape.length()}[what];
    }
}
