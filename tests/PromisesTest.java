/** Each promise by hand: what is ordinary, the edges that the document names, and wrong inputs. */
public final class PromisesTest {
    private static final int NONE = ClownsMourn.NONE;
    private static int wrong = 0;
    private static int checked = 0;
    private static int promise = 0;

    public static void main(String[] args) {
        newObject();
        houses();
        clowns();
        moods();
        tape();
        texts();
        faultsOfTokens();
        faultsOfNumbers();
        faultsOfNesting();
        faultsOfClauses();
        faultOfTheLatest();
        byText();
        sends();
        falls();
        manyFalls();
        rests();
        days();
        lastDay();
        plays();
        decades();
        undoes();
        looksAtHouses();
        looksAtClowns();
        easesAndLaughs();
        sums();
        theBook();
        foretells();
        orders();
        forAll();
        comforts();
        rings();
        matches();
        bears();
        nextTrial();
        shares();
        stays();
        lessons();
        whoseLaw();
        clocksAndOthers();
        images();
        about();
        System.out.println(checked + " answers, " + wrong + " wrong");
        if (wrong != 0) {
            System.exit(1);
        }
    }

    private static void due(String call, long got, long want) {
        checked++;
        if (got != want) {
            wrong++;
            System.out.println("promise " + promise + ": " + call + " answered " + got + ", due is " + want);
        }
    }

    private static void due(String call, boolean got, boolean want) {
        due(call, got ? 1 : 0, want ? 1 : 0);
    }

    private static void write(ClownsMourn x, String s) {
        x.end(0);
        for (int i = 0; i < s.length(); i += 20) {
            int[] v = new int[5];
            for (int k = 0; k < 20; k++) {
                int c = i + k < s.length() ? s.charAt(i + k) : 0;
                v[k / 4] = v[k / 4] << 8 | c;
            }
            x.feed(v[0], v[1], v[2], v[3], v[4]);
        }
        x.end(s.length());
    }

    private static int read(ClownsMourn x, String s) {
        write(x, s);
        return x.text();
    }

    private static void faulty(String s, int what, int place) {
        ClownsMourn x = new ClownsMourn();
        due("text of '" + s + "'", read(x, s), what == 0 ? 0 : NONE);
        due("fault(0) of '" + s + "'", x.fault(0), what);
        due("fault(1) of '" + s + "'", x.fault(1), place);
    }

    private static String times(String s, int n) {
        return s.repeat(n);
    }

    /** Houses 0 (father, 40) and 1 (uncle, 10), clowns 0 (skill 3, 20) and 1 (skill 5, 60). */
    private static ClownsMourn city() {
        ClownsMourn x = new ClownsMourn();
        x.house(0, 40);
        x.house(2, 10);
        x.clown(3, 20);
        x.clown(5, 60);
        return x;
    }

    private static ClownsMourn ruled(String s) {
        ClownsMourn x = city();
        read(x, s);
        x.by(0);
        return x;
    }

    private static void newObject() {
        promise = 1;
        ClownsMourn x = new ClownsMourn();
        for (int what = 0; what < 8; what++) {
            due("about(" + what + ")", x.about(what), what == 3 ? NONE : 0);
        }
        due("is(0)", x.is(0), 0);
        due("is(1)", x.is(1), 179);
        for (int f = 0; f < 5; f++) {
            for (int m = 0; m < 10; m++) {
                due("told(" + f + ", " + m + ")", x.told(f, m), (m + f + 1) % 10);
            }
        }
        x.house(0, 1);
        x.clown(1, 1);
        x.cost(0, 0, 3);
        x.worth(1, 9);
        x.mood(0, 0, 5);
        x.day(3);
        due("back() to what is new", x.back(), 0);
        due("about(0)", x.about(0), 0);
        due("about(1)", x.about(1), 0);
        due("about(4)", x.about(4), 0);
        due("told(0, 0)", x.told(0, 0), 1);
        due("share(0, 1)", x.share(0, 1, false), 0);
    }

    private static void houses() {
        promise = 2;
        ClownsMourn x = new ClownsMourn();
        due("house(-1, 0)", x.house(-1, 0), NONE);
        due("house(4, 0)", x.house(4, 0), NONE);
        due("house(0, -1)", x.house(0, -1), NONE);
        due("house(0, 100)", x.house(0, 100), NONE);
        due("about(0)", x.about(0), 0);
        for (int i = 0; i < 6; i++) {
            due("house " + i, x.house(i % 4, i == 0 ? 99 : i), i);
        }
        due("the seventh house", x.house(0, 0), NONE);
        due("about(0)", x.about(0), 6);
        due("of(0, 1)", x.of(0, 1), 99);
        due("of(5, 0)", x.of(5, 0), 1);
    }

    private static void clowns() {
        promise = 3;
        ClownsMourn x = new ClownsMourn();
        due("clown(0, 0)", x.clown(0, 0), NONE);
        due("clown(10, 0)", x.clown(10, 0), NONE);
        due("clown(1, -1)", x.clown(1, -1), NONE);
        due("clown(1, 100)", x.clown(1, 100), NONE);
        for (int i = 0; i < 5; i++) {
            due("clown " + i, x.clown(i == 4 ? 9 : 1, i == 4 ? 99 : 0), i);
        }
        due("the sixth clown", x.clown(1, 1), NONE);
        due("ofClown(4, 0)", x.ofClown(4, 0), 9);
        due("ofClown(4, 1)", x.ofClown(4, 1), 99);
    }

    private static void moods() {
        promise = 4;
        ClownsMourn x = city();
        due("mood(-1, 0, 0)", x.mood(-1, 0, 0), false);
        due("mood(5, 0, 0)", x.mood(5, 0, 0), false);
        due("mood(0, -1, 0)", x.mood(0, -1, 0), false);
        due("mood(0, 10, 0)", x.mood(0, 10, 0), false);
        due("mood(0, 0, -1)", x.mood(0, 0, -1), false);
        due("mood(0, 0, 10)", x.mood(0, 0, 10), false);
        due("mood(4, 9, 9)", x.mood(4, 9, 9), true);
        due("mood(0, 0, 7)", x.mood(0, 0, 7), true);
        x.send(0, 0);
        due("fall(0, 0)", x.fall(0, 0), 7);
        promise = 25;
        due("told(4, 9)", x.told(4, 9), 9);
        due("told(0, 0)", x.told(0, 0), 7);
        due("told(4, 8)", x.told(4, 8), 3);
        due("told(-1, 0)", x.told(-1, 0), NONE);
        due("told(5, 0)", x.told(5, 0), NONE);
        due("told(0, -1)", x.told(0, -1), NONE);
        due("told(0, 10)", x.told(0, 10), NONE);
    }

    private static void tape() {
        promise = 5;
        ClownsMourn x = new ClownsMourn();
        for (int i = 1; i <= 15; i++) {
            due("feed", x.feed(0x20202020, 0x20202020, 0x20202020, 0x20202020, 0x20202020), i * 20);
        }
        due("feed beyond 300", x.feed(0, 0, 0, 0, 0), NONE);
        due("about(7)", x.about(7), 300);
        promise = 6;
        due("end(301)", x.end(301), NONE);
        due("end(-1)", x.end(-1), NONE);
        due("about(7)", x.about(7), 300);
        due("end(300)", x.end(300), 300);
        due("end(281)", x.end(281), 281);
        promise = 5;
        due("feed beyond 300", x.feed(0, 0, 0, 0, 0), NONE);
        due("about(7)", x.about(7), 281);
        promise = 6;
        due("end(282)", x.end(282), NONE);
        due("end(280)", x.end(280), 280);
        promise = 5;
        due("feed to 300", x.feed('r' << 24 | 'e' << 16 | 's' << 8 | 't', '0' << 24 | ';' << 16 | '?' << 8, 0, 0, 0), 300);
        due("text()", x.text(), NONE);
        due("fault(1): the highest byte is the first", x.fault(1), 286);
        promise = 6;
        due("end(0)", x.end(0), 0);
        due("end(1)", x.end(1), NONE);
        x.feed('r' << 24 | 'e' << 16 | 's' << 8 | 't', '0' << 24 | '0' << 16 | ';' << 8 | ';', 0, 0, 0);
        x.end(5);
        x.feed(';' << 24, 0, 0, 0, 0);
        x.end(6);
        due("text(): bytes that were cut off are gone", x.text(), 0);
        write(x, "eases if 1<=");
        x.end(11);
        due("text()", x.text(), NONE);
        due("fault(1): the end, not what was cut off", x.fault(1), 11);
    }

    private static void texts() {
        promise = 7;
        ClownsMourn x = new ClownsMourn();
        due("text() of nothing", x.text(), 0);
        due("text()", read(x, " \n "), 1);
        due("text()", read(x, "rest 5;"), NONE);
        due("about(7): read, so empty", x.about(7), 0);
        due("about(2)", x.about(2), 2);
        due("text()", read(x, "rest 4;"), 2);
        due("about(7)", x.about(7), 0);
        due("text()", read(x, "eases 1;laughs 2;grows 3;"), 3);
        write(x, "rest 5;");
        due("text() beyond 4", x.text(), NONE);
        due("about(7): the tape stays", x.about(7), 7);
        promise = 8;
        due("fault(0): it wasn't read", x.fault(0), 0);
        due("fault(1)", x.fault(1), NONE);
    }

    private static void faultsOfTokens() {
        promise = 7;
        faulty("", 0, NONE);
        faulty("rest", 1, 4);
        faulty("rest  ", 1, 6);
        faulty("rest 0", 1, 6);
        faulty("rest 0\n\n", 1, 8);
        faulty("rest 0;;", 1, 7);
        faulty("Rest 0;", 1, 0);
        faulty("restx 0;", 1, 0);
        faulty("restA 0;", 1, 0);
        faulty("restZ 0;", 1, 0);
        faulty("resta 0;", 1, 0);
        faulty("restz 0;", 1, 0);
        faulty("rest@0;", 1, 4);
        faulty("rest[0;", 1, 4);
        faulty("rest`0;", 1, 4);
        faulty("rest{0;", 1, 4);
        faulty("rest/0;", 1, 4);
        faulty("rest:0;", 1, 4);
        faulty("rest0;", 0, NONE);
        faulty("rest\t0;", 1, 4);
        faulty("rest 0\r;", 1, 6);
        faulty("eases !;", 1, 6);
        faulty("eases \u00e9;", 1, 6);
        faulty("eases 1 !;", 1, 8);
        faulty("rest 0; !", 1, 8);
        faulty("eases;", 1, 5);
        faulty("eases 1 2;", 1, 8);
        faulty("eases 1 99999;", 1, 8);
        faulty("eases +1;", 1, 6);
        faulty("eases 1+;", 1, 8);
        faulty("eases 1*-2;", 0, NONE);
        faulty("eases 1--2;", 0, NONE);
        faulty("eases (1;", 1, 8);
        faulty("eases 1);", 1, 7);
        faulty("eases ();", 1, 7);
        faulty("eases foo;", 1, 6);
        faulty("eases eases;", 1, 6);
        faulty("eases grow;", 1, 6);
        faulty("eases then;", 1, 6);
        faulty("eases not 1<2;", 1, 6);
        faulty("eases hold 1+2 from 3 to 4;", 1, 12);
        faulty("eases hold 1 to 3 from 4;", 1, 13);
        faulty("eases hold 1 from 3 4;", 1, 20);
        faulty("eases hold 1 from -3 to(4);", 0, NONE);
        faulty("eases if (1<2) then 1 else 2 end;", 1, 11);
        faulty("eases if 1<2<3 then 1 else 2 end;", 1, 12);
        faulty("eases if 1< =2 then 1 else 2 end;", 1, 12);
        faulty("eases if 1<=2 then 1 else 2 end;", 0, NONE);
        faulty("eases if 1<=", 1, 12);
        faulty("eases if 1<", 1, 11);
        faulty("eases if 1=<2 then 1 else 2 end;", 1, 11);
        faulty("eases if 1<2 and not 3#4 or 5=6 then 1 else 2 end;", 0, NONE);
        faulty("eases if 1<2 and then 1 else 2 end;", 1, 17);
        faulty("eases if 1<2 then 1 end;", 1, 20);
        faulty("eases if 1<2 then 1 else 2;", 1, 26);
        faulty("eases if 1<2 else 1 then 2 end;", 1, 13);
        faulty("house 0 age 1;", 1, 8);
        faulty("house x grief 1;", 1, 6);
        faulty("clown 1 grief 1;", 1, 8);
        faulty("mood 0 to 1 by 2;", 1, 7);
        faulty("mood 0 by 1;", 1, 11);
        faulty("fall 0 to 1;", 1, 7);
        faulty("day -1;", 1, 4);
        faulty("send 0 to 0 send 0 to 1;", 1, 12);
        faulty("grows day+kind+grief+mood+laughed+house+there;", 0, NONE);
        faulty("eases skill+age+tired+fall+who;laughs skill+age+tired+fall+who;", 0, NONE);
    }

    private static void faultsOfNumbers() {
        promise = 7;
        faulty("house 3 grief 99;", 0, NONE);
        faulty("house 4 grief 0;", 2, 6);
        faulty("house 0 grief 100;", 2, 14);
        faulty("clown 9 age 99;", 0, NONE);
        faulty("clown 0 age 0;", 2, 6);
        faulty("clown 10 age 0;", 2, 6);
        faulty("clown 1 age 100;", 2, 12);
        faulty("mood 9 by 4 to 9;", 0, NONE);
        faulty("mood 10 by 0 to 0;", 2, 5);
        faulty("mood 0 by 5 to 0;", 2, 10);
        faulty("mood 0 by 0 to 10;", 2, 15);
        faulty("send 4 to 5;", 0, NONE);
        faulty("send 5 to 0;", 2, 5);
        faulty("send 0 to 6;", 2, 10);
        faulty("fall 4 by 4;", 0, NONE);
        faulty("fall 5 by 0;", 2, 5);
        faulty("fall 0 by 5;", 2, 10);
        faulty("rest 5;", 2, 5);
        faulty("day 1;day 60;", 0, NONE);
        faulty("day 0;", 2, 4);
        faulty("day 61;", 2, 4);
        faulty("eases 9999;", 0, NONE);
        faulty("eases 10000;", 2, 6);
        faulty("eases 00000009999;", 0, NONE);
        faulty("eases 99999999999999999999;", 2, 6);
        faulty("rest 4294967296;", 2, 5);
        faulty("rest 0000000000004;", 0, NONE);
    }

    private static void faultsOfNesting() {
        promise = 7;
        faulty("eases " + times("(", 8) + "1" + times(")", 8) + ";", 0, NONE);
        faulty("eases " + times("(", 9) + "1" + times(")", 9) + ";", 3, 14);
        faulty("eases " + times("-", 8) + "1;", 0, NONE);
        faulty("eases " + times("-", 9) + "1;", 3, 14);
        faulty("eases 1" + times("-", 9) + "1;", 0, NONE);
        faulty("eases 1" + times("-", 10) + "1;", 3, 16);
        faulty("eases " + times("moods ", 8) + "1;", 0, NONE);
        faulty("eases " + times("moods ", 9) + "1;", 3, 54);
        faulty("eases " + times("hold ", 9) + "1;", 3, 46);
        faulty("eases " + times("if ", 9) + "1;", 3, 30);
        faulty("eases if " + times("not ", 7) + "1<2 then 1 else 2 end;", 0, NONE);
        faulty("eases if " + times("not ", 8) + "1<2 then 1 else 2 end;", 3, 37);
        faulty("eases if not 1<" + times("(", 7) + "2;", 3, 21);
        faulty("eases if not 1<2 and 1<" + times("(", 8) + "2;", 3, 30);
        faulty("eases " + times("(", 7) + "(1)+(1)" + times(")", 7) + ";", 0, NONE);
        faulty("eases hold 1 from 2 to " + times("(", 7) + "3" + times(")", 7) + "+" + times("(", 8) + "1"
                + times(")", 8) + ";", 0, NONE);
        faulty("eases hold 1 from 2 to " + times("(", 8) + "3;", 3, 30);
        faulty("eases if 1<2 then 1 else " + times("(", 8) + "3;", 3, 32);
        faulty("eases moods 1+" + times("-", 8) + "3;", 0, NONE);
        faulty("eases -1*" + times("-", 8) + "3;grows " + times("-", 8) + "3;", 0, NONE);
    }

    private static void faultsOfClauses() {
        promise = 7;
        faulty("eases 1;eases 2;", 4, 8);
        faulty("laughs 1;day 1;laughs 2;", 4, 15);
        faulty("grows 1;grows;", 4, 8);
        faulty("eases there;", 5, 6);
        faulty("laughs 1+there;", 5, 9);
        faulty("grows skill;", 5, 6);
        faulty("grows age;", 5, 6);
        faulty("grows tired;", 5, 6);
        faulty("grows fall;", 5, 6);
        faulty("grows who;", 5, 6);
        faulty("eases if there<1 then 1 else 2 end;", 5, 9);
        faulty("eases 1 there;", 1, 8);
        faulty(times("rest 0;", 24), 0, NONE);
        faulty(times("rest 0;", 25), 6, 168);
        faulty(times("rest 0;", 24) + "day", 6, 168);
        faulty(times("rest 0;", 24) + "kind", 1, 168);
        faulty(times("rest 0;", 24) + ";", 1, 168);
        faulty("grows 1;" + times("rest 0;", 23) + "grows 1;", 4, 169);
        faulty("grows 1;" + times("rest 0;", 23) + "eases 1;", 6, 169);
    }

    private static void faultOfTheLatest() {
        promise = 8;
        ClownsMourn x = new ClownsMourn();
        due("fault(0) ahead of any", x.fault(0), NONE);
        due("fault(1) ahead of any", x.fault(1), NONE);
        read(x, "day 0;");
        due("fault(0)", x.fault(0), 2);
        due("fault(1)", x.fault(1), 4);
        due("fault(2)", x.fault(2), NONE);
        due("fault(-1)", x.fault(-1), NONE);
        x.back();
        due("fault(0) isn't of the image", x.fault(0), 2);
        read(x, "day 1;");
        due("fault(0)", x.fault(0), 0);
        due("fault(1)", x.fault(1), NONE);
    }

    private static void byText() {
        promise = 9;
        ClownsMourn x = city();
        due("by(0)", x.by(0), false);
        due("by(NONE)", x.by(NONE), true);
        read(x, "grows 4;");
        due("of(0, 5): not told yet", x.of(0, 5), 1);
        due("by(0)", x.by(0), true);
        due("of(0, 5)", x.of(0, 5), 4);
        due("by(1)", x.by(1), false);
        due("by(-2)", x.by(-2), false);
        due("about(3)", x.about(3), 0);
        due("by(NONE)", x.by(NONE), true);
        due("of(0, 5)", x.of(0, 5), 1);
        due("about(4): no step", x.about(4), 0);
    }

    private static void sends() {
        promise = 10;
        ClownsMourn x = city();
        due("send(0, 2)", x.send(0, 2), false);
        due("send(2, 0)", x.send(2, 0), false);
        due("send(-1, 0)", x.send(-1, 0), false);
        due("send(0, NONE)", x.send(0, NONE), false);
        due("about(4)", x.about(4), 0);
        due("send(0, 1)", x.send(0, 1), true);
        due("send(0, 1)", x.send(0, 1), false);
        due("send(0, 0)", x.send(0, 0), true);
        due("send(1, 0)", x.send(1, 0), true);
        due("of(0, 6)", x.of(0, 6), 3);
        due("of(1, 6)", x.of(1, 6), 0);
        due("about(4)", x.about(4), 3);
    }

    private static void falls() {
        promise = 11;
        ClownsMourn x = city();
        due("fall in the yard", x.fall(0, 0), NONE);
        x.send(0, 0);
        due("fall(0, 5)", x.fall(0, 5), NONE);
        due("fall(0, -1)", x.fall(0, -1), NONE);
        due("fall(2, 0)", x.fall(2, 0), NONE);
        due("fall(-1, 0)", x.fall(-1, 0), NONE);
        due("is(1): no draw", x.is(1), 179);
        due("fall(0, 4)", x.fall(0, 4), 5);
        due("of(0, 1)", x.of(0, 1), 33);
        due("is(1)", x.is(1), 14236);
        due("of(0, 4): 179 mod 10 isn't below 5", x.of(0, 4), 0);
        due("ofClown(0, 2)", x.ofClown(0, 2), 1);
        due("ofClown(0, 4)", x.ofClown(0, 4), 1);
        due("fall(0, 1)", x.fall(0, 1), 7);
        due("of(0, 4): 14236 mod 10 is below 7", x.of(0, 4), 1);
        due("of(0, 3)", x.of(0, 3), 0);
        due("fall(0, 0)", x.fall(0, 0), 8);
        due("of(0, 4): 12022 mod 10 is below 8", x.of(0, 4), 2);
        for (int i = 0; i < 6; i++) {
            x.fall(0, 4);
        }
        due("ofClown(0, 2)", x.ofClown(0, 2), 9);
        due("of(0, 1): not below 0", x.of(0, 1), 0);
        int steps = x.about(4);
        due("fall of one who is TIRED 9", x.fall(0, 0), NONE);
        due("about(4)", x.about(4), steps);
        due("ofClown(0, 4)", x.ofClown(0, 4), 9);
        x.day(1);
        due("fall a day later", x.fall(0, 0) != NONE, true);

        ClownsMourn y = ruled("laughs if grief=37 and mood=1 and tired=0 and laughed=0 then 10 else 0 end;");
        y.send(0, 0);
        y.fall(0, 0);
        due("laughs: GRIEF and MOOD as then, TIRED and LAUGHED as yet", y.of(0, 4), 1);
        y.fall(0, 0);
        due("of(0, 4)", y.of(0, 4), 1);
        ClownsMourn z = ruled("laughs 9;");
        z.send(0, 0);
        z.fall(0, 0);
        due("a draw of 9 isn't below 9 (X ahead of it is 179)", z.of(0, 4), 0);
        ClownsMourn w = ruled("laughs 10;");
        w.send(0, 0);
        w.send(1, 0);
        w.fall(1, 0);
        w.fall(0, 0);
        due("CLOCK is the first", w.of(0, 3), 1);
        due("of(0, 4)", w.of(0, 4), 2);
        for (int i = 0; i < 110; i++) {
            w.fall(0, 0);
            w.day(1);
        }
        due("LAUGHED at most 99", w.of(0, 4), 99);
        due("book(NONE)", w.book(NONE, 0), 30);
    }

    private static void manyFalls() {
        promise = 18;
        ClownsMourn x = city();
        x.send(0, 0);
        read(x, times("fall 0 by 0;", 9) + "day 9;" + times("fall 0 by 0;", 9) + "day 9;" + times("fall 0 by 0;", 3)
                + "day 3;");
        for (int i = 0; i < 476; i++) {
            x.played(0);
        }
        due("ofClown(0, 4)", x.ofClown(0, 4), 9996);
        due("played(0): at its first day clause", x.played(0), 9);
        due("is(0)", x.is(0), 9999);
        due("ofClown(0, 4): 9999 at most", x.ofClown(0, 4), 9999);
    }

    private static void rests() {
        promise = 12;
        ClownsMourn x = city();
        due("rest in the yard", x.rest(0), false);
        due("rest(2)", x.rest(2), false);
        due("rest(-1)", x.rest(-1), false);
        x.send(0, 1);
        due("rest(0)", x.rest(0), true);
        due("ofClown(0, 3)", x.ofClown(0, 3), NONE);
        due("rest(0)", x.rest(0), false);
        due("about(4)", x.about(4), 2);
    }

    private static void days() {
        promise = 13;
        ClownsMourn x = city();
        due("day(0)", x.day(0), NONE);
        due("day(61)", x.day(61), NONE);
        due("day(-5)", x.day(-5), NONE);
        x.send(0, 0);
        x.send(1, 1);
        for (int i = 0; i < 7; i++) {
            x.fall(0, 0);
            x.fall(1, 0);
        }
        x.rest(1);
        due("of(0, 1)", x.of(0, 1), 19);
        due("of(1, 1)", x.of(1, 1), 0);
        due("day(2)", x.day(2), 2);
        due("of(0, 1): one is there", x.of(0, 1), 19);
        due("of(1, 1): nobody is", x.of(1, 1), 2);
        due("ofClown(0, 2)", x.ofClown(0, 2), 5);
        due("ofClown(1, 2)", x.ofClown(1, 2), 1);
        due("day(1)", x.day(1), 3);
        due("ofClown(1, 2): not below 0", x.ofClown(1, 2), 0);
        due("day(60)", x.day(60), 63);
        due("day(60)", x.day(60), 123);
        due("of(1, 1): 99 at most", x.of(1, 1), 99);
        due("ofClown(0, 2)", x.ofClown(0, 2), 0);
        ClownsMourn y = ruled("grows hold day from 0 to 3+house;");
        y.day(1);
        due("grows of DAY 0", y.of(0, 1), 40);
        y.day(2);
        due("grows of DAY 1, 2", y.of(0, 1), 43);
    }

    private static void lastDay() {
        promise = 13;
        ClownsMourn x = city();
        for (int i = 0; i < 166; i++) {
            x.day(60);
        }
        due("day(38)", x.day(38), 9998);
        due("day(2): beyond", x.day(2), NONE);
        due("is(0)", x.is(0), 9998);
        due("about(4)", x.about(4), 30);
        read(x, "rest 0;day 1;");
        read(x, "day 2;rest 0;");
        read(x, "grows 1;");
        x.house(0, 0);
        due("foretold(60, 2): those that can pass", x.foretold(60, 2), 1);
        due("heavy(199)", x.heavy(199), 1);
        due("heavy(200)", x.heavy(200), NONE);
        promise = 14;
        due("played(1): a day passes, the other can't", x.played(1), 0);
        promise = 13;
        due("is(0)", x.is(0), 9999);
        due("day(1)", x.day(1), NONE);
        due("foretold(1, 2)", x.foretold(1, 2), 1);
        due("heavy(199)", x.heavy(199), 0);
        due("heavy(200)", x.heavy(200), NONE);
        promise = 15;
        due("decades(0, 1): 179 mod 6 is 5, no DAY can pass", x.decades(0, 1), 9999);
        due("undo()", x.undo(), 29);
        due("undo()", x.undo(), 28);
        due("is(0)", x.is(0), 9998);
    }

    private static void plays() {
        promise = 14;
        ClownsMourn x = new ClownsMourn();
        due("played(0)", x.played(0), -2);
        due("played(NONE)", x.played(NONE), -2);
        read(x, "eases 1;house 1 grief 7;clown 2 age 3;send 0 to 0;fall 1 by 0;mood 2 by 1 to 9;fall 1 by 0;rest 0;"
                + "day 3;rest 0;day 5;");
        due("played(0)", x.played(0), 9);
        due("of(0, 0)", x.of(0, 0), 1);
        due("of(0, 1): its own laws don't rule", x.of(0, 1), 4);
        due("of(0, 2)", x.of(0, 2), 9);
        due("ofClown(0, 1)", x.ofClown(0, 1), 3);
        due("is(0)", x.is(0), 3);
        due("about(4)", x.about(4), 7);
        due("about(3)", x.about(3), NONE);
        read(x, "send 0 to 0;day 60;");
        due("played(1)", x.played(1), NONE);
        due("is(0)", x.is(0), 63);
        read(x, "send 0 to 1;");
        due("played(2): no such house", x.played(2), 0);
        read(x, "house 0 grief 0;house 0 grief 0;house 0 grief 0;house 0 grief 0;house 0 grief 0;house 0 grief 0;");
        due("played(3): six at most", x.played(3), 5);
        due("played(4)", x.played(4), -2);
        ClownsMourn y = new ClownsMourn();
        read(y, "grows 1;eases 2;");
        due("played: laws alone", y.played(0), NONE);
        read(y, "clown 1 age 0;clown 1 age 0;clown 1 age 0;clown 1 age 0;clown 1 age 0;clown 1 age 0;");
        due("played: five at most", y.played(1), 5);
        read(y, "fall 0 by 0;");
        due("played: a fall in the yard", y.played(2), 0);
    }

    private static void decades() {
        promise = 15;
        ClownsMourn x = city();
        due("decades(-1, 1)", x.decades(-1, 1), NONE);
        due("decades(10000, 1)", x.decades(10000, 1), NONE);
        due("decades(0, 0)", x.decades(0, 0), NONE);
        due("decades(0, 41)", x.decades(0, 41), NONE);
        due("about(4)", x.about(4), 0);
        due("decades(0, 1): 179 mod 6 is 5", x.decades(0, 1), 1);
        due("is(1)", x.is(1), 14236);
        due("about(4)", x.about(4), 1);
        due("of(0, 1)", x.of(0, 1), 41);
        // 6 * 31 = 186 isn't odd; 183 mod 6 is 3, 181 is 1, 189 is 3, 195 is 3, 185 is 5
        x.send(0, 0);
        x.send(1, 1);
        due("decades(1, 1): x is 181: a fall of kind 1 of clown 1", x.decades(1, 1), 1);
        due("of(1, 2)", x.of(1, 2), 2);
        due("ofClown(1, 4)", x.ofClown(1, 4), 1);
        due("is(1): drawn twice", x.is(1), ((181 * 419 + 293) % 30529 * 419 + 293) % 30529);
        due("undo()", x.undo(), 3);
        due("of(1, 2)", x.of(1, 2), 0);
        due("is(1)", x.is(1), 14236);
        due("decades(9999, 40)", x.decades(9999, 40) >= 1, true);
        ClownsMourn y = new ClownsMourn();
        due("decades with nobody: DAYS alone", y.decades(0, 2), 1);
        due("is(1)", y.is(1), 12022);
        y.clown(1, 1);
        due("decades without houses", y.decades(7, 40) > 0, true);
        due("ofClown(0, 3)", y.ofClown(0, 3), NONE);
        sentAndRestByDraws();
    }

    /** Looks for seeds whose second draw is a sending, or a rest that can and one that can't be. */
    private static void sentAndRestByDraws() {
        boolean sent = false;
        boolean rested = false;
        boolean stayed = false;
        for (int seed = 0; seed < 400; seed++) {
            int x = ((seed * 2 + 179) * 419 + 293) % 30529;
            int first = (seed * 2 + 179) % 6;
            if (first != 5) {
                continue;
            }
            ClownsMourn y = city();
            y.send(0, 0);
            y.send(1, 0);
            int clown = x % 2;
            y.decades(seed, 2);
            if (x % 6 == 0) {
                due("sent by seed " + seed, y.ofClown(clown, 3), x / 6 % 2);
                sent |= x / 6 % 2 == 1;
            } else if (x % 6 == 4) {
                due("rest by seed " + seed, y.ofClown(clown, 3), x % 8 == 0 ? NONE : 0);
                rested |= x % 8 == 0;
                stayed |= x % 8 != 0;
            }
        }
        due("all three were looked at", sent && rested && stayed, true);
    }

    private static void undoes() {
        promise = 16;
        ClownsMourn x = city();
        due("undo() of nothing", x.undo(), NONE);
        read(x, "laughs 10;");
        x.by(0);
        x.send(0, 0);
        x.fall(0, 2);
        x.mood(0, 0, 8);
        int house = x.house(3, 77);
        int clown = x.clown(9, 9);
        x.day(2);
        x.send(clown, house);
        x.fall(clown, 1);
        due("about(4)", x.about(4), 6);
        due("undo()", x.undo(), 5);
        due("of(2, 1)", x.of(2, 1), 79);
        due("of(2, 3)", x.of(2, 3), NONE);
        due("book(NONE)", x.book(NONE, 0), 1);
        due("ofClown(2, 4)", x.ofClown(2, 4), 0);
        due("undo()", x.undo(), 4);
        due("ofClown(2, 3)", x.ofClown(2, 3), NONE);
        due("undo()", x.undo(), 3);
        due("is(0): each day is a step", x.is(0), 1);
        due("undo()", x.undo(), 2);
        due("of(2, 1)", x.of(2, 1), 77);
        due("undo()", x.undo(), 1);
        due("of(0, 1)", x.of(0, 1), 40);
        due("of(0, 2)", x.of(0, 2), 0);
        due("of(0, 3)", x.of(0, 3), NONE);
        due("of(0, 4)", x.of(0, 4), 0);
        due("ofClown(0, 2)", x.ofClown(0, 2), 0);
        due("is(1)", x.is(1), 179);
        due("book(NONE)", x.book(NONE, 0), 0);
        due("of(2, 1): told since, as told", x.of(2, 1), 77);
        due("of(2, 0)", x.of(2, 0), 3);
        due("ofClown(2, 0)", x.ofClown(2, 0), 9);
        due("told(0, 0): it stays", x.told(0, 0), 8);
        due("about(3): it stays", x.about(3), 0);
        due("undo()", x.undo(), 0);
        due("undo()", x.undo(), NONE);
        x.day(31);
        for (int i = 29; i >= 0; i--) {
            due("undo()", x.undo(), i);
        }
        due("undo() of the 31st", x.undo(), NONE);
        due("is(0)", x.is(0), 1);
    }

    private static void looksAtHouses() {
        promise = 17;
        ClownsMourn x = city();
        due("of(2, 0)", x.of(2, 0), -2);
        due("of(-1, 0)", x.of(-1, 0), -2);
        due("of(0, 7)", x.of(0, 7), -2);
        due("of(0, -1)", x.of(0, -1), -2);
        int[] first = {2, 10, 0, NONE, 0, 1, 0};
        for (int what = 0; what < 7; what++) {
            due("of(1, " + what + ")", x.of(1, what), first[what]);
        }
        x.send(1, 1);
        due("of(1, 5)", x.of(1, 5), 0);
        due("of(1, 6)", x.of(1, 6), 2);
        ClownsMourn y = ruled("grows there*4+kind*100-grief;");
        due("of(1, 5): 9 at most", y.of(1, 5), 9);
        due("of(0, 5): 0 at least", y.of(0, 5), 0);
    }

    private static void looksAtClowns() {
        promise = 18;
        ClownsMourn x = city();
        int[] first = {5, 60, 0, NONE, 0};
        for (int what = 0; what < 5; what++) {
            due("ofClown(1, " + what + ")", x.ofClown(1, what), first[what]);
        }
        x.send(1, 1);
        due("ofClown(1, 3)", x.ofClown(1, 3), 1);
        due("ofClown(1, 5)", x.ofClown(1, 5), -2);
        due("ofClown(1, -1)", x.ofClown(1, -1), -2);
        due("ofClown(2, 0)", x.ofClown(2, 0), -2);
        due("ofClown(-1, 0)", x.ofClown(-1, 0), -2);
        promise = 21;
        due("is(0)", x.is(0), 0);
        due("is(2)", x.is(2), -2);
        due("is(-1)", x.is(-1), -2);
    }

    private static void easesAndLaughs() {
        promise = 19;
        ClownsMourn x = city();
        due("eased in the yard", x.eased(0, 0), NONE);
        x.send(0, 0);
        due("eased(0, 4)", x.eased(0, 4), 7);
        due("eased(0, 5)", x.eased(0, 5), NONE);
        due("eased(0, -1)", x.eased(0, -1), NONE);
        due("eased(2, 0)", x.eased(2, 0), NONE);
        promise = 20;
        due("laughs(1, 0) in the yard", x.laughs(1, 0), NONE);
        due("laughs(0, 4)", x.laughs(0, 4), 5);
        due("laughs(0, 5)", x.laughs(0, 5), NONE);
        due("laughs(-1, 0)", x.laughs(-1, 0), NONE);
        due("of(0, 1): nothing is changed", x.of(0, 1), 40);
        due("of(0, 2)", x.of(0, 2), 0);
        due("is(1)", x.is(1), 179);
        ClownsMourn y = ruled("eases 40-grief+fall*70;laughs grief-40+moods house*2;");
        y.send(0, 0);
        promise = 19;
        due("eased(0, 0)", y.eased(0, 0), 0);
        due("eased(0, 1)", y.eased(0, 1), 70);
        due("eased(0, 2): 99 at most", y.eased(0, 2), 99);
        promise = 20;
        due("laughs(0, 0): MOOD 1 as then", y.laughs(0, 0), 2);
        due("laughs(0, 1): 0 at least", y.laughs(0, 1), 0);
        ClownsMourn z = ruled("eases -5;laughs 11;grows -1;");
        z.send(0, 0);
        due("laughs: 10 at most", z.laughs(0, 1), 10);
        promise = 19;
        due("eased: 0 at least", z.eased(0, 1), 0);
        promise = 17;
        due("grows: 0 at least", z.of(1, 5), 0);
    }

    /** What a SUM is, told by eases of clown 0 (skill 3, age 20, at house 0, GRIEF 40) and fall 2. */
    private static void sum(String s, int want) {
        ClownsMourn x = ruled("eases " + s + ";");
        x.send(0, 0);
        due("fault of '" + s + "'", x.fault(0), 0);
        due("eases " + s, x.eased(0, 2), want);
    }

    private static void sums() {
        promise = 19;
        sum("1+2*3", 7);
        sum("10-3-2", 5);
        sum("7/2*2", 6);
        sum("20/3/2", 3);
        sum("(1+2)*3", 9);
        sum("10+-7/2", 7);
        sum("10-7/-2", 13);
        sum("5+7/0", 5);
        sum("(9999*9999-9999*100)/10", 10);
        sum("-9999*9999+9999*100+111", 11);
        sum("9999*9999*9999*9999/5000/20", 10);
        sum("(9999*100+9999-9999*100)/10", 10);
        sum("(-9999*100-9999+9999*100)/-10", 10);
        sum("1000*1000/9999", 100 - 1);
        sum("(1000*1000+1-9999*100)/2", 50);
        sum("--5", 5);
        sum("-2*-3", 6);
        sum("hold 5 from 7 to 9", 7);
        sum("hold 8 from 7 to 9", 8);
        sum("hold 10 from 7 to 9", 9);
        sum("hold 1 from 9 to 7", 7);
        sum("hold 20 from 9 to 7", 7);
        sum("hold 8 from 9 to 7", 7);
        sum("hold 1 from 2 to 3*4", 8);
        sum("moods 0+moods 1+moods 2+moods -1+5", 5);
        sum("if 1<2 then 3 else 4 end", 3);
        sum("if 2<2 then 3 else 4 end", 4);
        sum("if 2<=2 then 3 else 4 end", 3);
        sum("if 2>2 then 3 else 4 end", 4);
        sum("if 2>=2 then 3 else 4 end", 3);
        sum("if 2=2 then 3 else 4 end", 3);
        sum("if 2#2 then 3 else 4 end", 4);
        sum("if 3#2 then 3 else 4 end", 3);
        sum("if not 2=2 then 3 else 4 end", 4);
        sum("if not not 2=2 then 3 else 4 end", 3);
        sum("if not 2=3 and 1=2 then 3 else 4 end", 4);
        sum("if 1=1 or 1=1 and 1=2 then 3 else 4 end", 3);
        sum("if 1=2 and 1=1 or 1=1 then 3 else 4 end", 3);
        sum("if 1=2 or 1=2 then 3 else 4 end", 4);
        sum("if 1+1=2*1 then if 1=2 then 5 else 6 end else 7 end*2", 12);
        sum("skill+age", 23);
        sum("grief+fall", 42);
        sum("who+kind+mood+laughed+tired+day+house", 0);
        sum("skill\n*\n2 +\n\n1", 7);
        ClownsMourn x = ruled("eases day*1+kind*10;");
        x.day(3);
        x.send(1, 1);
        due("eased of day and kind", x.eased(1, 0), 23);
        ClownsMourn y = ruled("eases who*10+house*20+tired;");
        y.send(1, 1);
        y.fall(1, 0);
        due("eased of who, house and tired", y.eased(1, 0), 31);
        ClownsMourn z = ruled("laughs 10;eases laughed*10+mood+moods 0*20;");
        z.send(1, 1);
        z.fall(1, 1);
        z.send(0, 0);
        z.fall(0, 0);
        due("eased of laughed, mood and moods", z.eased(1, 0), 32);
    }

    private static void theBook() {
        promise = 22;
        ClownsMourn x = ruled("laughs 10;");
        due("book(NONE)", x.book(NONE, 0), 0);
        due("book(0, 0)", x.book(0, 0), -2);
        x.send(0, 1);
        x.send(1, 0);
        x.day(2);
        x.fall(0, 0);
        x.day(1);
        x.fall(1, 0);
        due("book(NONE)", x.book(NONE, 1), 2);
        due("book(0, 0)", x.book(0, 0), 2);
        due("book(0, 1)", x.book(0, 1), 1);
        due("book(0, 2)", x.book(0, 2), 0);
        due("book(1, 0)", x.book(1, 0), 3);
        due("book(1, 1)", x.book(1, 1), 0);
        due("book(1, 2)", x.book(1, 2), 1);
        due("book(1, 3)", x.book(1, 3), -2);
        due("book(1, -1)", x.book(1, -1), -2);
        due("book(2, 0)", x.book(2, 0), -2);
        due("book(-2, 0)", x.book(-2, 0), -2);
        for (int i = 0; i < 29; i++) {
            x.day(1);
            x.fall(0, 0);
        }
        due("book(NONE): the latest 30", x.book(NONE, 0), 30);
        due("book(0, 0)", x.book(0, 0), 3);
        due("book(29, 0)", x.book(29, 0), 32);
        promise = 46;
        due("ledger(0)", x.ledger(0), 29);
        due("ledger(1)", x.ledger(1), 1);
        due("ledger(NONE)", x.ledger(NONE), 30);
        due("ledger(2)", x.ledger(2), -2);
        due("ledger(-2)", x.ledger(-2), -2);
        promise = 16;
        x.undo();
        due("book(0, 0): the eldest is there again", x.book(0, 0), 2);
    }

    private static void foretells() {
        promise = 23;
        ClownsMourn x = city();
        due("foretold(0, 0)", x.foretold(0, 0), NONE);
        due("foretold(61, 0)", x.foretold(61, 0), NONE);
        due("foretold(1, 2)", x.foretold(1, 2), NONE);
        due("foretold(1, -1)", x.foretold(1, -1), NONE);
        due("foretold(60, 0)", x.foretold(60, 0), 99);
        due("foretold(60, 1)", x.foretold(60, 1), 70);
        due("is(0)", x.is(0), 0);
        due("of(1, 1)", x.of(1, 1), 10);
        due("about(4)", x.about(4), 0);
        ClownsMourn y = ruled("grows if grief<15 then day+1 else 0 end;");
        due("foretold(1, 1)", y.foretold(1, 1), 11);
        due("foretold(3, 1)", y.foretold(3, 1), 16);
        due("foretold(9, 1)", y.foretold(9, 1), 16);
        promise = 24;
        due("heavy(50)", x.heavy(50), 0);
        due("heavy(0)", x.heavy(0), 0);
        due("heavy(51)", x.heavy(51), 1);
        due("heavy(53)", x.heavy(53), 2);
        due("heavy(168)", x.heavy(168), 59);
        due("heavy(169)", x.heavy(169), 60);
        due("heavy(170)", x.heavy(170), NONE);
        due("heavy(-1)", x.heavy(-1), NONE);
        due("heavy(601)", x.heavy(601), NONE);
        due("heavy(600)", x.heavy(600), NONE);
        due("is(0)", x.is(0), 0);
    }

    private static void orders() {
        promise = 26;
        ClownsMourn x = city();
        due("order(2, NONE)", x.order(2, NONE), -2);
        due("order(-1, NONE)", x.order(-1, NONE), -2);
        due("order(0, -2)", x.order(0, -2), -2);
        due("order(0, NONE)", x.order(0, NONE), 2);
        due("order(0, 0): 4 and 5 moods on", x.order(0, 0), 3);
        due("order(0, 1)", x.order(0, 1), 4);
        due("order(0, 2)", x.order(0, 2), -2);
        x.send(0, 0);
        x.fall(0, 4);
        x.fall(0, 3);
        due("order(0, NONE): it is 9", x.order(0, NONE), 0);
        due("order(0, 0)", x.order(0, 0), -2);
        for (int f = 0; f < 5; f++) {
            for (int m = 0; m < 9; m++) {
                x.mood(f, m, f == 2 ? m + 1 : m);
            }
        }
        due("order(1, NONE)", x.order(1, NONE), 9);
        due("order(1, 8)", x.order(1, 8), 2);
        x.mood(2, 8, 0);
        due("order(1, NONE): none", x.order(1, NONE), -2);
        due("order(1, 0)", x.order(1, 0), -2);
    }

    private static void forAll() {
        promise = 27;
        ClownsMourn x = new ClownsMourn();
        due("all(NONE): none", x.all(NONE), -2);
        due("all(0)", x.all(0), -2);
        for (int f = 0; f < 5; f++) {
            for (int m = 0; m < 10; m++) {
                x.mood(f, m, f == 3 ? m / 2 : m);
            }
        }
        due("all(NONE)", x.all(NONE), 4);
        due("all(0)", x.all(0), 3);
        due("all(3)", x.all(3), 3);
        due("all(4)", x.all(4), -2);
        due("all(-2)", x.all(-2), -2);
        x.mood(1, 9, 0);
        x.mood(1, 8, 0);
        due("all(NONE)", x.all(NONE), 4);
        due("all(0): the lowest first", x.all(0), 1);
        due("all(1)", x.all(1), 3);
        // a ring and one that leaves it once: each round brings one mood more to the others (81 falls)
        for (int f = 0; f < 5; f++) {
            for (int m = 0; m < 10; m++) {
                x.mood(f, m, f == 0 ? (m + 1) % 10 : f == 1 && m == 9 ? 0 : m);
            }
        }
        due("all(NONE): 20 at most are looked at", x.all(NONE), -2);
        // m to m - 1, 0 stays, then from 9 on: exactly 9 falls
        for (int m = 0; m < 10; m++) {
            x.mood(0, m, Math.max(m - 1, 0));
            x.mood(1, m, m);
        }
        due("all(NONE)", x.all(NONE), 9);
        due("all(8)", x.all(8), 0);
    }

    private static void comforts() {
        promise = 28;
        ClownsMourn x = city();
        due("comfort in the yard", x.comfort(0, 0, NONE), -2);
        x.send(0, 0);
        due("comfort(0, 40, NONE)", x.comfort(0, 40, NONE), 0);
        due("comfort(0, 40, 0)", x.comfort(0, 40, 0), -2);
        due("comfort(0, 39, NONE)", x.comfort(0, 39, NONE), 1);
        due("comfort(0, 39, 0)", x.comfort(0, 39, 0), 0);
        due("comfort(0, 35, 0)", x.comfort(0, 35, 0), 2);
        due("comfort(0, 0, NONE)", x.comfort(0, 0, NONE), 6);
        due("comfort(0, 0, 0)", x.comfort(0, 0, 0), 2);
        due("comfort(0, 0, 1)", x.comfort(0, 0, 1), 4);
        due("comfort(0, 0, 6)", x.comfort(0, 0, 6), -2);
        due("comfort(0, 0, -2)", x.comfort(0, 0, -2), -2);
        due("comfort(0, -1, NONE)", x.comfort(0, -1, NONE), -2);
        due("comfort(0, 100, NONE)", x.comfort(0, 100, NONE), -2);
        due("comfort(0, 99, NONE)", x.comfort(0, 99, NONE), 0);
        due("comfort(2, 0, NONE)", x.comfort(2, 0, NONE), -2);
        due("of(0, 1)", x.of(0, 1), 40);
        due("of(0, 2)", x.of(0, 2), 0);
        due("ofClown(0, 2)", x.ofClown(0, 2), 0);
        due("is(1)", x.is(1), 179);
        ClownsMourn y = ruled("eases if mood=9 then 20 else if tired=8 then 5 else 0 end end;");
        y.send(0, 0);
        due("by MOOD: two falls to 9, then a fall", y.comfort(0, 20, NONE), 3);
        due("comfort(0, 20, 0)", y.comfort(0, 20, 0), 3);
        due("comfort(0, 20, 1)", y.comfort(0, 20, 1), 4);
        due("comfort(0, 20, 2)", y.comfort(0, 20, 2), 0);
        due("comfort(0, 0, NONE)", y.comfort(0, 0, NONE), 5);
        ClownsMourn z = ruled("eases if tired=8 then 5 else 0 end;laughs 10;grows 9;");
        z.send(0, 0);
        due("by TIRED 8 alone: the ninth fall", z.comfort(0, 35, NONE), 9);
        due("comfort(0, 35, 8)", z.comfort(0, 35, 8), 0);
        due("comfort(0, 34, NONE): none", z.comfort(0, 34, NONE), -2);
        ClownsMourn w = ruled("eases if laughed=0 then 1 else 50 end;laughs 10;");
        w.send(0, 0);
        due("it doesn't laugh", w.comfort(0, 38, NONE), 2);
        ClownsMourn v = city();
        v.send(0, 0);
        for (int i = 0; i < 9; i++) {
            v.fall(0, 0);
        }
        due("TIRED 9: none", v.comfort(0, 0, NONE), -2);
        due("TIRED 9, but it is so", v.comfort(0, 13, NONE), 0);
    }

    private static void rings() {
        promise = 29;
        ClownsMourn x = new ClownsMourn();
        due("ring(0)", x.ring(0), 1023);
        due("ring(4)", x.ring(4), 1023);
        due("ring(5)", x.ring(5), NONE);
        due("ring(-1)", x.ring(-1), NONE);
        for (int m = 0; m < 10; m++) {
            x.mood(1, m, Math.min(m + 1, 9));
        }
        due("ring(1)", x.ring(1), 512);
        x.mood(1, 9, 7);
        due("ring(1)", x.ring(1), 128 | 256 | 512);
        x.mood(1, 0, 0);
        due("ring(1)", x.ring(1), 1 | 128 | 256 | 512);
    }

    private static void matches() {
        promise = 30;
        ClownsMourn x = new ClownsMourn();
        due("cost(4, 5, 99): there or not", x.cost(4, 5, 99), true);
        due("cost(5, 0, 0)", x.cost(5, 0, 0), false);
        due("cost(-1, 0, 0)", x.cost(-1, 0, 0), false);
        due("cost(0, 6, 0)", x.cost(0, 6, 0), false);
        due("cost(0, -1, 0)", x.cost(0, -1, 0), false);
        due("cost(0, 0, -1)", x.cost(0, 0, -1), false);
        due("cost(0, 0, 100)", x.cost(0, 0, 100), false);
        promise = 31;
        due("matched(NONE)", x.matched(NONE), 0);
        due("matched(0)", x.matched(0), -2);
        x.clown(1, 1);
        x.clown(1, 1);
        x.clown(1, 1);
        due("matched(NONE)", x.matched(NONE), 0);
        due("matched(0): no house", x.matched(0), NONE);
        due("matched(3)", x.matched(3), -2);
        due("matched(-2)", x.matched(-2), -2);
        x.house(0, 0);
        x.house(0, 0);
        due("matched(NONE): at first 10", x.matched(NONE), 20);
        due("matched(0)", x.matched(0), 0);
        due("matched(1)", x.matched(1), 1);
        due("matched(2): none is behind all", x.matched(2), NONE);
        x.cost(2, 1, 3);
        due("matched(NONE)", x.matched(NONE), 13);
        due("matched(0)", x.matched(0), 0);
        due("matched(1)", x.matched(1), NONE);
        due("matched(2)", x.matched(2), 1);
        x.cost(0, 0, 99);
        x.cost(1, 0, 99);
        x.cost(2, 0, 99);
        due("matched: as many as can be, dear or not", x.matched(NONE), 102);
        due("matched(0)", x.matched(0), 0);
        x.house(0, 0);
        due("matched(NONE)", x.matched(NONE), 23 + 89);
        due("matched(0): a dear house is let to the lowest clown", x.matched(0), 0);
        due("matched(1)", x.matched(1), 2);
        due("matched(2)", x.matched(2), 1);
        x.house(0, 0);
        due("matched(NONE)", x.matched(NONE), 23);
        due("matched(0)", x.matched(0), 2);
        due("matched(1)", x.matched(1), 3);
    }

    private static void bears() {
        promise = 32;
        ClownsMourn x = new ClownsMourn();
        due("bore(100)", x.bore(100, true), -2);
        due("bore(-2)", x.bore(-2, true), -2);
        for (int i = 1; i <= 8; i++) {
            due("bore", x.bore(i == 1 ? 99 : 0, true), i);
        }
        due("bore beyond 8", x.bore(5, true), -2);
        due("about(5)", x.about(5), 8);
        promise = 33;
        due("bears(0)", x.bears(0), 0);
        due("bears(1)", x.bears(1), 100);
        due("bears(2)", x.bears(2), 100);
        due("bears(3)", x.bears(3), -2);
        due("bears(-1)", x.bears(-1), -2);
        promise = 32;
        due("bore(NONE)", x.bore(NONE, false), 0);
        promise = 33;
        due("bears(1)", x.bears(1), 0);
        due("bears(2)", x.bears(2), 100);
        x.bore(0, false);
        due("bears(2)", x.bears(2), 0);
        x.bore(60, true);
        x.bore(60, true);
        due("bears(0)", x.bears(0), 1);
        due("bears(1)", x.bears(1), 61);
        due("bears(2)", x.bears(2), 100);
    }

    private static void nextTrial() {
        promise = 34;
        ClownsMourn x = new ClownsMourn();
        due("next(-1)", x.next(-1), NONE);
        due("next(100)", x.next(100), NONE);
        due("next(99): 101 of them, 50 and 51 are as near", x.next(99), 49);
        due("next(10)", x.next(10), 10);
        due("next(0)", x.next(0), 0);
        x.bore(98, true);
        due("next(98): all would", x.next(98), NONE);
        due("next(99): of 99 and 100", x.next(99), 99);
        x.bore(99, true);
        due("next(99): just one", x.next(99), NONE);
        x.bore(NONE, true);
        x.bore(10, true);
        x.bore(9, false);
        // 0 .. 9 and 11 .. 100 are as good
        due("next(99)", x.next(99), 50);
        due("next(9)", x.next(9), 9);
        due("next(10)", x.next(10), 9);
    }

    private static void shares() {
        promise = 35;
        ClownsMourn x = new ClownsMourn();
        due("worth(0, 1)", x.worth(0, 1), false);
        due("worth(16, 1)", x.worth(16, 1), false);
        due("worth(1, -1)", x.worth(1, -1), false);
        due("worth(1, 1000)", x.worth(1, 1000), false);
        due("worth(15, 999)", x.worth(15, 999), true);
        promise = 36;
        for (int c = 0; c < 4; c++) {
            due("share of one of four", x.share(c, 4, false), 999);
            due("share of one of four", x.share(c, 4, true), 4);
        }
        due("share(0, 3)", x.share(0, 3, false), 0);
        due("share(0, 3)", x.share(0, 3, true), 1);
        due("share(4, 4)", x.share(4, 4, false), NONE);
        due("share(-1, 4)", x.share(-1, 4, false), NONE);
        due("share(0, 0)", x.share(0, 0, false), NONE);
        due("share(0, 5)", x.share(0, 5, true), NONE);
        due("share(1, 1)", x.share(1, 1, true), NONE);
        x.worth(15, 0);
        x.worth(3, 600);
        due("share(0, 3)", x.share(0, 3, false), 100);
        due("share(2, 3)", x.share(2, 3, false), -200);
        due("share(2, 3)", x.share(2, 3, true), 1);
        x.worth(1, 1);
        due("share(2, 3)", x.share(2, 3, false), -1201);
        due("share(2, 3)", x.share(2, 3, true), 6);
    }

    private static void stays() {
        promise = 37;
        ClownsMourn x = new ClownsMourn();
        int[][] others = {{-1, 1, 1, 0}, {11, 1, 1, 0}, {1, -1, 1, 0}, {1, 1000, 1, 0}, {1, 1, -1, 0}, {1, 1, 100, 0},
            {1, 1, 1, -1}, {1, 1, 1, 3}};
        for (int[] o : others) {
            due("stays for others", x.stays(o[0], o[1], o[2], o[3]), -100000);
        }
        due("hours", x.stays(5, 100, 10, 0), 4);
        due("upper", x.stays(5, 100, 10, 1), 245);
        due("lower", x.stays(5, 100, 10, 2), 4);
        due("hours: all six", x.stays(1, 999, 0, 0), 6);
        due("upper", x.stays(1, 999, 0, 1), 468090441);
        due("lower", x.stays(1, 999, 0, 2), 1000000);
        due("hours: of like ones the fewest", x.stays(10, 999, 0, 0), 1);
        due("upper", x.stays(10, 999, 0, 1), 999);
        due("hours: none", x.stays(0, 999, 99, 0), 0);
        due("lower", x.stays(0, 999, 99, 2), 1);
        due("hours: nothing to have", x.stays(5, 0, 0, 0), 0);
        due("hours: 1 of 10 of 10 is what it costs", x.stays(1, 10, 1, 0), 0);
        due("hours", x.stays(1, 11, 1, 0), 1);
        due("upper", x.stays(1, 11, 1, 1), 1);
        due("lower", x.stays(1, 11, 1, 2), 10);
    }

    private static void lessons() {
        promise = 38;
        ClownsMourn x = new ClownsMourn();
        due("behind(0, 0)", x.behind(0, 0), false);
        due("behind(5, 0)", x.behind(5, 0), false);
        due("behind(0, 5)", x.behind(0, 5), false);
        due("behind(-1, 0)", x.behind(-1, 0), false);
        due("behind(0, -1)", x.behind(0, -1), false);
        promise = 39;
        due("lessons(NONE)", x.lessons(NONE), 120);
        due("lessons(4)", x.lessons(4), 4);
        due("lessons(5)", x.lessons(5), -2);
        due("lessons(-2)", x.lessons(-2), -2);
        promise = 38;
        due("behind(0, 3)", x.behind(0, 3), true);
        due("behind(0, 3): it is so", x.behind(0, 3), false);
        due("behind(3, 2)", x.behind(3, 2), true);
        due("behind(0, 2)", x.behind(0, 2), true);
        promise = 39;
        due("lessons(NONE)", x.lessons(NONE), 20);
        int[] order = {1, 2, 3, 0, 4};
        for (int i = 0; i < 5; i++) {
            due("lessons(" + i + ")", x.lessons(i), order[i]);
        }
        x.behind(2, 0);
        due("lessons(NONE)", x.lessons(NONE), 0);
        due("lessons(0)", x.lessons(0), -2);
    }

    private static void whoseLaw() {
        promise = 40;
        ClownsMourn x = city();
        due("grown(2, 0): no such house", x.grown(2, 0), -2);
        due("grown(-2, 0)", x.grown(-2, 0), -2);
        due("grown(0, -1)", x.grown(0, -1), -2);
        due("grown(0, 10)", x.grown(0, 10), -2);
        for (int i = 1; i <= 8; i++) {
            due("grown(0, 9)", x.grown(0, 9), i);
        }
        due("grown beyond 8", x.grown(0, 9), -2);
        due("about(6)", x.about(6), 8);
        due("grown(NONE)", x.grown(NONE, 77), 0);
        promise = 41;
        due("whose() of no texts", x.whose(), 0);
        read(x, "grows kind+1;");
        read(x, "eases 1;");
        read(x, "grows 1+mood;");
        read(x, "grows 99;");
        due("whose(): nothing is told, so all", x.whose(), 15);
        x.grown(0, 1);
        due("whose()", x.whose(), 7);
        x.grown(1, 1);
        due("whose()", x.whose(), 6);
        x.send(0, 0);
        due("whose(): as now, one is there", x.whose(), 4);
        x.fall(0, 0);
        due("whose()", x.whose(), 0);
        x.grown(NONE, 0);
        x.grown(1, 9);
        due("whose(): 9 at most", x.whose(), 8);
    }

    private static void clocksAndOthers() {
        promise = 42;
        ClownsMourn x = ruled("laughs 10;");
        x.house(1, 40);
        due("clocks(0)", x.clocks(0), 0);
        due("clocks(2)", x.clocks(2), NONE);
        due("clocks(NONE)", x.clocks(NONE), NONE);
        x.send(0, 0);
        x.send(1, 1);
        x.fall(0, 0);
        x.fall(1, 0);
        x.send(0, 2);
        x.fall(0, 0);
        x.send(1, 2);
        x.fall(1, 0);
        due("clocks(0)", x.clocks(0), 5);
        due("clocks(1)", x.clocks(1), 2);
        promise = 43;
        due("saddest()", x.saddest(), 0);
        ClownsMourn y = new ClownsMourn();
        due("saddest(): none", y.saddest(), NONE);
        y.house(0, 0);
        due("saddest(): 0, too", y.saddest(), 0);
        y.house(0, 5);
        y.house(0, 5);
        due("saddest()", y.saddest(), 1);
        promise = 44;
        due("tiredest(): none", y.tiredest(), NONE);
        y.clown(1, 0);
        y.clown(1, 0);
        y.clown(1, 0);
        due("tiredest(): 0, too", y.tiredest(), 0);
        y.send(2, 0);
        y.fall(2, 0);
        due("tiredest()", y.tiredest(), 2);
        y.send(1, 0);
        y.fall(1, 0);
        due("tiredest()", y.tiredest(), 1);
        promise = 45;
        for (int i = 0; i < 8; i++) {
            due("sitting()", y.sitting(), 0);
            y.fall(2, 0);
        }
        due("sitting()", y.sitting(), 4);
        y.rest(2);
        due("sitting(): not in the yard", y.sitting(), 0);
    }

    private static void images() {
        promise = 47;
        ClownsMourn x = city();
        read(x, "grows 2;");
        x.by(0);
        x.day(3);
        x.mood(0, 0, 9);
        x.cost(0, 0, 1);
        x.bore(5, true);
        x.worth(1, 7);
        x.behind(0, 1);
        x.grown(0, 2);
        x.send(0, 0);
        x.fall(0, 2);
        due("image()", x.image(), 3);
        write(x, "day 0;");
        x.text();
        read(x, "day 1;");
        x.day(9);
        x.by(NONE);
        x.mood(0, 0, 1);
        x.cost(0, 0, 77);
        x.bore(6, true);
        x.worth(1, 8);
        x.behind(3, 2);
        x.grown(NONE, 0);
        x.grown(1, 5);
        x.bore(NONE, true);
        x.bore(50, false);
        x.house(0, 1);
        x.clown(1, 1);
        x.rest(0);
        x.decades(5, 30);
        write(x, "rest");
        promise = 48;
        for (int i = 0; i < 2; i++) {
            due("back()", x.back(), 3);
            due("about(0)", x.about(0), 2);
            due("about(1)", x.about(1), 2);
            due("about(2)", x.about(2), 1);
            due("about(3)", x.about(3), 0);
            due("about(4)", x.about(4), 5);
            due("about(5)", x.about(5), 1);
            due("about(6)", x.about(6), 1);
            due("whose()", x.whose(), 1);
            due("about(7): the tape stays", x.about(7), 4);
            due("fault(0): it stays", x.fault(0), 0);
            due("is(0)", x.is(0), 3);
            due("is(1)", x.is(1), 14236);
            due("told(0, 0)", x.told(0, 0), 9);
            due("matched(NONE)", x.matched(NONE), 11);
            due("bears(1)", x.bears(1), 6);
            due("share(0, 1)", x.share(0, 1, false), 7);
            due("lessons(NONE)", x.lessons(NONE), 60);
            due("of(0, 1)", x.of(0, 1), 41);
            due("of(0, 6)", x.of(0, 6), 1);
            due("of(0, 5)", x.of(0, 5), 2);
            due("undo(): steps are of the image", x.undo(), 4);
            due("of(0, 1)", x.of(0, 1), 46);
            due("undo()", x.undo(), 3);
            due("undo()", x.undo(), 2);
            due("of(0, 1)", x.of(0, 1), 44);
        }
        promise = 47;
        due("image()", x.image(), 2);
        x.day(5);
        promise = 48;
        due("back()", x.back(), 2);
        due("about(4)", x.about(4), 2);
    }

    private static void about() {
        promise = 49;
        ClownsMourn x = city();
        x.house(0, 0);
        read(x, "rest 0;");
        read(x, "rest 0;");
        x.by(1);
        x.day(4);
        x.bore(1, true);
        x.grown(0, 1);
        x.grown(0, 1);
        x.feed(0, 0, 0, 0, 0);
        int[] want = {3, 2, 2, 1, 4, 1, 2, 20};
        for (int what = 0; what < 8; what++) {
            due("about(" + what + ")", x.about(what), want[what]);
        }
        due("about(8)", x.about(8), -2);
        due("about(-1)", x.about(-1), -2);
        x.day(60);
        due("about(4): the latest 30", x.about(4), 30);
    }
}
