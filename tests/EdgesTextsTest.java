/** The sentences of part II that name an edge, and the promises on tape, texts and scripts. */
public final class EdgesTextsTest {
    private static final int NONE = ClownsMourn.NONE;

    public static void main(String[] args) {
        tapeOf300();
        endOfTape();
        bytesOfFeed();
        textsUpToFour();
        textOf300();
        faultLeavesNoText();
        latestText();
        blanks();
        letters();
        digits();
        signs();
        cutShort();
        noToken();
        oneLeftOut();
        oneTwice();
        asksWithoutSign();
        numbersOfClauses();
        numbersOfSums();
        openAroundOneAnother();
        openTillWhole();
        lawsOnce();
        namesOfClauses();
        clausesUpTo24();
        firstFault();
        leastFaultOfOne();
        names();
        holdBetween();
        moodsOfHouses();
        comparisons();
        andOrNot();
        division();
        atMostAMillion();
        easesHeld();
        laughsHeld();
        growsHeld();
        withoutLaws();
        theTextRules();
        playedInOrder();
        playedEnds();
        playedDays();
        Check.endOfTest();
    }

    private static void due(String call, long got, long want) {
        Check.due(call, got, want);
    }

    private static void due(String call, boolean got, boolean want) {
        Check.due(call, got, want);
    }

    private static void fine(String signs) {
        ClownsMourn x = new ClownsMourn();
        due("text() of '" + signs + "'", Check.read(x, signs), 0);
        due("fault(0) of '" + signs + "'", x.fault(0), 0);
        due("fault(1) of '" + signs + "'", x.fault(1), NONE);
    }

    private static void faulty(String signs, int what, int place) {
        ClownsMourn x = new ClownsMourn();
        due("text() of '" + signs + "'", Check.read(x, signs), NONE);
        due("fault(0) of '" + signs + "'", x.fault(0), what);
        due("fault(1) of '" + signs + "'", x.fault(1), place);
        due("about(2) behind '" + signs + "'", x.about(2), 0);
    }

    private static int feedBlanks(ClownsMourn x) {
        return x.feed(0x20202020, 0x20202020, 0x20202020, 0x20202020, 0x20202020);
    }

    private static void tapeOf300() {
        Check.by("5: NONE, and none come, if there would be more than 300");
        ClownsMourn x = new ClownsMourn();
        for (int i = 1; i <= 15; i++) {
            due("feed", feedBlanks(x), 20 * i);
        }
        due("feed at 300", feedBlanks(x), NONE);
        due("about(7)", x.about(7), 300);
        x.end(280);
        due("feed at 280", feedBlanks(x), 300);
        x.end(299);
        due("feed at 299", x.feed(-1, -1, -1, -1, -1), NONE);
        due("about(7)", x.about(7), 299);
        x.end(281);
        due("feed at 281", x.feed(-1, -1, -1, -1, -1), NONE);
        due("about(7)", x.about(7), 281);
        due("none have come: all are blanks", x.text(), 0);
        due("about(7)", x.about(7), 0);
        due("feed at 0", feedBlanks(x), 20);
    }

    private static void endOfTape() {
        Check.by("6: The tape has its first n bytes alone: n. NONE, and nothing is done, if it has not so many, or n is below 0");
        ClownsMourn x = new ClownsMourn();
        due("end(0) of nothing", x.end(0), 0);
        due("end(1) of nothing", x.end(1), NONE);
        feedBlanks(x);
        due("end(21)", x.end(21), NONE);
        due("end(-1)", x.end(-1), NONE);
        due("about(7)", x.about(7), 20);
        due("end(20)", x.end(20), 20);
        due("end(19)", x.end(19), 19);
        due("end(20) of 19", x.end(20), NONE);
        due("about(7)", x.about(7), 19);
        due("end(0)", x.end(0), 0);
        due("about(7)", x.about(7), 0);
        Check.write(x, "rest 0;garbage!");
        x.end(7);
        due("its first 7 alone", x.text(), 0);
        Check.write(x, "rest 0;garbage!");
        x.end(6);
        due("its first 6", x.text(), NONE);
        due("fault(1): the length", x.fault(1), 6);
        String[] cut = {"rest 0 ;", "dayx", "rest 04", "rest 0\n;", "day 1;;", "mood 0 by 1 to 2;"};
        int[] length = {6, 3, 6, 6, 5, 10};
        for (int i = 0; i < cut.length; i++) {
            Check.write(x, cut[i]);
            x.end(length[i]);
            due("'" + cut[i] + "' cut off at " + length[i], x.text(), NONE);
            due("fault(0)", x.fault(0), 1);
            due("fault(1): the length", x.fault(1), length[i]);
        }
        Check.write(x, "day 12;");
        x.end(5);
        Check.add(x, ";");
        due("what was cut off is gone", x.text(), 1);
        x.played(1);
        due("day 1, not 12", x.is(0), 1);
    }

    private static void bytesOfFeed() {
        Check.by("5: Twenty bytes come behind the tape, the highest of a first");
        ClownsMourn x = new ClownsMourn();
        // "mood" " 0 b" "y 0 " "to 7" ";   "
        x.feed(0x6d6f6f64, 0x20302062, 0x79203020, 0x746f2037, 0x3b202020);
        due("text()", x.text(), 0);
        x.played(0);
        due("told(0, 0)", x.told(0, 0), 7);
        for (int at = 0; at < 20; at++) {
            int[] five = {0x20202020, 0x20202020, 0x20202020, 0x20202020, 0x20202020};
            int shift = 24 - at % 4 * 8;
            five[at / 4] = five[at / 4] & ~(255 << shift) | 255 << shift;
            feedBlanks(x);
            x.feed(five[0], five[1], five[2], five[3], five[4]);
            due("a byte 255", x.text(), NONE);
            due("it is none, at its place", x.fault(0), 1);
            due("the place", x.fault(1), 20 + at);
        }
    }

    private static void textsUpToFour() {
        Check.by("7: The tape (empty then) is a TEXT: its number. NONE: .. or (the tape stays) there are 4");
        ClownsMourn x = new ClownsMourn();
        for (int i = 0; i < 4; i++) {
            due("text " + i, Check.read(x, "grows " + i + ";"), i);
            due("empty then", x.about(7), 0);
            due("TEXTS", x.about(2), i + 1);
        }
        Check.write(x, "day 0;");
        due("the fifth, with a FAULT", x.text(), NONE);
        due("the tape stays", x.about(7), 6);
        due("it wasn't read", x.fault(0), 0);
        due("nor its place", x.fault(1), NONE);
        Check.write(x, "day 1;");
        due("the fifth, without", x.text(), NONE);
        due("the tape stays", x.about(7), 6);
        due("an empty fifth", x.end(0), 0);
        due("is none, too", x.text(), NONE);
        due("TEXTS", x.about(2), 4);
        Check.write(x, "day 1;");
        x.back();
        due("with room again it is read", x.text(), 0);
        due("empty then", x.about(7), 0);
    }

    private static void textOf300() {
        Check.by("TEXTS 0 .. 3: of up to 300 bytes");
        String law = "eases 5" + " ".repeat(282) + "+90+4-1 ;";
        due("its length", law.length(), 298);
        ClownsMourn x = Check.city();
        due("298 bytes", Check.read(x, law), 0);
        due("299 bytes", Check.read(x, law + "\n"), 1);
        due("300 bytes", Check.read(x, law + " \n"), 2);
        x.by(2);
        x.send(0, 0);
        due("it rules", x.eased(0, 0), 98);
        Check.write(x, " ".repeat(299) + ";");
        due("a FAULT at the last byte", x.text(), NONE);
        due("its place", x.fault(1), 299);
        Check.write(x, " ".repeat(293) + "rest 4 ");
        due("a FAULT at the end", x.text(), NONE);
        due("its place is the length", x.fault(1), 300);
        Check.write(x, " ".repeat(293) + "rest 4;");
        due("a clause up to the last byte", x.text(), 3);
        // as many sums as there can be
        ClownsMourn y = Check.city();
        Check.rule(y, "eases 1" + "+1".repeat(146) + ";");
        due("fault(0)", y.fault(0), 0);
        y.send(0, 0);
        due("147, held", y.eased(0, 0), 99);
        Check.rule(y, "eases 0" + "+1-1".repeat(70) + "+7    ;");
        due("70 rounds", y.eased(0, 0), 7);
        ClownsMourn z = Check.city();
        Check.rule(z, "laughs if " + "1=2 or ".repeat(38) + "1=1then 1else 2end;");
        due("fault(0)", z.fault(0), 0);
        z.send(0, 0);
        due("by the last of 39", z.laughs(0, 0), 1);
    }

    private static void faultLeavesNoText() {
        Check.by("7: NONE: it has a FAULT");
        ClownsMourn x = Check.city();
        Check.rule(x, "grows 4;");
        due("text() with a FAULT", Check.read(x, "grows 5;mood 0 by 1 to 2;day 99;"), NONE);
        due("TEXTS", x.about(2), 1);
        due("THE TEXT rules as before", x.of(0, 5), 4);
        due("nothing of it is told", x.told(1, 0), 2);
        due("the tape is empty", x.about(7), 0);
        due("what comes next begins a text", Check.read(x, "day 1;"), 1);
        due("it has its clauses alone", x.played(1), NONE);
        due("DAY", x.is(0), 1);
        Check.read(x, "eases 3;grows 2;day");
        due("a text behind one with laws and a FAULT", Check.read(x, "eases 1;grows 1;"), 2);
    }

    private static void latestText() {
        Check.by("8: Of the latest text that was read: 0 its FAULT (0 without), 1 its place (NONE without)");
        ClownsMourn x = new ClownsMourn();
        due("ahead of any", x.fault(0), NONE);
        due("ahead of any", x.fault(1), NONE);
        x.text();
        due("of an empty one", x.fault(0), 0);
        due("of an empty one", x.fault(1), NONE);
        Check.read(x, ";");
        due("a FAULT at 0", x.fault(0), 1);
        due("its place", x.fault(1), 0);
        Check.write(x, "day 1;");
        due("writing isn't reading", x.fault(0), 1);
        x.text();
        due("without", x.fault(0), 0);
        due("without", x.fault(1), NONE);
        due("fault(2)", x.fault(2), NONE);
        due("fault(-1)", x.fault(-1), NONE);
    }

    private static void blanks() {
        Check.by("TOKENS, blanks (32, 10) aside");
        fine("");
        fine(" ");
        fine("\n");
        fine(" \n\n day\n\n 1\n;\n ");
        fine("day1;");
        for (int sign = 0; sign < 256; sign++) {
            boolean letter = sign >= 'a' && sign <= 'z' || sign >= 'A' && sign <= 'Z';
            boolean digit = sign >= '0' && sign <= '9';
            if (sign == 32 || sign == 10) {
                fine("day" + (char) sign + "1;");
            } else if (!digit) {
                // a letter makes another word of it, another sign can't stand there
                faulty("day" + (char) sign + "1;", 1, letter ? 0 : 3);
            }
        }
    }

    private static void letters() {
        Check.by("letters a .. z, A .. Z one behind the other (one TOKEN)");
        for (char sign : new char[] {'a', 'z', 'A', 'Z'}) {
            faulty("rest" + sign + " 0;", 1, 0);
            faulty(sign + "rest 0;", 1, 0);
            faulty("eases 1 " + sign + ";", 1, 8);
            faulty("eases " + sign + "+;", 1, 6);
        }
        for (char sign : new char[] {'`', '{', '@', '['}) {
            faulty("rest" + sign + "0;", 1, 4);
            faulty(sign + "rest 0;", 1, 0);
        }
        faulty("re st 0;", 1, 0);
        faulty("Rest 0;", 1, 0);
        faulty("REST 0;", 1, 0);
        faulty("res 0;", 1, 0);
        faulty("restrest 0;", 1, 0);
        faulty("e 0;", 1, 0);
        faulty("house 0 griefs 1;", 1, 8);
        faulty("house 0 grie 1;", 1, 8);
        fine("rest0;");
        fine("house0grief1;");
    }

    private static void digits() {
        Check.by("digits likewise (NUMBERS, 0 .. 9999)");
        fine("eases 0;");
        fine("eases 9;");
        fine("eases 9999;");
        faulty("eases 10000;", 2, 6);
        fine("eases 0000000000000000000000;");
        fine("eases 00000000000000000009999;");
        faulty("eases 000000000000000000010000;", 2, 6);
        faulty("eases 4294967296;", 2, 6);
        faulty("eases 4294967297;", 2, 6);
        faulty("eases 18446744073709551616;", 2, 6);
        faulty("eases " + "9".repeat(200) + ";", 2, 6);
        faulty("eases " + "1" + "0".repeat(200) + ";", 2, 6);
        faulty("eases 1 2;", 1, 8);
        faulty("eases /1;", 1, 6);
        faulty("eases :1;", 1, 6);
        faulty("rest 0/;", 1, 6);
        faulty("rest 0:;", 1, 6);
        faulty("1rest 0;", 1, 0);
    }

    private static void signs() {
        Check.by("<= >= < > = # + - * / ( ) ; (the longest)");
        for (String sign : new String[] {"<=", ">=", "<", ">", "=", "#"}) {
            fine("eases if 1" + sign + "2 then 3 else 4 end;");
            fine("eases if 1 " + sign + " 2 then 3 else 4 end;");
        }
        faulty("eases if 1< =2 then 3 else 4 end;", 1, 12);
        faulty("eases if 1> =2 then 3 else 4 end;", 1, 12);
        faulty("eases if 1<\n=2 then 3 else 4 end;", 1, 12);
        faulty("eases if 1==2 then 3 else 4 end;", 1, 11);
        faulty("eases if 1=<2 then 3 else 4 end;", 1, 11);
        faulty("eases if 1=>2 then 3 else 4 end;", 1, 11);
        faulty("eases if 1<>2 then 3 else 4 end;", 1, 11);
        faulty("eases if 1<==2 then 3 else 4 end;", 1, 12);
        faulty("eases if 1##2 then 3 else 4 end;", 1, 11);
        faulty("eases if 1!=2 then 3 else 4 end;", 1, 10);
        faulty("eases 1<=2;", 1, 7);
        faulty("eases 1=2;", 1, 7);
        faulty("eases 1//2;", 1, 8);
        faulty("eases 1**2;", 1, 8);
        faulty("eases 1++2;", 1, 8);
        fine("eases 1--2;");
        fine("eases 1+-2*-3/-(4);");
        // a sign whose second half is just behind the end
        ClownsMourn x = new ClownsMourn();
        Check.write(x, "eases if 1<=");
        x.end(11);
        x.text();
        due("fault(1) of 'eases if 1<' with an = cut off", x.fault(1), 11);
    }

    private static final String[] WHOLE = {
        "eases skill + - 2 * ( age - 3 ) / hold tired from 1 to fall ;",
        "laughs if not grief < 5 and mood >= 3 or moods who # 4 then 10 else laughed end ;",
        "grows there + day - kind * house ;",
        "house 3 grief 99 ;",
        "clown 9 age 99 ;",
        "mood 9 by 4 to 9 ;",
        "send 4 to 5 ;",
        "fall 4 by 4 ;",
        "rest 4 ;",
        "day 60 ;",
    };

    private static void cutShort() {
        Check.by("1 it can't stand there .. (of the end at the length)");
        for (String whole : WHOLE) {
            fine(whole);
            fine(whole.replace(" ;", ";"));
            for (int i = 1; i < whole.length(); i++) {
                if (whole.charAt(i) == ' ') {
                    faulty(whole.substring(0, i), 1, i);
                    faulty(whole.substring(0, i) + " \n", 1, i + 2);
                }
            }
            String word = whole.substring(0, whole.indexOf(' '));
            if (isLaw(word)) {
                faulty(whole + word, 4, whole.length());
            } else {
                faulty(whole + word, 1, whole.length() + word.length());
            }
        }
    }

    private static boolean isLaw(String word) {
        return word.equals("eases") || word.equals("laughs") || word.equals("grows");
    }

    private static void noToken() {
        Check.by("1 it can't stand there, or is none");
        for (String whole : WHOLE) {
            String[] tokens = whole.split(" ");
            int place = 0;
            for (int i = 0; i < tokens.length; i++) {
                String before = whole.substring(0, place);
                String after = whole.substring(place + tokens[i].length());
                faulty(before + "!" + after, 1, place);
                faulty(before + "foo" + after, 1, place);
                faulty(before + (char) 0 + after, 1, place);
                faulty(before + (char) 255 + after, 1, place);
                if (i > 0) {
                    faulty(before + "eases" + after, 1, place);
                }
                place += tokens[i].length() + 1;
            }
            faulty(whole + "!", 1, whole.length());
            faulty(whole + " 5", 1, whole.length() + 1);
            faulty(whole + ";", 1, whole.length());
        }
        for (String word : new String[] {"by", "to", "from", "age", "grief", "kind", "skill", "end", "then", "else", "if",
            "hold", "moods", "not", "and", "or", "there", "laughed", "tired", "who", "0", "(", ")", ";", "+", "-"}) {
            faulty(word, 1, 0);
            faulty("day 1;" + word, 1, 6);
        }
        for (String word : new String[] {"eases", "laughs", "grows", "clown", "send", "rest", "by", "to", "from", "then",
            "else", "end", "or", "and", "not", ")", ";", "+", "*", "/", "<", "<=", "=", "#"}) {
            faulty("eases " + word + " 1;", 1, 6);
            faulty("eases 1+" + word + " 1;", 1, 8);
            faulty("eases (" + word + " 1);", 1, 7);
            faulty("eases hold " + word + " 1;", 1, 11);
            faulty("eases moods " + word + " 1;", 1, 12);
            faulty("eases -" + word + " 1;", 1, 7);
        }
    }

    /** Where these are left out or stand twice, the text may be right all the same, or the fault comes later. */
    private static boolean mayBeLeftOut(String[] tokens, int i) {
        String token = tokens[i];
        // a - may be of one ONE, or between two
        boolean minus = tokens[i + 1].equals("-") || token.equals("-") && tokens[i + 1].equals("2");
        return minus || token.equals("(") || token.equals(")") || token.equals("hold") || token.equals("moods")
                || token.equals("not");
    }

    private static boolean mayStandTwice(String token) {
        return token.equals("-") || token.equals("(") || token.equals("not") || token.equals("moods")
                || token.equals("hold") || token.equals("if");
    }

    private static void oneLeftOut() {
        Check.by("1 it can't stand there: what comes behind a TOKEN that is left out");
        for (String whole : WHOLE) {
            String[] tokens = whole.split(" ");
            int place = 0;
            for (int i = 0; i + 1 < tokens.length; i++) {
                int next = place + tokens[i].length() + 1;
                if (!mayBeLeftOut(tokens, i)) {
                    faulty(whole.substring(0, place) + whole.substring(next), 1, place);
                }
                place = next;
            }
        }
    }

    private static void oneTwice() {
        Check.by("1 it can't stand there: a TOKEN for the second time");
        for (String whole : WHOLE) {
            int place = 0;
            for (String token : whole.split(" ")) {
                int next = place + token.length() + 1;
                if (!mayStandTwice(token)) {
                    faulty(whole.substring(0, place) + token + " " + whole.substring(place), 1, next);
                }
                place = next;
            }
        }
    }

    private static void asksWithoutSign() {
        Check.by("ASK: not ASK, or SUM one of < <= > >= = # (unlike) SUM");
        faulty("eases if then 2 else 3 end;", 1, 9);
        faulty("eases if 1 then 2 else 3 end;", 1, 11);
        faulty("eases if mood then 2 else 3 end;", 1, 14);
        faulty("eases if (1) then 2 else 3 end;", 1, 13);
        faulty("eases if (1=1) then 2 else 3 end;", 1, 11);
        faulty("eases if not 1 then 2 else 3 end;", 1, 15);
        faulty("eases if not then 2 else 3 end;", 1, 13);
        faulty("eases if 1 and 1=1 then 2 else 3 end;", 1, 11);
        faulty("eases if 1 or 1=1 then 2 else 3 end;", 1, 11);
        faulty("eases if 1=1 and 2 then 2 else 3 end;", 1, 19);
        faulty("eases if 1=1 or 2 then 2 else 3 end;", 1, 18);
        faulty("eases if 1=1 or then 2 else 3 end;", 1, 16);
        faulty("eases if or 1=1 then 2 else 3 end;", 1, 9);
        faulty("eases if 1= then 2 else 3 end;", 1, 12);
        faulty("eases if =1 then 2 else 3 end;", 1, 9);
        faulty("eases if 1=1=1 then 2 else 3 end;", 1, 12);
    }

    private static void number(String before, int low, int high, String after) {
        fine(before + low + after);
        fine(before + high + after);
        fine(before + "000" + high + after);
        faulty(before + (high + 1) + after, 2, before.length());
        faulty(before + 9999 + after, 2, before.length());
        faulty(before + 10000 + after, 2, before.length());
        if (low > 0) {
            faulty(before + (low - 1) + after, 2, before.length());
        } else {
            faulty(before + "-1" + after, 1, before.length());
        }
    }

    private static void numbersOfClauses() {
        Check.by("2 a NUMBER that isn't one of those told (KIND 0 .. 3, GRIEF, AGE 0 .. 99, SKILL 1 .. 9, ..)");
        number("house ", 0, 3, " grief 0;");
        number("house 0 grief ", 0, 99, ";");
        number("clown ", 1, 9, " age 0;");
        number("clown 1 age ", 0, 99, ";");
        number("mood ", 0, 9, " by 0 to 0;");
        number("mood 0 by ", 0, 4, " to 0;");
        number("mood 0 by 0 to ", 0, 9, ";");
        number("send ", 0, 4, " to 0;");
        number("send 0 to ", 0, 5, ";");
        number("fall ", 0, 4, " by 0;");
        number("fall 0 by ", 0, 4, ";");
        number("rest ", 0, 4, ";");
        number("day ", 1, 60, ";");
    }

    private static void numbersOfSums() {
        Check.by("2 a NUMBER that isn't one of those told (above 9999 ..)");
        String[] before = {"eases ", "laughs ", "grows ", "eases 1+", "eases 2*", "eases (", "eases -", "eases hold ",
            "eases hold 1 from ", "eases hold 1 from 2 to ", "eases moods ", "eases if ", "eases if 1<",
            "eases if 1<2 then ", "eases if 1<2 then 1 else "};
        String[] after = {";", ";", ";", ";", ";", ");", ";", " from 1 to 2;", " to 2;", ";", ";",
            "<2 then 1 else 2 end;", " then 1 else 2 end;", " else 2 end;", " end;"};
        for (int i = 0; i < before.length; i++) {
            fine(before[i] + "0" + after[i]);
            fine(before[i] + "9999" + after[i]);
            faulty(before[i] + "10000" + after[i], 2, before[i].length());
        }
    }

    private static void openAroundOneAnother() {
        Check.by("3 the 9th of ( not hold moods if and - (of one ONE) that are open around one another (at it)");
        String[] opens = {"(", "-", "moods ", "hold ", "if "};
        String[] closes = {")", "", "", " from 0 to 0", "=0 then 0 else 0 end"};
        for (int i = 0; i < opens.length; i++) {
            fine("eases " + opens[i].repeat(8) + "1" + closes[i].repeat(8) + ";");
            faulty("eases " + opens[i].repeat(9) + "1" + closes[i].repeat(9) + ";", 3, 6 + 8 * opens[i].length());
            for (int k = 0; k < opens.length; k++) {
                fine("eases " + opens[k] + opens[i].repeat(7) + "1" + closes[i].repeat(7) + closes[k] + ";");
                faulty("eases " + opens[k] + opens[i].repeat(8) + "1", 3, 6 + opens[k].length() + 7 * opens[i].length());
                faulty("eases " + opens[i].repeat(8) + opens[k] + "1", 3, 6 + 8 * opens[i].length());
            }
        }
        fine("eases if " + "not ".repeat(7) + "1=1 then 1 else 1 end;");
        faulty("eases if " + "not ".repeat(8) + "1=1 then 1 else 1 end;", 3, 9 + 28);
        faulty("eases if " + "not ".repeat(7) + "(1)=1 then 1 else 1 end;", 3, 9 + 28);
        faulty("eases if " + "not ".repeat(7) + "1=-1 then 1 else 1 end;", 3, 9 + 30);
        fine("eases " + "(".repeat(6) + "if not 1=1 then 1 else 1 end" + ")".repeat(6) + ";");
        faulty("eases " + "(".repeat(7) + "if not 1=1 then 1 else 1 end" + ")".repeat(7) + ";", 3, 16);
    }

    private static void openTillWhole() {
        Check.by("3 .. that are open around one another (at it; hold till its third is whole)");
        String seven = "(".repeat(7) + "1" + ")".repeat(7);
        String eight = "(".repeat(8) + "1" + ")".repeat(8);
        fine("eases " + eight + "+" + eight + "*" + eight + ";");
        fine("eases (1)+" + eight + ";");
        fine("eases -1+" + eight + ";");
        fine("eases moods 1*" + eight + ";");
        fine("eases hold " + seven + " from " + seven + " to " + seven + ";");
        faulty("eases hold " + eight, 3, 11 + 7);
        faulty("eases hold 1 from " + eight, 3, 18 + 7);
        faulty("eases hold 1 from 1 to " + eight, 3, 23 + 7);
        fine("eases hold 1 from 1 to 1+" + eight + ";");
        fine("eases hold 1 from 1 to(1)*" + eight + ";");
        fine("eases if " + seven + "=" + seven + " and " + seven + "=1 then " + seven + " else " + seven + " end;");
        faulty("eases if " + eight, 3, 9 + 7);
        faulty("eases if 1=" + eight, 3, 11 + 7);
        faulty("eases if 1=1 or 1=" + eight, 3, 18 + 7);
        faulty("eases if 1=1 then " + eight, 3, 18 + 7);
        faulty("eases if 1=1 then 1 else " + eight, 3, 25 + 7);
        fine("eases if 1=1 then 1 else 1 end-" + eight + ";");
        fine("eases if not 1=1 and 1=" + seven + " then 1 else 1 end;");
        faulty("eases if not 1=" + seven, 3, 15 + 6);
        faulty("eases if not " + seven, 3, 13 + 6);
        fine("eases if not 1=1 or " + seven + "=1 then 1 else 1 end;");
        fine("eases 1-1-1-1-1-1-1-1-1-1-1-1;");
        fine("eases " + eight + ";laughs " + eight + ";grows " + eight + ";");
        fine("eases (((((((-1)+(-1))))))+1);");
    }

    private static void lawsOnce() {
        Check.by("4 eases, laughs, grows for the second time (at it)");
        for (String law : new String[] {"eases", "laughs", "grows"}) {
            String first = law + " 1;";
            fine(first);
            faulty(first + first, 4, first.length());
            faulty(first + "day 1;" + law, 4, first.length() + 6);
            faulty(first + law + " foo;", 4, first.length());
            faulty(first + law + law, 1, first.length());
        }
        fine("eases 1;laughs 1;grows 1;");
        fine("grows 1;laughs 1;eases 1;");
        faulty("eases 1;laughs 1;grows 1;eases 1;", 4, 25);
        faulty("eases 1;laughs 1;grows 1;laughs 1;", 4, 25);
        faulty("eases 1;laughs 1;grows 1;grows 1;", 4, 25);
        fine("day 1;day 1;rest 0;rest 0;");
    }

    private static void namesOfClauses() {
        Check.by("5 a NAME that isn't of that CLAUSE (at it)");
        for (String law : new String[] {"eases", "laughs", "grows"}) {
            for (String name : new String[] {"day", "kind", "grief", "mood", "laughed", "house"}) {
                fine(law + " " + name + ";");
            }
            for (String name : new String[] {"skill", "age", "tired", "fall", "who", "there"}) {
                if (law.equals("grows") == name.equals("there")) {
                    fine(law + " " + name + ";");
                } else {
                    faulty(law + " " + name + ";", 5, law.length() + 1);
                    faulty(law + " 1+(" + name + ");", 5, law.length() + 4);
                    faulty(law + " moods " + name + ";", 5, law.length() + 7);
                    faulty(law + " hold 1 from 2 to " + name + ";", 5, law.length() + 18);
                    faulty(law + " if 1=" + name + " then 1 else 1 end;", 5, law.length() + 6);
                }
            }
        }
        fine("grows there;eases who;");
        faulty("grows there;eases there;", 5, 18);
        faulty("eases who;grows who;", 5, 16);
    }

    private static void clausesUpTo24() {
        Check.by("{CLAUSE}, 24 at most; 6 the 25th CLAUSE (at its first TOKEN)");
        fine("day1;".repeat(23));
        fine("day1;".repeat(24));
        fine("day1;".repeat(24) + " \n ");
        faulty("day1;".repeat(25), 6, 120);
        faulty("day1;".repeat(24) + "\n day 1;", 6, 122);
        faulty("day1;".repeat(24) + "rest", 6, 120);
        faulty("day1;".repeat(24) + "house 9", 6, 120);
        faulty("day1;".repeat(26), 6, 120);
        for (String word : new String[] {"eases", "laughs", "grows", "house", "clown", "mood", "send", "fall", "rest", "day"}) {
            faulty("day1;".repeat(24) + word, 6, 120);
        }
        fine("day1;".repeat(21) + "eases 1;laughs 1;grows 1;");
        faulty("day1;".repeat(22) + "eases 1;laughs 1;grows 1;", 6, 127);
        ClownsMourn x = new ClownsMourn();
        Check.read(x, "day1;".repeat(23) + "rest0;");
        due("the 24th has the number 23", x.played(0), 23);
        due("DAY", x.is(0), 23);
    }

    private static void firstFault() {
        Check.by("FAULTS, the first as TOKENS are come to");
        faulty("day 0;eases there;", 2, 4);
        faulty("eases there;day 0;", 5, 6);
        faulty("eases 1;eases there;", 4, 8);
        faulty("eases there foo;", 5, 6);
        faulty("eases 10000 foo;", 2, 6);
        faulty("eases (((((((((10000;", 3, 14);
        faulty("eases ((((((((10000;", 2, 14);
        faulty("eases ((((((((there;", 5, 14);
        faulty("house 4 grief 100;", 2, 6);
        faulty("house 4 age", 2, 6);
        faulty("! day 0;", 1, 0);
        faulty("day1;".repeat(23) + "day 0;" + "day1;", 2, 119);
    }

    private static void leastFaultOfOne() {
        Check.by("FAULTS .. of one the least");
        // 1 ahead of 2: a number that is too great, where none can stand
        faulty("eases 1 10000;", 1, 8);
        faulty("10000", 1, 0);
        faulty("day 10000 10000;", 2, 4);
        faulty("day 1 10000;", 1, 6);
        // 1 ahead of 3: the ninth that opens, where it can't stand
        faulty("eases ((((((((1(", 1, 15);
        faulty("eases ((((((((not", 1, 14);
        faulty("eases ((((((((1 hold", 1, 16);
        faulty("eases ((((((((1 if", 1, 16);
        // 1 ahead of 4 and 6: a law inside a sum, or a word that begins no clause as the 25th
        faulty("eases 1;laughs eases;", 1, 15);
        faulty("day1;".repeat(24) + "then", 1, 120);
        faulty("day1;".repeat(24) + "!", 1, 120);
        faulty("day1;".repeat(24) + "1", 1, 120);
        // 1 ahead of 5: a name of another clause, where none can stand
        faulty("eases 1 there;", 1, 8);
        faulty("grows 1 who;", 1, 8);
        faulty("there", 1, 0);
        faulty("house 0 there 1;", 1, 8);
        // 4 ahead of 6: a law for the second time as the 25th
        faulty("eases 1;" + "day1;".repeat(23) + "eases 1;", 4, 123);
        faulty("eases 1;" + "day1;".repeat(23) + "grows 1;", 6, 123);
    }

    /** What eases of clown 0 (SKILL 3, AGE 20) at house 0 (GRIEF 40) and fall 2 is by this SUM. */
    private static void sum(String sum, int want) {
        ClownsMourn x = Check.ruledCity("eases " + sum + ";");
        due("fault(0) of " + sum, x.fault(0), 0);
        x.send(0, 0);
        due(sum, x.eased(0, 2), want);
    }

    private static void names() {
        Check.by("NAMES: day, kind, grief, mood, laughed, house in all; skill, age, tired, fall, who in eases, laughs; there in grows");
        ClownsMourn x = new ClownsMourn();
        x.house(0, 0);
        x.house(3, 99);
        x.clown(1, 1);
        x.clown(9, 98);
        x.send(1, 1);
        x.send(0, 1);
        Check.rule(x, "laughs 10;eases 1;");
        x.fall(1, 4);
        x.fall(1, 1);
        x.day(12);
        x.fall(1, 0);
        x.image();
        String[] names = {"day", "kind", "grief", "mood", "laughed", "house", "skill", "age", "tired", "fall", "who"};
        int[] want = {12, 3, 96, 8, 3, 1, 9, 98, 1, 4, 1};
        for (int i = 0; i < names.length; i++) {
            x.back();
            Check.rule(x, "eases " + names[i] + ";");
            due("eases " + names[i], x.eased(1, 4), want[i]);
        }
        // in laughs GRIEF (1 less by then) and MOOD are as then, all else as yet
        want[2] = 95;
        want[3] = 3;
        for (int i = 0; i < names.length; i++) {
            x.back();
            Check.rule(x, "eases 1;laughs if " + names[i] + "=" + want[i] + " then 6 else 5 end;");
            due("laughs by " + names[i], x.laughs(1, 4), 6);
        }
        want[2] = 96;
        want[3] = 8;
        for (int i = 0; i < 6; i++) {
            x.back();
            Check.rule(x, "grows if " + names[i] + "=" + want[i] + " then 6 else 5 end;");
            due("grows by " + names[i], x.of(1, 5), 6);
        }
        x.back();
        Check.rule(x, "grows there;");
        due("two there", x.of(1, 5), 2);
        due("none there", x.of(0, 5), 0);
    }

    private static void holdBetween() {
        Check.by("hold: the first, but not below the second, and not above the third: that, if the second is above it");
        sum("hold 6 from 7 to 9", 7);
        sum("hold 7 from 7 to 9", 7);
        sum("hold 8 from 7 to 9", 8);
        sum("hold 9 from 7 to 9", 9);
        sum("hold 10 from 7 to 9", 9);
        sum("hold 5 from 5 to 5", 5);
        sum("hold 4 from 5 to 5", 5);
        sum("hold 6 from 5 to 5", 5);
        sum("hold 1 from 9 to 8", 8);
        sum("hold 8 from 9 to 8", 8);
        sum("hold 9 from 9 to 8", 8);
        sum("hold 10 from 9 to 8", 8);
        sum("20+hold -9 from -5 to 5", 15);
        sum("20+hold -3 from -5 to -4", 16);
        sum("20+hold 0 from 1 to -1", 19);
        sum("hold hold 1 from 2 to 9 from 3 to 9", 3);
        sum("hold 50 from hold 1 from 2 to 3 to hold 9 from 10 to 20", 10);
    }

    private static void moodsOfHouses() {
        Check.by("moods ONE (MOOD of the HOUSE of that number; 0 if none such is told)");
        // all that could be taken for a MOOD beside these (GRIEF, CLOCK, TIRED) isn't 0
        ClownsMourn x = new ClownsMourn();
        for (int i = 0; i < 5; i++) {
            x.clown(1, 50);
        }
        Check.rule(x, "laughs 10;eases 1;");
        for (int i = 0; i < 6; i++) {
            due("a house", x.house(3, 80 + i), i);
            x.mood(0, 0, i + 1);
            x.send(4, i);
            x.fall(4, 0);
            due("MOOD", x.of(i, 2), i + 1);
            due("CLOCK", x.of(i, 3), 4);
        }
        x.by(NONE);
        String[] numbers = {"-1", "0", "1", "2", "3", "4", "5", "6", "7", "9999", "(0-1)", "(1000*1000)", "(-1000*1000)"};
        int[] want = {0, 1, 2, 3, 4, 5, 6, 0, 0, 0, 0, 0, 0};
        x.image();
        for (int i = 0; i < numbers.length; i++) {
            x.back();
            Check.rule(x, "eases 20+moods " + numbers[i] + ";");
            due("20+moods " + numbers[i], x.eased(4, 0), 20 + want[i]);
        }
        ClownsMourn y = Check.city();
        y.send(0, 1);
        y.fall(0, 3);
        Check.rule(y, "eases moods 1*10+moods 2;");
        due("of two houses", y.eased(0, 0), 40);
        y.house(0, 0);
        y.send(1, 2);
        y.fall(1, 4);
        due("of the third, told since", y.eased(0, 0), 45);
        ClownsMourn z = Check.ruledCity("laughs moods house;eases moods moods 1;");
        z.send(0, 1);
        due("in laughs the MOOD as then", z.laughs(0, 4), 5);
        due("moods moods", z.eased(0, 0), 0);
    }

    private static void comparisons() {
        Check.by("ASK: SUM one of < <= > >= = # (unlike) SUM");
        String[] signs = {"<", "<=", ">", ">=", "=", "#"};
        int[][] want = {{1, 0, 0}, {1, 1, 0}, {0, 0, 1}, {0, 1, 1}, {0, 1, 0}, {1, 0, 1}};
        for (int i = 0; i < signs.length; i++) {
            for (int left = 4; left <= 6; left++) {
                sum("if " + left + signs[i] + "5 then 1 else 0 end", want[i][left - 4]);
                sum("if " + left + "-10" + signs[i] + "-5 then 1 else 0 end", want[i][left - 4]);
            }
        }
        sum("if 1000*1000=9999*9999 then 1 else 0 end", 1);
        sum("if -1000*1000=9999*-9999 then 1 else 0 end", 1);
        sum("if 999*1001<1000*1000 then 1 else 0 end", 1);
    }

    private static void andOrNot() {
        Check.by("EITHER: BOTH {or BOTH}. BOTH: ASK {and ASK}. of if just the SUM that is chosen is asked");
        String[] truth = {"1=2", "1=1"};
        for (int a = 0; a < 2; a++) {
            for (int b = 0; b < 2; b++) {
                sum("if " + truth[a] + " and " + truth[b] + " then 1 else 0 end", a & b);
                sum("if " + truth[a] + " or " + truth[b] + " then 1 else 0 end", a | b);
                sum("if not " + truth[a] + " and " + truth[b] + " then 1 else 0 end", 1 - a & b);
                sum("if not " + truth[a] + " or not " + truth[b] + " then 1 else 0 end", 1 - a | 1 - b);
                for (int c = 0; c < 2; c++) {
                    sum("if " + truth[a] + " or " + truth[b] + " and " + truth[c] + " then 1 else 0 end", a | b & c);
                    sum("if " + truth[a] + " and " + truth[b] + " or " + truth[c] + " then 1 else 0 end", a & b | c);
                }
            }
        }
        sum("if 1=1 then 5 else 1/0 end", 5);
        sum("if 1=2 then 9999*9999*9999 else 6 end", 6);
    }

    private static void division() {
        Check.by("/ cuts towards 0, by 0 it is 0");
        sum("7/2", 3);
        sum("20+-7/2", 17);
        sum("20+7/-2", 17);
        sum("-7/-2", 3);
        sum("1/2", 0);
        sum("20+-1/2", 20);
        sum("6/2", 3);
        sum("5/0", 0);
        sum("20+-5/0", 20);
        sum("20+0/0", 20);
        sum("20+5/(3-3)*7", 20);
        sum("20-1000*1000/0", 20);
        sum("99/1", 99);
        sum("20+9/-1", 11);
        sum("0/5+20", 20);
    }

    private static void atMostAMillion() {
        Check.by("what is above 1000000 (below the same less) is that, at each step");
        sum("999*1001+1-999*1001", 1);
        sum("999*1001+2-999*1001", 1);
        sum("999*1001+99-999*1001", 1);
        sum("1000*1000-999*1001", 1);
        sum("1000*1001-999*1001", 1);
        sum("1000*1000+1-1000*1000", 0);
        sum("-999*1001-1+999*1001+5", 4);
        sum("-999*1001-2+999*1001+5", 4);
        sum("-999*1001-99+999*1001+5", 4);
        sum("0-1000*1000-9+1000*1000+7", 7);
        sum("9999*9999/1000/20", 50);
        sum("-9999*9999/1000/-20", 50);
        sum("1000*1000*1000*1000/1000/20", 50);
        sum("-1000*1000*1000*1000/1000/-20", 50);
        sum("(1000*1000)*(1000*1000)/1000/20", 50);
        sum("(-1000*1000)*(-1000*1000)/1000/20", 50);
        sum("(-1000*1000)*(1000*1000)/1000/-20", 50);
        sum("1000*1000+1000*1000-999*1001", 1);
        sum("-(1000*1000)-(1000*1000)+999*1001+9", 8);
        sum("1000*1000-(-1000*1000)-999*1001", 1);
        sum("--(1000*1000)-999*1001", 1);
        sum("hold (1000*1000) from 0 to 9", 9);
        sum("4097*256/1000-950", 50);
    }

    private static void easesHeld() {
        Check.by("eases: 0 at least, 99 at most");
        sum("-1", 0);
        sum("-1000*1000", 0);
        sum("0", 0);
        sum("1", 1);
        sum("98", 98);
        sum("99", 99);
        sum("100", 99);
        sum("1000*1000", 99);
    }

    private static void laughsHeld() {
        Check.by("laughs (the odds of 10): 0 at least, 10 at most");
        String[] sums = {"-1", "0", "1", "9", "10", "11", "1000*1000", "-1000*1000"};
        int[] want = {0, 0, 1, 9, 10, 10, 10, 0};
        for (int i = 0; i < sums.length; i++) {
            ClownsMourn x = Check.ruledCity("laughs " + sums[i] + ";");
            x.send(0, 0);
            due("laughs " + sums[i], x.laughs(0, 0), want[i]);
        }
    }

    private static void growsHeld() {
        Check.by("grows: 0 at least, 9 at most");
        String[] sums = {"-1", "0", "1", "8", "9", "10", "1000*1000", "-1000*1000"};
        int[] want = {0, 0, 1, 8, 9, 9, 9, 0};
        for (int i = 0; i < sums.length; i++) {
            ClownsMourn x = Check.ruledCity("grows " + sums[i] + ";");
            due("grows " + sums[i], x.of(0, 5), want[i]);
            x.day(1);
            due("GRIEF behind a day of grows " + sums[i], x.of(0, 1), 40 + want[i]);
        }
    }

    private static void withoutLaws() {
        Check.by("without: SKILL and the kind together; MOOD (as then); 1, if no CLOWN is there, else 0");
        String[] texts = {"", "eases 7;", "laughs 7;", "grows 7;", "day 1;"};
        for (int i = -1; i < texts.length; i++) {
            ClownsMourn x = Check.city();
            if (i >= 0) {
                Check.rule(x, texts[i]);
            }
            x.send(1, 1);
            boolean eases = i == 1;
            boolean laughs = i == 2;
            boolean grows = i == 3;
            due("eases", x.eased(1, 0), eases ? 7 : 5);
            due("eases", x.eased(1, 4), eases ? 7 : 9);
            due("laughs", x.laughs(1, 0), laughs ? 7 : 1);
            due("laughs", x.laughs(1, 4), laughs ? 7 : 5);
            due("grows, none there", x.of(0, 5), grows ? 7 : 1);
            due("grows, one there", x.of(1, 5), grows ? 7 : 0);
            x.send(0, 1);
            due("grows, two there", x.of(1, 5), grows ? 7 : 0);
            x.rest(0);
            x.rest(1);
            due("grows, none any more", x.of(1, 5), grows ? 7 : 1);
        }
        ClownsMourn y = new ClownsMourn();
        y.house(0, 99);
        y.clown(9, 0);
        y.send(0, 0);
        due("SKILL 9 and kind 4", y.eased(0, 4), 13);
        y.mood(0, 0, 0);
        due("laughs by MOOD 0", y.laughs(0, 0), 0);
        y.mood(0, 0, 9);
        due("laughs by MOOD 9", y.laughs(0, 0), 9);
    }

    private static void theTextRules() {
        Check.by("9: THE TEXT (NONE: none): true. False for others");
        ClownsMourn x = Check.city();
        due("by(NONE) of none", x.by(NONE), true);
        due("by(0) of none", x.by(0), false);
        for (int i = 0; i < 4; i++) {
            due("by(" + i + ") ahead of it", x.by(i), false);
            Check.read(x, "grows " + (i + 2) + ";");
            due("about(3): reading doesn't tell it", x.about(3), i == 0 ? NONE : i - 1);
            due("by(" + i + ")", x.by(i), true);
            due("about(3)", x.about(3), i);
            due("grows", x.of(0, 5), i + 2);
        }
        due("by(4)", x.by(4), false);
        due("by(-2)", x.by(-2), false);
        due("it rules yet", x.of(0, 5), 5);
        due("by(0) again", x.by(0), true);
        due("grows", x.of(0, 5), 2);
        due("by(NONE)", x.by(NONE), true);
        due("about(3)", x.about(3), NONE);
        due("grows", x.of(0, 5), 1);
    }

    private static void playedInOrder() {
        Check.by("PLAYED by a TEXT: its CLAUSES but laws, in their order, as by hand");
        ClownsMourn x = new ClownsMourn();
        Check.read(x, "");
        due("an empty one", x.played(0), NONE);
        Check.read(x, "eases 1;laughs 2;grows 3;mood 9 by 4 to 7;mood 8 by 3 to 9;");
        due("MOODS alone", x.played(1), NONE);
        due("told(4, 9)", x.told(4, 9), 7);
        due("told(3, 8)", x.told(3, 8), 9);
        due("told(4, 0)", x.told(4, 0), 5);
        x.back();
        Check.read(x, "");
        Check.read(x, "eases 1;laughs 2;grows 3;");
        due("laws alone", x.played(1), NONE);
        due("it doesn't rule by that", x.about(3), NONE);
        due("nothing was done", x.about(4), 0);
        Check.read(x, "house 3 grief 99;clown 9 age 0;house 0 grief 0;clown 1 age 99;mood 0 by 4 to 9;send 1 to 1;"
                + "fall 4 by 1;rest 1;day 1;send 0 to 0;day 60;");
        due("all is done", x.played(2), NONE);
        due("KIND", x.of(0, 0), 3);
        due("GRIEF", x.of(0, 1), 99);
        due("SKILL", x.ofClown(0, 0), 9);
        due("AGE", x.ofClown(1, 1), 99);
        due("told(4, 0)", x.told(4, 0), 9);
        due("MOOD", x.of(1, 2), 9);
        due("FALLS", x.ofClown(1, 4), 1);
        due("where it is", x.ofClown(0, 3), 0);
        due("DAY", x.is(0), 61);
        due("GRIEF of the other", x.of(1, 1), 61);
        due("played again: clown 0 is there", x.played(2), 9);
        due("HOUSES", x.about(0), 4);
        due("CLOWNS", x.about(1), 4);
        due("a third time the fifth clown can be, the sixth not", x.played(2), 3);
        due("HOUSES", x.about(0), 6);
        due("CLOWNS", x.about(1), 5);
        due("a fourth time no house can be", x.played(2), 0);
    }

    private static void stopped(String signs, int want) {
        ClownsMourn x = Check.city();
        x.send(1, 1);
        Check.read(x, signs);
        due("fault(0) of " + signs, x.fault(0), 0);
        due("played: " + signs, x.played(0), want);
        due("what was done stays: " + signs, x.told(0, 0), 5);
        due("what comes behind it isn't: " + signs, x.told(1, 0), want == NONE ? 5 : 2);
    }

    private static void playedEnds() {
        Check.by("one that can't be ends it: its number among all CLAUSES (from 0); what was done stays");
        String first = "eases 1;mood 0 by 0 to 5;";
        String last = "mood 0 by 1 to 5;";
        stopped(first + "send 0 to 0;" + last, NONE);
        stopped(first + "send 1 to 1;" + last, 2);
        stopped(first + "send 2 to 0;" + last, 2);
        stopped(first + "send 0 to 2;" + last, 2);
        stopped(first + "laughs 1;grows 1;send 4 to 5;" + last, 4);
        stopped(first + "fall 0 by 1;" + last, NONE);
        stopped(first + "fall 0 by 0;" + last, 2);
        stopped(first + "fall 0 by 2;" + last, 2);
        stopped(first + "fall 0 by 1;".repeat(9) + last, NONE);
        stopped(first + "fall 0 by 1;".repeat(10) + last, 11);
        stopped(first + "rest 1;" + last, NONE);
        stopped(first + "rest 1;rest 1;" + last, 3);
        stopped(first + "rest 0;" + last, 2);
        stopped(first + "rest 4;" + last, 2);
        stopped(first + "house 0 grief 0;".repeat(4) + last, NONE);
        stopped(first + "house 0 grief 0;".repeat(5) + last, 6);
        stopped(first + "clown 1 age 0;".repeat(3) + last, NONE);
        stopped(first + "clown 1 age 0;".repeat(4) + last, 5);
        stopped(first + "clown 1 age 0;send 2 to 1;" + last, NONE);
    }

    private static void playedDays() {
        Check.by("(of so many DAYS those that can pass do)");
        ClownsMourn x = Check.city();
        Check.passTo(x, 9990);
        Check.read(x, "rest 0;day 60;");
        Check.read(x, "day 9;send 0 to 0;");
        Check.read(x, "mood 0 by 0 to 5;day 60;send 0 to 0;");
        x.house(0, 0);
        due("the first clause can't be", x.played(1), 0);
        due("DAY", x.is(0), 9990);
        due("60 from 9990 on", x.played(3), 1);
        due("DAY", x.is(0), 9999);
        due("nine passed", x.of(2, 1), 9);
        due("what was done stays", x.told(0, 0), 5);
        due("what comes behind isn't done", x.ofClown(0, 3), NONE);
        due("at 9999", x.played(3), 1);
        for (int i = 0; i < 9; i++) {
            x.undo();
        }
        due("each was a step", x.is(0), 9990);
        due("nine from 9990 on", x.played(2), NONE);
        due("DAY", x.is(0), 9999);
        due("and what comes behind", x.ofClown(0, 3), 0);
    }
}
