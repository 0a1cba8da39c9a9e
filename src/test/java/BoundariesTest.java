/** Each sentence of the document that names a boundary (too small, too large, empty, full, refused), with a run of its own. */
public final class BoundariesTest {
    private final Check check = new Check();
    private final Runs runs = new Runs(check);

    public static void main(String[] args) {
        BoundariesTest test = new BoundariesTest();
        test.newObject();
        test.feed();
        test.rockBounds();
        test.rockCounts();
        test.rockNumbers();
        test.rockFaultPlaces();
        test.rockEmpty();
        test.rockBegins();
        test.rockFault();
        test.fault();
        test.told();
        test.village();
        test.comes();
        test.blessed();
        test.dayWithoutInn();
        test.dayWithInn();
        test.dayDown();
        test.dayRefused();
        test.calendar();
        test.drift();
        test.undo();
        test.whenDown();
        test.ahead();
        test.certain();
        test.away();
        test.smoke();
        test.inn();
        test.feet();
        test.odds();
        test.see();
        test.went();
        test.write();
        test.tear();
        test.judge();
        test.seed();
        test.keep();
        test.goBack();
        test.check.end();
    }

    private void run(String sentence, String rows) {
        runs.run(sentence, rows);
    }

    // ---- promise 1: a new object

    private void newObject() {
        run("1: no HERMIT", """
            told(0..18) = 0
            fault() = NONE
            day(1) = NOT
            drift(1) = NOT
            whenDown() = NOT
            ahead(0, 0) = NOT
            away(1) = NOT
            inn(1) = NOT
            feet(1, NONE) = NOT
            """);
        run("1: no VILLAGES", """
            village(0, 0) = UNKNOWN
            calendar(0, 0) = UNKNOWN
            certain(0, 0) = UNKNOWN
            smoke(0, 0) = UNKNOWN
            went(0, 0) = UNKNOWN
            write(0, 0) = UNKNOWN
            comes(0) = 0
            odds(0) = 0
            """);
        run("1: nothing kept, nothing to undo, THE SEED is 0", """
            undo() = NOT
            goBack(0..1) = NOT
            blessed(0) = NONE
            judge() = NONE
            tear() = 0
            seed(0) = 0
            """);
    }

    // ---- promise 2: feed

    private void feed() {
        run("2: a number 0 .. 255, too small", "feed(-1) = OUTSIDE \n feed(DEEP) = OUTSIDE \n told(6) = 0");
        run("2: a number 0 .. 255, too large", "feed(256) = OUTSIDE \n feed(FAR) = OUTSIDE \n told(6) = 0");
        run("2: a number 0 .. 255, its ends", "feed(0) = 1 \n feed(255) = 2 \n told(6) = 2");
        run("2: FULL (240)", """
            239 x feed(32)
            feed(32) = 240
            feed(32) = FULL
            feed(0) = FULL
            told(6) = 240
            """);
        run("2: OUTSIDE ahead of FULL", "240 x feed(32) \n feed(-1) = OUTSIDE \n feed(256) = OUTSIDE");
        run("2: a full text is read to its last letter", """
            239 x feed(32)
            feed(120) = 240
            rock() = -11
            fault() = 239
            """);
        run("2: a full text is empty behind rock()", "240 x feed(32) \n rock() = 0 \n feed(104) = 1");
    }

    // ---- promise 3: rock

    private void reads(String sentence, String text, String answer) {
        run(sentence, "rock " + text + " = " + answer + "\n fault() = NONE");
    }

    private void faulty(String sentence, String text, int number, int place) {
        run(sentence, "rock " + text + " = " + (-10 - number) + "\n fault() = " + place + "\n told(3) = 0");
    }

    private void rockBounds() {
        faulty("3: K 1 .. 9, too small", "h0 0 0;", 2, 1);
        faulty("3: K 1 .. 9, too large", "h10 0 0;", 2, 1);
        run("3: K 1 .. 9, its ends", "rock h1 0 0; = 0 \n told(0) = 1 \n rock h9 0 0; = 0 \n told(0) = 9");
        faulty("3: Y 0 .. 30, too large", "h1 31 0;", 2, 3);
        run("3: Y 0 .. 30, its ends", "rock h1 0 0; = 0 \n told(1) = 0 \n rock h1 30 0; = 0 \n told(1) = 30");
        faulty("3: I 0 .. 9, too large", "h1 0 10;", 2, 5);
        run("3: I 0 .. 9, its ends", "rock h1 0 0; = 0 \n told(2) = 0 \n rock h1 0 9; = 0 \n told(2) = 9");
        faulty("3: D 0 .. 9, too large", "h1 0 0;v10 1 0 0;", 2, 8);
        run("3: D 0 .. 9, its ends", "rock h1 0 0;v0 1 0 0;v9 1 0 0; = 2 \n village(0..1, 0) = 0 9");
        faulty("3: P 1 .. 9, too small", "h1 0 0;v0 0 0 0;", 2, 10);
        faulty("3: P 1 .. 9, too large", "h1 0 0;v0 10 0 0;", 2, 10);
        run("3: P 1 .. 9, its ends", "rock h1 0 0;v0 1 0 0;v0 9 0 0; = 2 \n village(0..1, 1) = 1 9");
        faulty("3: O 0 .. P less 1, of 1", "h1 0 0;v0 1 1 0;", 2, 12);
        faulty("3: O 0 .. P less 1, of 9", "h1 0 0;v0 9 9 0;", 2, 12);
        run("3: O 0 .. P less 1, its ends", "rock h1 0 0;v0 9 0 0;v0 9 8 0; = 2 \n village(0..1, 2) = 0 8");
        faulty("3: Q 0 .. 100, too large", "h1 0 0;v0 1 0 101;", 2, 14);
        run("3: Q 0 .. 100, its ends", "rock h1 0 0;v0 1 0 0;v0 1 0 100; = 2 \n village(0..1, 3) = 0 100");
        faulty("3: FEAST T 0 .. 999, too large", "h1 0 0;f1000;", 2, 8);
        run("3: FEAST T 0 .. 999, its ends", """
            rock h1 0 0;v0 9 1 0;f0;f999; = 1
            told(4) = 2
            comes(0) = 1
            comes(998..1000) = 0 1 1
            """);
        faulty("3: FOG T 0 .. 999, too large", "h1 0 0;g1000;", 2, 8);
        run("3: FOG T 0 .. 999, its ends", """
            rock h1 0 0;v1 1 0 0;v0 1 0 0;g0;g999; = 2
            told(5) = 2
            comes(0..1) = 2 3
            comes(998..1000) = 3 2 3
            """);
    }

    private void rockCounts() {
        faulty("3: 'h' first", "v0 1 0 0;h1 0 0;", 1, 0);
        faulty("3: 'h' once", "h1 0 0;v0 1 0 0;h1 0 0;", 3, 16);
        String eight = "v0 1 0 0;".repeat(8);
        reads("3: 8 VILLAGES at most", "h1 0 0;" + eight, "8");
        faulty("3: a ninth VILLAGE", "h1 0 0;" + eight + "v0 1 0 0;", 3, 79);
        faulty("3: a ninth VILLAGE, at its word though its NUMBERS are bad", "h1 0 0;" + eight + " v99 1 0 0;", 3, 80);
        run("3: 8 FEASTS at most", "rock h1 0 0;f0;f1;f2;f3;f4;f5;f6;f7; = 0 \n told(4) = 8");
        faulty("3: a ninth FEAST", "h1 0 0;f0;f1;f2;f3;f4;f5;f6;f7;f8;", 3, 31);
        faulty("3: a ninth FEAST, though its day is told already", "h1 0 0;f0;f1;f2;f3;f4;f5;f6;f7;f0;", 3, 31);
        run("3: 8 days of FOG at most", "rock h1 0 0;g0;g1;g2;g3;g4;g5;g6;g7; = 0 \n told(5) = 8");
        faulty("3: a ninth day of FOG", "h1 0 0;g0;g1;g2;g3;g4;g5;g6;g7;g8;", 3, 31);
        reads("3: 8 of each", "h1 0 0;" + "v0 1 0 0;".repeat(8) + "f0;f1;f2;f3;f4;f5;f6;f7;g0;g1;g2;g3;g4;g5;g6;g7;", "8");
        faulty("3: each FEAST once", "h1 0 0;f7;f8;f7;", 4, 14);
        faulty("3: each FEAST once, whatever its figures", "h1 0 0;f7;f007;", 4, 11);
        faulty("3: each FEAST once, the last day", "h1 0 0;f999;f999;", 4, 13);
        faulty("3: each day of FOG once", "h1 0 0;g0;g0;", 4, 11);
        reads("3: by the same word: a FEAST may be a day of FOG", "h1 0 0;f7;g7;", "0");
    }

    private void rockNumbers() {
        reads("3: one to three figures", "h001 01 1;v000 009 08 100;f000;g099;", "1");
        faulty("3: no figure", "h1 0 0;f;", 1, 8);
        faulty("3: four figures", "h1 0 0;f0001;", 2, 8);
        faulty("3: four figures, of K", "h0001 0 0;", 2, 1);
        faulty("3: more than four figures", "h1 0 0;f" + "0".repeat(200) + ";", 2, 8);
        faulty("3: figures beyond what an int can hold", "h4294967297 0 0;", 2, 1);
        faulty("3: a sign is no figure", "h-1 0 0;", 1, 1);
        reads("3: blanks anywhere", "  h 1  0   0 ;  v  0 1 0 0  ; f  3 ;g 4;   ", "1");
        faulty("3: no blank within a NUMBER", "h1 0 0;f1 2;", 1, 10);
        faulty("3: two NUMBERS side by side need a blank", "h100;", 2, 1);
        faulty("3: two NUMBERS side by side need a blank, the last", "h1 00;", 1, 5);
        reads("3: a NUMBER and a word need none", "h1 0 0;v0 1 0 0;", "1");
        faulty("3: another blank than 32, 9", "h1 0\t0;", 1, 4);
        run("3: another blank than 32, 10", "text h1 0 \n feed(10) \n rock() = -11 \n fault() = 4");
        run("3: a letter above 127", "feed(232) = 1 \n rock() = -11 \n fault() = 0");
        run("3: the letter 0", "text h1 0 0; \n feed(0) = 8 \n rock() = -11 \n fault() = 7");
    }

    private void rockFaultPlaces() {
        faulty("3: the end at the text's length, behind a word", "h", 1, 1);
        faulty("3: the end at the text's length, behind a NUMBER", "h1 0", 1, 4);
        faulty("3: the end at the text's length, ahead of ';'", "h1 0 0", 1, 6);
        run("3: the end at the text's length, behind blanks", "text h1 0 0 \n 3 x feed(32) \n rock() = -11 \n fault() = 9");
        run("3: the end at the text's length, of a full text", """
            text h1 0 0;v0 1 0 0
            225 x feed(32)
            told(6) = 240
            rock() = -11
            fault() = 240
            """);
        faulty("3: at the first letter that has one, 2 ahead of 1", "h0 x", 2, 1);
        faulty("3: at the first letter that has one, 1 ahead of 2", "hx0", 1, 1);
        faulty("3: at the first letter that has one, 4 ahead of 1", "h1 0 0;f1;f1", 4, 11);
        faulty("3: at the first letter that has one, 3 ahead of 2", "h1 0 0;h0", 3, 7);
        faulty("3: of these the least, 1 and 2: no NUMBER can stand there", "h1 0 0;1234", 1, 7);
        faulty("3: of these the least, 1 and 2: a NUMBER too many", "h1 0 0 99;", 1, 7);
        faulty("3: of these the least, 1 and 3: 'h' within a clause", "h1 0 h", 1, 5);
        faulty("3: of these the least, 1 and 3: a ninth 'f' within a clause", "h1 0 0;f0;f1;f2;f3;f4;f5;f6;f7;v0 f", 1, 34);
        faulty("3: of these the least, 2 and 4: a day of four figures", "h1 0 0;f1;f0001;", 2, 11);
        faulty("3: a letter that is no word", "h1 0 0;w", 1, 7);
        faulty("3: a word is one letter", "h1 0 0;vv0 1 0 0;", 1, 8);
        faulty("3: ';' alone", "h1 0 0;;", 1, 7);
    }

    private void rockEmpty() {
        run("3: an empty text has no FAULT: no HERMIT", "rock() = 0 \n fault() = NONE \n told(0..18) = 0 \n day(1) = NOT");
        run("3: a text of blanks alone has no FAULT: no HERMIT", "240 x feed(32) \n rock() = 0 \n fault() = NONE \n day(1) = NOT");
        run("3: an empty text takes what was", """
            rock h9 30 9;v1 1 0 0;f1;g2; = 1
            rock h9 30 9;v1 1 0 0;f1;g2; = 1
            day(5) = 5
            rock() = 0
            told(0..18) = 0
            comes(1..2) = 0
            village(0, 0) = UNKNOWN
            whenDown() = NOT
            """);
        run("3: a HERMIT without VILLAGES", "rock h2 0 0; = 0 \n told(3) = 0 \n day(99) = 2");
    }

    private void rockBegins() {
        run("3: DAY 0, nobody BLESSED, THE INN empty", """
            rock h9 0 1;v1 2 1 0;v1 2 1 0;v1 2 1 0; = 3
            day(4) = 4
            told(7..15) = 4 0 0 3 0 1 12 1 2
            rock h9 0 1;v1 2 1 0;v1 2 1 0;v1 2 1 0; = 3
            told(7..15) = 0
            blessed(0..4) = NONE
            village(0..2, 5) = NONE
            """);
        run("3: EMPTY days one behind the other are counted anew", """
            rock h3 0 0; = 0
            day(2) = 2
            told(8) = 2
            rock h3 0 0; = 0
            told(8) = 0
            whenDown() = 2
            """);
        run("3: he is not DOWN any more", """
            rock h1 0 0; = 0
            day(1) = 1
            told(9) = 1
            rock h1 0 0; = 0
            told(9) = 0
            day(1) = 1
            """);
        run("3: FAILED days are counted anew", """
            rock h1 0 0;v0 1 0 0;v0 1 0 0; = 2
            day(3) = 3
            told(11) = 3
            rock h1 0 0;v0 1 0 0; = 1
            told(11) = 0
            """);
        run("3: CALENDARS as told", """
            rock h1 0 0;v0 3 1 0;v0 3 2 0; = 2
            calendar(0, 2) = 1
            calendar(1, NONE) = 2
            rock h1 0 0;v0 3 1 0;v0 3 2 0; = 2
            village(0..1, 2) = 1 2
            village(0..1, 4) = 0
            """);
        run("3: nothing SEEN, no BOOK", """
            rock h1 0 0; = 0
            see(0, 1) = 1
            write(0, NONE) = 1
            rock h1 0 0; = 0
            told(16..17) = 0
            judge() = NONE
            tear() = 0
            """);
        run("3: IMAGES, what could be undone are gone; THE SEED stays", """
            rock h9 0 0; = 0
            keep(0) = 1
            keep(1) = 1
            day(1) = 1
            told(18) = 1
            seed(77) = 0
            rock h9 0 0; = 0
            goBack(0..1) = NOT
            told(18) = 0
            undo() = NOT
            seed(0) = 77
            """);
        run("3: nothing of rocks before, of good ones or bad", """
            rock h9 30 9;v9 9 8 9;f1;g2; = 1
            rock h9 30 9;v9 9 8 9;f3;g4; = 1
            rock h9 30 9;v9 9 8 9;f5;g6;x = -11
            rock h1 0 0;v1 7 0 0; = 1
            told(0..5) = 1 0 0 1 0 0
            comes(0..7) = 0 0 0 0 0 0 0 1
            rock v0 1 0 0; = -11
            rock h1 0 0;v1 1 0 0;f1;f3;f5;g2;g4;g6; = 1
            told(4..5) = 3
            """);
    }

    private void rockFault() {
        run("3: with a FAULT all else is as it was, but THE TEXT is empty", """
            rock h3 1 0;v0 2 0 10;v1 4 1 0;f9;g5; = 2
            keep(1) = 1
            day(2) = 2
            see(1, 1) = 1
            write(0, 0) = 1
            seed(5) = 0
            rock h9 9 9;v9 9 8 100;f1;g1;g1; = -14
            told(0..18) = 3 1 0 2 1 1 0 2 0 0 2 0 0 2 0 0 1 1 1
            village(0, 0..5) = 0 2 0 10 0 0
            comes(9) = 3
            comes(5) = 0
            judge() = NONE
            seed(5) = 5
            undo() = 0
            goBack(1) = 1
            feed(104) = 1
            """);
        run("3: THE TEXT is empty then: the end of a shorter one is its own length", """
            rock h1 0 0;v0 1 0 0; = 1
            rock h1 0 0 = -11
            fault() = 6
            rock h1 0 0;v0 1 0 0 = -11
            fault() = 15
            rock h1 0 0;v0 1 0 = -11
            fault() = 13
            rock h = -11
            fault() = 1
            rock h1 0 0; = 0
            """);
        run("3: -10 less the number of its FAULT", """
            rock x = -11
            rock h0 = -12
            rock h1 0 0;h = -13
            rock h1 0 0;f1;f1 = -14
            """);
    }

    // ---- promise 4: fault

    private void fault() {
        run("4: NONE ahead of any rock()", "text x \n fault() = NONE");
        run("4: from 0 on", "rock x = -11 \n fault() = 0");
        run("4: of the latest rock()", "rock h1 0 z = -11 \n fault() = 5 \n rock h0 = -12 \n fault() = 1");
        run("4: NONE behind a good rock()", "rock x = -11 \n rock h1 0 0; = 0 \n fault() = NONE");
        run("4: NONE behind an empty text", "rock h x = -11 \n fault() = 2 \n rock() = 0 \n fault() = NONE");
    }

    // ---- promise 5: told

    private void told() {
        run("5: OUTSIDE, too small", "told(-1) = OUTSIDE \n told(DEEP) = OUTSIDE");
        run("5: OUTSIDE, too large", "told(19) = OUTSIDE \n told(FAR) = OUTSIDE");
        run("5: 6 letters of THE TEXT, none and some", "told(6) = 0 \n text abc \n told(6) = 3 \n rock() \n told(6) = 0");
        run("5: 9 1 he is DOWN, 0 not", "rock h1 0 0; \n told(9) = 0 \n day(1) \n told(9) = 1");
        run("5: 10 how many were BLESSED, one twice", "rock h1 0 0;v0 1 0 0; \n day(2) \n told(10) = 2");
        run("5: 18 how many can be undone, at most 20", "rock h1 0 0;v0 1 0 0; \n 20 x calendar(0, 0) \n told(18) = 20 \n day(1) \n told(18) = 20");
    }

    // ---- promise 6: village

    private void village() {
        run("6: UNKNOWN, too small", "rock h1 0 0;v0 1 0 0; \n village(-1, 0) = UNKNOWN \n village(DEEP, 0) = UNKNOWN");
        run("6: UNKNOWN, too large", "rock h1 0 0;v0 1 0 0; \n village(1, 0) = UNKNOWN \n village(FAR, 0) = UNKNOWN");
        run("6: UNKNOWN, a ninth", "rock h1 0 0;" + "v0 1 0 0;".repeat(8) + " = 8 \n village(7, 1) = 1 \n village(8, 1) = UNKNOWN");
        run("6: OUTSIDE", "rock h1 0 0;v0 1 0 0; \n village(0, -1) = OUTSIDE \n village(0, 6) = OUTSIDE \n village(0, FAR) = OUTSIDE");
        run("6: UNKNOWN ahead of OUTSIDE", "rock h1 0 0;v0 1 0 0; \n village(1, 6) = UNKNOWN \n village(-1, -1) = UNKNOWN");
        run("6: the OFFSET of one that STAYS away is the one that it has besides", """
            rock h1 0 0;v0 4 3 0;
            calendar(0, NONE) = 3
            village(0, 2) = 3
            village(0, 4) = 1
            calendar(0, 2) = NONE
            village(0, 2) = 2
            village(0, 4) = 0
            """);
        run("6: the day on which it was BLESSED last: NONE, the first day, the latest", """
            rock h9 0 0;v0 3 0 0;v9 1 0 0;
            village(0, 5) = NONE
            day(1)
            village(0..1, 5) = 0 NONE
            day(3)
            village(0, 5) = 3
            """);
        run("6: the day on which it was BLESSED last, none of the latest 60", """
            rock h9 0 0;v0 1 0 0;v0 1 0 0;
            calendar(1, NONE)
            day(1)
            calendar(0, NONE)
            calendar(1, 0)
            day(70)
            blessed(0) = NONE
            village(0..1, 5) = 0 70
            """);
    }

    // ---- promise 7: comes

    private void comes() {
        run("7: 0 .. 9999, too small", "rock h1 0 0;v0 1 0 0; \n comes(-1) = OUTSIDE \n comes(DEEP) = OUTSIDE");
        run("7: 0 .. 9999, too large", "rock h1 0 0;v0 1 0 0; \n comes(10000) = OUTSIDE \n comes(FAR) = OUTSIDE");
        run("7: 0 .. 9999, its ends", "rock h1 0 0;v0 1 0 0;v0 9 0 0; \n comes(0) = 3 \n comes(9999) = 3 \n comes(9998) = 1");
        run("7: whose OFFSET is what t leaves over by PERIOD", "rock h1 0 0;v0 3 2 0; \n comes(0..5) = 0 0 1 0 0 1");
        run("7: all that do not STAY away, if t is a FEAST", """
            rock h1 0 0;v0 9 5 0;v0 9 5 0;v0 9 6 0;f4;
            calendar(1, NONE) = 5
            comes(3..6) = 0 5 1 4
            """);
        run("7: not by FOG with a ROAD above 0", "rock h1 0 0;v0 1 0 0;v1 1 0 0;v9 1 0 0;g10; \n comes(9..11) = 7 1 7");
        run("7: not by FOG, a FEAST too", "rock h1 0 0;v0 9 0 0;v1 9 0 0;f10;g10; \n comes(10) = 1");
        run("7: not before day D", "rock h1 0 0;v9 1 0 0;v1 1 0 0; \n comes(0..1) = 0 2 \n comes(8..9) = 2 3");
        run("7: not before day D, a FEAST too", "rock h1 0 0;v3 9 0 0;f2;f3; \n comes(2..3) = 0 1");
        run("7: not on one of the Y days behind, of day 0", "rock h9 3 0;v0 1 0 0; \n day(1) \n comes(0..5) = 1 0 0 0 1 1");
        run("7: not on one of the Y days behind, of day 5", """
            rock h9 3 0;v0 9 5 0;
            day(6)
            village(0, 5) = 5
            calendar(0, 6)
            comes(6) = 0
            calendar(0, 8)
            comes(8) = 0
            calendar(0, 0)
            comes(9) = 1
            calendar(0, 4)
            comes(4) = 1
            """);
        run("7: not on one of the Y days behind, a FEAST too", "rock h9 3 0;v0 9 0 0;f3;f4; \n day(1) \n comes(3..4) = 0 1");
        run("7: Y 0: on the next day again", "rock h9 0 0;v0 1 0 0; \n day(1) \n comes(1) = 1");
        run("7: Y 30", "rock h1 30 0;v0 1 0 0; \n day(1) \n comes(1) = 0 \n comes(30..31) = 0 1");
        run("7: BLESSED last: an earlier blessing is of no matter", """
            rock h9 3 0;v0 1 0 0;
            day(5)
            village(0, 5) = 4
            comes(1..3) = 1
            comes(4..8) = 1 0 0 0 1
            """);
    }

    // ---- promise 8: blessed

    private void blessed() {
        run("8: NONE: nobody, two came, none came", "rock h9 0 0;v0 3 0 0;v0 3 1 0;v0 3 1 0; \n day(3) \n blessed(0..2) = 0 NONE NONE");
        run("8: NONE: not one of the days that were", """
            rock h9 0 0;v0 1 0 0;
            blessed(0) = NONE
            day(3)
            blessed(2..3) = 0 NONE
            blessed(-1) = NONE
            blessed(FAR) = NONE
            blessed(DEEP) = NONE
            """);
        run("8: the latest 60 days: the 60th, the 61st", """
            rock h9 0 0;v0 1 0 0;
            day(60)
            blessed(0) = 0
            day(1)
            blessed(0..1) = NONE 0
            blessed(60..61) = 0 NONE
            """);
        run("8: the latest 60 days, all of them behind a wrap-around", """
            rock h9 0 0;v0 2 0 0;v0 2 1 0;
            day(99)
            blessed(38) = NONE
            blessed(39..42) = 1 0 1 0
            blessed(98) = 0
            """);
        run("8: nobody where one was BLESSED 60 days before", "rock h9 0 0;v0 9 0 0; \n day(61) \n blessed(60) = NONE \n blessed(54) = 0");
    }

    // ---- promise 9: day

    private void dayWithoutInn() {
        run("9: one COMES: BLESSED", "rock h9 0 0;v0 1 0 0; \n day(1) = 1 \n told(8..14) = 0 0 1 0 0 0 0");
        run("9: two COME: FAILED", "rock h9 0 0;v0 1 0 0;v0 1 0 0; \n day(1) = 1 \n told(8..14) = 0 0 0 1 0 0 0 \n village(0..1, 5) = NONE");
        run("9: eight COME: FAILED", "rock h9 0 0;" + "v0 1 0 0;".repeat(8) + " \n day(1) = 1 \n told(11) = 1");
        run("9: none COMES: EMPTY", "rock h9 0 0; \n day(1) = 1 \n told(8..14) = 1 0 0 0 1 0 0");
        run("9: FEET: ROAD of all that came, 2 times, FAILED days too", "rock h9 0 0;v1 1 0 0;v2 2 0 0; \n day(3) \n told(13) = 8");
    }

    private void dayWithInn() {
        run("9: as many as I wait: nobody goes home", "rock h9 0 2;v0 9 0 0;v0 9 0 0;v0 9 0 0; \n day(1) \n told(14..15) = 2 0");
        run("9: one more than I waits: the last one goes home", """
            rock h9 0 2;v0 9 0 0;v0 9 0 0;v0 9 0 0;v0 9 0 0;
            day(1)
            told(14..15) = 2 1
            day(3)
            blessed(0..3) = 0 1 2 NONE
            """);
        run("9: the last ones go home: eight at once, I 1", "rock h9 0 1;" + "v0 9 0 0;".repeat(8) + " \n day(1) \n told(14..15) = 1 6");
        run("9: a row of nine, and eight more come", """
            rock h9 0 9;v0 1 0 0;v0 1 0 0;v0 1 0 0;v0 1 0 0;v0 1 0 0;v0 1 0 0;v0 1 0 0;v0 1 0 0;
            day(1)
            told(14..15) = 7 0
            day(1)
            told(14..15) = 9 5
            day(1)
            told(14..15) = 9 12
            day(7)
            blessed(0..9) = 0 1 2 3 4 5 6 7 0 1
            """);
        run("9: the lesser VILLAGE first, behind those who wait", """
            rock h9 0 9;v0 9 1 0;v0 9 0 0;v0 9 0 0;
            day(3)
            blessed(0..2) = 1 2 0
            """);
        run("9: nobody in the row: EMPTY", "rock h9 0 1;v0 9 0 0;v0 9 0 0; \n day(2) \n told(12) = 0 \n day(1) \n told(12) = 1 \n told(8) = 1");
        run("9: one who waits ends a run of EMPTY days", """
            rock h2 0 5;v0 9 1 0;v0 9 1 0;v0 9 3 0;
            day(1)
            told(8) = 1
            day(2) = 3
            told(8) = 0
            blessed(0..2) = NONE 0 1
            """);
        run("9: one may wait more than once; a YEAR counts only when one COMES", """
            rock h9 2 9;v0 9 0 0;v0 3 0 0;f1;
            day(2)
            blessed(0..1) = 0 1
            told(14) = 1
            day(1)
            blessed(2) = 1
            told(14) = 0
            """);
        run("9: nobody FAILED with an INN", "rock h9 0 1;v0 1 0 0;v0 1 0 0; \n day(9) \n told(10..12) = 9 0 0");
        run("9: FEET of all that came, who goes home too", "rock h9 0 1;v1 1 0 0;v2 1 0 0;v2 1 0 0;v2 1 0 0; \n day(3) \n told(13) = 16");
    }

    private void dayDown() {
        run("9: at K he comes DOWN, K 1", "rock h1 0 0;v0 2 0 0; \n day(99) = 2 \n told(8..9) = 1 1");
        run("9: at K he comes DOWN, K 9", "rock h9 0 0;v0 9 0 0; \n calendar(0, NONE) \n day(8) = 8 \n told(9) = 0 \n day(8) = 9 \n told(8..9) = 9 1");
        run("9: K less 1 one behind the other are not enough", "rock h9 0 0;v0 9 8 0; \n day(99) = 99 \n told(8..9) = 0 0 \n told(12) = 88");
        run("9: a FAILED day parts EMPTY ones", "rock h2 0 0;v0 2 1 0;v0 2 1 0; \n day(9) = 9 \n told(8) = 1 \n told(11..12) = 4 5");
        run("9: EMPTY days of several calls are one behind the other", "rock h3 0 0; \n day(1) \n day(1) \n told(8) = 2 \n day(1) \n told(9) = 1");
    }

    private void dayRefused() {
        run("9: n 1 .. 99, too small", "rock h9 0 0;v0 1 0 0; \n day(0) = OUTSIDE \n day(-1) = OUTSIDE \n day(DEEP) = OUTSIDE \n told(7) = 0");
        run("9: n 1 .. 99, too large", "rock h9 0 0;v0 1 0 0; \n day(100) = OUTSIDE \n day(FAR) = OUTSIDE \n told(7) = 0");
        run("9: n 1 .. 99, its ends", "rock h9 0 0;v0 1 0 0; \n day(1) = 1 \n day(99) = 100");
        run("9: NOT: no HERMIT", "day(1) = NOT \n day(0) = OUTSIDE");
        run("9: NOT: he is DOWN", "rock h1 0 0; \n day(1) = 1 \n day(1) = NOT \n day(100) = OUTSIDE \n told(7) = 1 \n told(18) = 1");
        run("9: FULL: DAYS are above 9000 as it is called", """
            rock h9 0 0;v0 1 0 0;
            90 x day(99)
            day(90) = 9000
            day(1) = 9001
            day(1) = FULL
            drift(1) = FULL
            day(0) = OUTSIDE
            told(7) = 9001
            """);
        run("9: n may pass that", "rock h9 0 0;v0 1 0 0; \n 90 x day(99) \n day(90) = 9000 \n day(99) = 9099 \n day(1) = FULL");
        run("9: NOT ahead of FULL", """
            rock h1 0 0;v0 1 0 0;
            90 x day(99)
            day(90) = 9000
            calendar(0, NONE) = 0
            day(99) = 9001
            day(1) = NOT
            drift(1) = NOT
            day(0) = OUTSIDE
            """);
        run("9: FULL days go on behind undo()", "rock h9 0 0;v0 1 0 0; \n 90 x day(99) \n day(91) = 9001 \n day(1) = FULL \n undo() = 19 \n day(1) = 8911");
    }

    // ---- promise 10: calendar

    private void calendar() {
        run("10: UNKNOWN", "rock h9 0 0;v0 3 0 0; \n calendar(-1, 0) = UNKNOWN \n calendar(1, 0) = UNKNOWN \n calendar(FAR, 0) = UNKNOWN \n told(18) = 0");
        run("10: OUTSIDE (o below PERIOD)", "rock h9 0 0;v0 3 0 0; \n calendar(0, 3) = OUTSIDE \n calendar(0, FAR) = OUTSIDE \n told(18) = 0");
        run("10: OUTSIDE, below NONE", "rock h9 0 0;v0 3 0 0; \n calendar(0, -2) = OUTSIDE \n calendar(0, DEEP) = OUTSIDE \n village(0, 4) = 0");
        run("10: o, its ends", "rock h9 0 0;v0 3 1 0; \n calendar(0, 2) = 1 \n calendar(0, 0) = 2 \n calendar(0, 0) = 0 \n told(18) = 3");
        run("10: UNKNOWN ahead of OUTSIDE", "rock h9 0 0;v0 3 0 0; \n calendar(1, 9) = UNKNOWN");
        run("10: it STAYS away, once more", "rock h9 0 0;v0 3 1 0; \n calendar(0, NONE) = 1 \n calendar(0, NONE) = NONE \n calendar(0, 0) = NONE \n told(18) = 3");
        run("10: PERIOD 1 has one OFFSET", "rock h9 0 0;v0 1 0 0; \n calendar(0, 1) = OUTSIDE \n calendar(0, 0) = 0");
        run("10: when he is DOWN, too", "rock h1 0 0;v1 3 1 0; \n day(1) = 1 \n told(9) = 1 \n calendar(0, 2) = 1 \n undo() = 1");
    }

    // ---- promise 11: drift

    private void drift() {
        run("11: n 1 .. 99, too small", "rock h9 0 0;v0 1 0 0; \n drift(0) = OUTSIDE \n drift(DEEP) = OUTSIDE \n seed(0) = 0");
        run("11: n 1 .. 99, too large", "rock h9 0 0;v0 1 0 0; \n drift(100) = OUTSIDE \n drift(FAR) = OUTSIDE \n seed(0) = 0");
        run("11: n 1 .. 99, its ends", "rock h9 0 0;v0 1 0 0; \n drift(1) = 1 \n drift(99) = 100");
        run("11: NOT: no HERMIT", "seed(9) \n drift(1) = NOT \n drift(0) = OUTSIDE \n seed(0) = 9");
        run("11: NOT: he is DOWN", "rock h1 0 0; \n day(1) \n seed(9) \n drift(1) = NOT \n drift(100) = OUTSIDE \n seed(0) = 9");
        run("11: FULL: DAYS are above 9000 as it is called (n may pass that)", """
            rock h9 0 0;v0 1 0 0;
            90 x day(99)
            day(90) = 9000
            drift(99) = 9099
            seed(7)
            drift(1) = FULL
            drift(100) = OUTSIDE
            seed(0) = 7
            """);
        // the SEED 0 becomes 12345: a DRAW of 4 is 0
        run("11: a DRAW of VILLAGES, if there are any", "rock h9 0 0; \n drift(1) = 1 \n seed(0) = 12345");
        // then 1406932606, whose DRAW of 2 is 0 (21468), and 654583775: 9988 leaves 7 over by 9
        run("11: on 0: its OFFSET becomes a DRAW of its PERIOD", """
            rock h9 0 0;v0 9 0 0;v0 9 0 0;
            drift(1) = 1
            seed(0) = 654583775
            village(0..1, 2) = 7 0
            """);
        run("11: it STAYS away, if it did", """
            rock h9 0 0;v0 9 0 0;
            calendar(0, NONE) = 0
            drift(1) = 1
            village(0, 2) = 7
            village(0, 4) = 1
            calendar(0, 1) = NONE
            """);
        // 2147483647 becomes 1043980748: 15929 leaves 1 over by 4
        run("11: not on 0: nothing but a DAY", """
            rock h9 0 0;v0 9 5 0;
            seed(2147483647) = 0
            drift(1) = 1
            seed(0) = 1043980748
            village(0, 2) = 5
            """);
        run("11: till he is DOWN: no DRAW behind it", "rock h1 0 0; \n drift(99) = 1 \n seed(0) = 12345 \n drift(1) = NOT");
        run("11: ahead of each: the new OFFSET counts on the same DAY", "rock h9 0 0;v0 9 0 0; \n drift(1) = 1 \n told(12) = 1 \n blessed(0) = NONE");
    }

    // ---- promise 12: undo

    private void undo() {
        run("12: NOT: none", "undo() = NOT \n rock h9 0 0; \n undo() = NOT \n day(1) \n undo() = 0 \n undo() = NOT");
        run("12: refused ones are not kept", """
            rock h9 0 0;v0 2 0 0;
            day(1)
            day(0) = OUTSIDE
            calendar(0, 2) = OUTSIDE
            calendar(1, 0) = UNKNOWN
            drift(100) = OUTSIDE
            undo() = 0
            told(7) = 0
            """);
        run("12: 20 at most are kept", "rock h9 0 0;v0 1 0 0; \n 20 x day(1) \n undo() = 19 \n 19 x undo() \n told(7) = 0 \n undo() = NOT");
        run("12: the oldest are lost", "rock h9 0 0;v0 1 0 0; \n 21 x day(1) \n undo() = 19 \n 19 x undo() \n told(7) = 1 \n undo() = NOT");
        run("12: the oldest are lost, three times round", """
            rock h9 0 0;v0 1 0 0;
            65 x day(1)
            told(18) = 20
            5 x undo()
            told(18) = 15
            told(7) = 60
            7 x day(1)
            told(18) = 20
            20 x undo()
            told(7) = 47
            undo() = NOT
            """);
        run("12: a day() of several DAYS is one", "rock h9 0 0;v0 1 0 0; \n day(5) \n day(9) \n undo() = 1 \n told(7) = 5");
        run("12: all of section 2 is as ahead of it", """
            rock h2 1 1;v1 2 1 0;v2 2 1 0;v3 2 1 0;
            day(4) = 4
            told(7..15) = 4 0 0 2 0 2 14 1 1
            calendar(0, NONE) = 1
            drift(9)
            undo() = 2
            undo() = 1
            told(7..15) = 4 0 0 2 0 2 14 1 1
            village(0, 2) = 1
            village(0, 4) = 0
            blessed(0..4) = NONE 0 NONE 0 NONE
            village(0..2, 5) = 3 NONE NONE
            day(1)
            blessed(4) = 1
            """);
        run("12: he is up again", "rock h1 0 0; \n day(1) \n told(9) = 1 \n undo() = 0 \n told(8..9) = 0 \n day(1) = 1");
        run("12: days written over by later ones are there again", "rock h9 0 0;v0 2 0 0; \n day(60) \n day(61) \n undo() = 1 \n blessed(0..3) = 0 NONE 0 NONE \n blessed(58..60) = 0 NONE NONE");
        run("12: THE SEED stays", "rock h9 0 0; \n drift(1) \n undo() = 0 \n seed(0) = 12345");
        run("12: SEEN, THE BOOK stay", "rock h9 0 0; \n day(1) \n see(0, 0) \n write(0, NONE) \n undo() \n told(16..17) = 1");
        run("12: tried calls cannot be undone", "rock h9 0 0;v0 1 0 0; \n day(1) \n whenDown() \n ahead(9, 0) \n away(9) \n inn(9) \n feet(9, 0) \n undo() = 0 \n told(7) = 0");
    }

    // ---- promise 13: whenDown

    private void whenDown() {
        run("13: NOT: no HERMIT", "whenDown() = NOT");
        run("13: NOT: he is DOWN", "rock h1 0 0; \n day(1) \n whenDown() = NOT");
        run("13: the first DAY", "rock h1 0 0; \n whenDown() = 0");
        run("13: EMPTY days until now count", "rock h9 0 0; \n day(8) \n whenDown() = 8 \n told(7..9) = 8 8 0");
        run("13: NONE", "rock h1 0 0;v0 1 0 0; \n whenDown() = NONE");
        run("13: 999 DAYS from now at most, the 999th", "rock h1 0 0;v1 1 0 0;v0 9 0 0;g998; \n whenDown() = 998");
        run("13: 999 DAYS from now at most, the 1000th", "rock h1 0 0;v1 1 0 0;v0 4 0 0;g999; \n whenDown() = NONE \n day(1) \n whenDown() = 999");
        run("13: with those who wait", "rock h1 0 3;v0 9 0 0;v0 9 0 0;v0 9 0 0; \n day(1) \n whenDown() = 3 \n told(14) = 2");
        run("13: all going on as now: a YEAR", "rock h2 2 0;v0 1 0 0; \n whenDown() = 2");
    }

    // ---- promise 14: ahead

    private void ahead() {
        run("14: n 0 .. 60, too small", "rock h9 0 0; \n ahead(-1, 0) = OUTSIDE \n ahead(DEEP, 0) = OUTSIDE");
        run("14: n 0 .. 60, too large", "rock h9 0 0; \n ahead(61, 0) = OUTSIDE \n ahead(FAR, 0) = OUTSIDE");
        run("14: n 0 .. 60, its ends", "rock h2 0 0;v0 2 0 0; \n ahead(0, 0..1) = 0 \n ahead(60, 0) = 30 \n ahead(59, 0) = 29");
        run("14: what, OUTSIDE", "rock h9 0 0; \n ahead(1, -1) = OUTSIDE \n ahead(1, 2) = OUTSIDE \n ahead(1, FAR) = OUTSIDE");
        run("14: NOT: no HERMIT", "ahead(0, 0) = NOT \n ahead(60, 1) = NOT");
        run("14: OUTSIDE ahead of NOT", "ahead(61, 0) = OUTSIDE \n ahead(0, 2) = OUTSIDE");
        run("14: as many as he stays", "rock h3 0 0; \n ahead(2..4, 0) = 2 3 3 \n day(2) \n ahead(60, 0) = 1");
        run("14: he is DOWN: none", "rock h1 0 0;v0 2 1 0;v0 2 1 0; \n day(1) \n told(9) = 1 \n ahead(60, 0..1) = 0");
        run("14: of the next days alone", "rock h9 0 0;v0 2 0 0;v0 2 0 0; \n day(4) \n ahead(3, 0..1) = 1 2");
    }

    // ---- promise 15: certain

    private void certain() {
        run("15: UNKNOWN, a VILLAGE", "rock h9 0 0;v0 1 0 0; \n certain(1, 1) = UNKNOWN \n certain(1, -1) = UNKNOWN \n certain(1, FAR) = UNKNOWN");
        run("15: UNKNOWN, bits of such", "rock h9 0 0;v0 1 0 0; \n certain(2, 0) = UNKNOWN \n certain(3, 0) = UNKNOWN \n certain(-1, 0) = UNKNOWN \n certain(DEEP, 0) = UNKNOWN");
        run("15: UNKNOWN, a ninth bit", "rock h9 0 0;" + "v0 8 0 0;".repeat(8) + " \n certain(256, 0) = UNKNOWN \n certain(511, 0) = UNKNOWN \n certain(255, 0..7) = 0 1 2 3 4 5 6 7");
        run("15: NONE: of nobody", "rock h9 0 0;v0 1 0 0; \n certain(0, 0) = NONE");
        run("15: NONE: not of the SET", "rock h9 0 0;v0 1 0 0;v0 2 0 0; \n certain(1, 0..1) = 0 NONE");
        run("15: NONE: no such, too few", "rock h9 0 0;v0 2 0 0;v0 3 0 0; \n certain(1, 0) = NONE \n certain(3, 0..1) = NONE");
        run("15: NONE: no such, too many", "rock h9 0 0;v0 2 0 0;v0 2 0 0;v0 2 0 0; \n certain(7, 0..2) = NONE \n certain(5, 0..2) = 0 NONE 1");
        run("15: NONE: as many as days, but they meet", "rock h9 0 0;v0 2 0 0;v0 3 0 0;v0 6 0 0; \n certain(7, 0..2) = NONE");
        run("15: the first, though a lesser OFFSET is free", "rock h9 0 0;v0 4 0 0;v0 4 0 0;v0 2 0 0; \n certain(7, 0..2) = 0 2 1");
        run("15: those who STAY away, ROADS, FEASTS, FOG, YEAR, INN of no matter", """
            rock h1 30 9;v9 2 1 0;v9 2 1 0;f1;g2;
            calendar(0, NONE) = 1
            certain(3, 0..1) = 0 1
            village(0, 4) = 1
            village(1, 2) = 1
            """);
    }

    // ---- promise 16: away

    private void away() {
        run("16: n 1 .. 30, too small", "rock h9 0 0; \n away(0) = OUTSIDE \n away(-1) = OUTSIDE \n away(DEEP) = OUTSIDE");
        run("16: n 1 .. 30, too large", "rock h9 0 0; \n away(31) = OUTSIDE \n away(FAR) = OUTSIDE");
        run("16: n 1 .. 30, its ends", "rock h9 0 0;v0 1 0 0;v0 9 8 0; \n away(1) = 0 \n away(8..9) = 0 1 \n away(30) = 1");
        run("16: a FEAST on the 30th day alone", "rock h9 0 0;v0 8 0 0;v0 8 1 0;f29; \n away(29) = 0 \n away(30) = 1");
        run("16: a FEAST on the 31st day alone", "rock h9 0 0;v0 8 0 0;v0 8 1 0;f30; \n away(30) = 0 \n day(1) \n away(30) = 1");
        run("16: NOT: no HERMIT", "away(1) = NOT \n away(0) = OUTSIDE");
        run("16: the fewest: none", "rock h9 0 0; \n away(30) = 0");
        run("16: the fewest: all but one of eight", "rock h9 0 0;" + "v0 1 0 0;".repeat(8) + " \n away(30) = 127");
        run("16: the fewest, not the least SET", "rock h9 0 0;v0 3 0 0;v0 3 1 0;v0 1 0 0; \n away(30) = 4");
        run("16: more than those who STAY away now", "rock h9 0 0;v0 1 0 0;v0 1 0 0;v0 1 0 0; \n calendar(0, NONE) \n away(30) = 2 \n calendar(1, NONE) \n away(30) = 0");
        run("16: with an INN: as many as I wait", "rock h9 0 1;v0 9 0 0;v0 9 0 0; \n away(30) = 0");
        run("16: with an INN: nobody goes home", "rock h9 0 1;v0 9 0 0;v0 9 0 0;v0 9 0 0; \n away(30) = 1");
        run("16: with an INN: those who wait now count", "rock h9 0 1;v0 1 0 0;v0 9 1 0; \n calendar(1, 0) \n day(1) \n told(14) = 1 \n calendar(1, 1) \n away(1) = 1 \n away(30) = 1");
        run("16: no DAY more when he is DOWN", "rock h1 0 0;v0 2 1 0;v0 2 1 0; \n away(30) = 0 \n day(1) \n away(30) = 0");
    }

    // ---- promise 17: smoke

    private void smoke() {
        run("17: UNKNOWN", "rock h9 0 0;v0 1 0 0; \n smoke(1, 0) = UNKNOWN \n smoke(-1, 0) = UNKNOWN \n smoke(DEEP, 0) = UNKNOWN");
        run("17: t 0 .. 999, too small", "rock h9 0 0;v0 1 0 0; \n smoke(0, -1) = OUTSIDE \n smoke(0, DEEP) = OUTSIDE");
        run("17: t 0 .. 999, too large", "rock h9 0 0;v0 1 0 0; \n smoke(0, 1000) = OUTSIDE \n smoke(0, FAR) = OUTSIDE");
        run("17: t 0 .. 999, its ends", "rock h9 0 0;v0 9 0 0;v0 9 0 0; \n smoke(0, 0..1) = 0 1 \n smoke(0, 998..999) = 1 0");
        run("17: UNKNOWN ahead of OUTSIDE", "rock h9 0 0;v0 1 0 0; \n smoke(1, 1000) = UNKNOWN");
        run("17: nobody else: it is alone", "rock h9 0 0;v0 1 0 0; \n smoke(0, 5) = 1");
        run("17: ROADS: not before day D", "rock h9 0 0;v0 1 0 0;v3 1 0 0; \n smoke(0, 2..3) = 1 0");
        run("17: FEASTS", "rock h9 0 0;v0 9 0 0;v0 9 0 0;f5; \n smoke(0, 4..6) = 1 0 1 \n calendar(1, NONE) \n smoke(0, 5) = 1");
        run("17: FOG", "rock h9 0 0;v0 1 0 0;v1 1 0 0;g5; \n smoke(0, 4..6) = 0 1 0 \n smoke(1, 5) = 0");
        run("17: no YEAR", "rock h9 30 0;v0 1 0 0;v0 9 5 0; \n day(1) \n comes(1) = 0 \n smoke(1, 1) = 0");
        run("17: without a HERMIT no VILLAGE", "smoke(0, 0) = UNKNOWN");
    }

    // ---- promise 18: inn

    private void inn() {
        run("18: n 1 .. 60, too small", "rock h9 0 0; \n inn(0) = OUTSIDE \n inn(-1) = OUTSIDE \n inn(DEEP) = OUTSIDE");
        run("18: n 1 .. 60, too large", "rock h9 0 0; \n inn(61) = OUTSIDE \n inn(FAR) = OUTSIDE");
        run("18: n 1 .. 60, its ends", "rock h9 0 0;v0 1 0 0; \n inn(1) = 0 \n inn(60) = 0");
        run("18: the 60th day, the 61st", """
            rock h9 0 0;v1 1 0 0;g61;
            day(1)
            inn(60) = 0
            day(1)
            inn(59) = 0
            inn(60) = NONE
            """);
        run("18: NOT: no HERMIT", "inn(1) = NOT \n inn(0) = OUTSIDE");
        run("18: the least I: 0 .. 9, 9 wait", "rock h9 0 0;v0 1 0 0;v0 1 0 0; \n inn(9) = 9 \n inn(10) = NONE");
        run("18: the least I: 1", "rock h9 0 0;v0 2 0 0;v0 2 0 0; \n inn(60) = 1");
        run("18: none is EMPTY", "rock h9 0 9;v0 2 0 0; \n inn(1) = 0 \n inn(2) = NONE");
        run("18: with 0 as without one: who waits now waits on", """
            rock h9 0 3;v0 1 0 0;v0 9 0 0;v0 9 0 0;
            day(1)
            told(14) = 2
            inn(8) = 0
            inn(9) = 4
            told(14) = 2
            """);
        run("18: who waits now may go home by a lesser one", """
            rock h9 0 9;v0 4 0 0;v0 4 0 0;v0 4 0 0;v0 4 0 0;
            day(1)
            told(14) = 3
            inn(1) = 2
            inn(3) = 2
            inn(60) = 3
            """);
        run("18: he is DOWN: no DAY more", "rock h1 0 0; \n day(1) \n inn(60) = 0");
    }

    // ---- promise 19: feet

    private void feet() {
        run("19: n 1 .. 10, too small", "rock h9 0 0;v1 1 0 0; \n feet(0, NONE) = OUTSIDE \n feet(DEEP, 0) = OUTSIDE");
        run("19: n 1 .. 10, too large", "rock h9 0 0;v1 1 0 0; \n feet(11, NONE) = OUTSIDE \n feet(FAR, 0) = OUTSIDE");
        run("19: n 1 .. 10, its ends", "rock h9 0 0;v9 1 0 0; \n feet(1, NONE) = 18 \n feet(10, NONE) = 180 \n feet(10, 0..9) = 0");
        run("19: NOT: no HERMIT", "feet(1, NONE) = NOT \n feet(1, 5) = NOT \n feet(0, 0) = OUTSIDE");
        run("19: NONE: no such i", "rock h9 0 0;v9 1 0 0; \n feet(3, 2) = 0 \n feet(3, 3) = NONE \n feet(10, 10) = NONE \n feet(3, -2) = NONE \n feet(3, FAR) = NONE \n feet(3, DEEP) = NONE");
        run("19: NONE: no VILLAGES", "rock h9 0 0; \n feet(1, NONE) = NONE \n feet(1, 0) = NONE");
        run("19: none of FOG with a ROAD above 0", "rock h9 0 0;v1 1 0 0;g3; \n feet(3, NONE) = 6 \n feet(4, NONE) = NONE \n feet(4, 0) = NONE");
        run("19: of FOG with a ROAD of 0", "rock h9 0 0;v1 1 0 0;v0 9 0 0;g0; \n feet(1, 0) = 1");
        run("19: from now: FOG of a later day", """
            rock h9 2 0;v9 1 0 0;v0 9 0 0;v1 9 0 0;v1 1 0 0;g12;
            feet(3, NONE) = 4
            feet(3, 0..2) = 1 2 3
            day(9)
            feet(3, 0..2) = 1 2 3
            feet(4, NONE) = 4
            feet(4, 0..3) = 1 2 3 1
            day(1)
            feet(3, NONE) = 4
            feet(3, 0..2) = 2 3 1
            day(3)
            feet(3, 0..2) = 1 2 3
            """);
        run("19: none chosen for one of the Y days ahead of it", "rock h9 2 0;v1 1 0 0;v2 1 0 0;v3 1 0 0; \n feet(3, NONE) = 12 \n feet(4, NONE) = 14 \n feet(4, 0..3) = 0 1 2 0");
        run("19: NONE: as many VILLAGES as Y", "rock h9 2 0;v1 1 0 0;v2 1 0 0; \n feet(2, NONE) = 6 \n feet(3, NONE) = NONE");
        run("19: Y 0: the same on each DAY", "rock h9 0 0;v2 1 0 0;v1 9 0 0; \n feet(10, NONE) = 20 \n feet(10, 0..9) = 1");
        run("19: Y 30: each once", "rock h9 30 0;" + "v1 1 0 0;".repeat(8) + " \n feet(8, NONE) = 16 \n feet(8, 0..7) = 0 1 2 3 4 5 6 7 \n feet(9, NONE) = NONE");
        run("19: from now on: who was BLESSED is of no matter", "rock h9 30 0;v0 1 0 0; \n day(1) \n feet(1, NONE) = 0");
        run("19: of like ones the first, though its end is larger", "rock h9 1 0;v1 1 0 0;v0 1 0 0;v0 1 0 0; \n feet(3, NONE) = 0 \n feet(3, 0..2) = 1 2 1");
        run("19: the least, though its first is not the nearest", "rock h9 9 0;v2 1 0 0;v0 1 0 0;g1; \n feet(2, NONE) = 4 \n feet(2, 0..1) = 0 1");
        // 3 (ROAD 0) is saved for the FOG: 1 goes by the ROAD of 1, not 0 by that of 4
        run("19: the nearest of those above 0 goes in the place of the saved one", """
            rock h9 3 0;v4 1 0 0;v1 1 0 0;v1 1 0 0;v0 1 0 0;g2;
            feet(3, NONE) = 4
            feet(3, 0..2) = 1 2 3
            feet(4, NONE) = 12
            feet(4, 0..3) = 0 1 3 2
            """);
        run("19: who STAYS away may be chosen", "rock h9 0 0;v1 1 0 0;v2 1 0 0; \n calendar(0, NONE) \n feet(1, 0) = 0");
        run("19: not before day D is of no matter", "rock h9 0 0;v9 1 0 0; \n feet(1, NONE) = 18");
        run("19: when he is DOWN, too", "rock h1 0 0;v1 2 1 0; \n day(1) \n told(9) = 1 \n feet(2, NONE) = 4");
    }

    // ---- promise 20: odds

    private void odds() {
        run("20: t 0 .. 999, too small", "rock h9 0 0;v0 1 0 0; \n odds(-1) = OUTSIDE \n odds(DEEP) = OUTSIDE");
        run("20: t 0 .. 999, too large", "rock h9 0 0;v0 1 0 0; \n odds(1000) = OUTSIDE \n odds(FAR) = OUTSIDE");
        run("20: t 0 .. 999, its ends", "rock h9 0 0;v0 9 0 0; \n odds(0..1) = 1000000 0 \n odds(998..999) = 0 1000000");
        run("20: nobody COMES", "odds(0) = 0 \n rock h9 0 0; \n odds(999) = 0");
        run("20: Q 0, Q 100", "rock h9 0 0;v0 1 0 0;v0 1 0 100;v0 9 1 0; \n odds(0..1) = 1000000 0");
        run("20: each cut by itself", """
            rock h9 0 0;v0 1 0 33;v0 1 0 33;v0 1 0 33;v0 1 0 33;
            odds(0) = 96310
            """);
        run("20: eight of Q 99", "rock h9 0 0;" + "v0 1 0 99;".repeat(8) + " \n odds(0) = " + oddsOf(99, 8));
        run("20: as for SMOKE: ROADS, FEASTS, FOG; no YEAR", """
            rock h9 30 0;v0 9 0 0;v3 1 0 50;f2;f5;g6;
            day(1)
            odds(0..7) = 1000000 0 1000000 500000 500000 500000 0 500000
            """);
        run("20: FOG parts a ROAD of 0", "rock h9 0 0;v0 1 0 10;v1 1 0 50;g6; \n odds(5..6) = 500000 900000");
        run("20: who STAYS away does not come", "rock h9 0 0;v0 1 0 0; \n calendar(0, NONE) \n odds(0) = 0");
    }

    /** All of them with the same fever, by the document's words. */
    private static int oddsOf(int q, int many) {
        long nobody = 1000000, one = 0;
        for (int i = 0; i < many; i++) {
            one = one * q / 100 + nobody * (100 - q) / 100;
            nobody = nobody * q / 100;
        }
        return (int) one;
    }

    // ---- promise 21: see

    private void see() {
        run("21: t 0 .. 99, too small", "see(-1, 0) = OUTSIDE \n see(DEEP, 0) = OUTSIDE \n told(16) = 0");
        run("21: t 0 .. 99, too large", "see(100, 0) = OUTSIDE \n see(FAR, 0) = OUTSIDE \n told(16) = 0");
        run("21: how 0, 1, 2", "see(0, -1) = OUTSIDE \n see(0, 3) = OUTSIDE \n see(0, FAR) = OUTSIDE \n told(16) = 0 \n see(0, 0..2) = 1 2 3");
        run("21: t 0 .. 99, its ends", "see(0, 0) = 1 \n see(99, 0) = 2");
        run("21: FULL (10)", "9 x see(0, 0) \n see(99, 2) = 10 \n see(99, 2) = FULL \n told(16) = 10");
        run("21: OUTSIDE ahead of FULL", "10 x see(0, 0) \n see(100, 0) = OUTSIDE \n see(0, 3) = OUTSIDE");
        run("21: FULL no more behind tear()", "10 x see(0, 0) \n tear() = 10 \n see(0, 0) = 1");
    }

    // ---- promise 22: went

    private void went() {
        run("22: UNKNOWN", "rock h9 0 0;v0 1 0 0; \n went(1, 0) = UNKNOWN \n went(-1, 0) = UNKNOWN \n went(FAR, 1) = UNKNOWN");
        run("22: OUTSIDE", "rock h9 0 0;v0 1 0 0; \n went(0, -1) = OUTSIDE \n went(0, 2) = OUTSIDE \n went(0, DEEP) = OUTSIDE");
        run("22: UNKNOWN ahead of OUTSIDE", "rock h9 0 0;v0 1 0 0; \n went(1, 2) = UNKNOWN");
        run("22: nothing SEEN: all OFFSETS, of 1 and of 9", "rock h9 0 0;v0 1 0 0;v0 9 0 0; \n went(0..1, 0) = 1 511");
        run("22: one OFFSET: not parted", "rock h9 0 0;v0 1 0 0; \n went(0, 1) = NONE");
        run("22: no OFFSET fits", "rock h9 0 0;v0 2 0 0; \n see(0, 1) \n see(0, 0) \n went(0, 0) = 0 \n went(0, 1) = NONE");
        run("22: all ten SEEN count", "rock h9 0 0;v0 9 0 0; \n 9 x see(0, 1) \n went(0, 0) = 1 \n see(9, 0) = 10 \n went(0, 0) = 0");
        run("22: SEEN EMPTY, BLESSED, FAILED", """
            rock h9 0 0;v0 3 0 0;v0 3 1 0;
            see(1, 2)
            went(0, 0) = 2
            tear()
            see(1, 1)
            went(0, 0) = 5
            see(0, 0)
            went(0, 0) = 4
            """);
        run("22: three come: FAILED too", "rock h9 0 0;v0 2 0 0;v0 2 0 0;v0 2 0 0; \n see(0, 2) \n went(0, 0) = 3");
        run("22: not STAYING away, others as now", """
            rock h9 0 0;v0 2 0 0;v0 2 0 0;
            calendar(0, NONE)
            see(0, 1)
            went(0, 0) = 2
            calendar(1, NONE)
            went(0, 0) = 1
            village(0, 4) = 1
            """);
        run("22: FEASTS, FOG, ROADS as told", """
            rock h9 0 0;v3 2 0 0;f5;g7;
            see(5, 1)
            see(7, 0)
            see(2, 0)
            went(0, 0) = 3
            went(0, 1) = 3
            see(3, 1)
            went(0, 0) = 2
            """);
        run("22: without an INN, a YEAR", "rock h9 30 9;v0 2 0 0;v0 2 0 0; \n day(1) \n see(2, 2) \n went(0, 0) = 1 \n see(4, 2) \n went(0, 0) = 1");
        run("22: the first of days 0 to 99, day 0", "rock h9 0 0;v0 2 0 0; \n went(0, 1) = 0");
        run("22: the first of days 0 to 99, day 99", "rock h9 0 0;v1 1 0 0;v1 1 0 0;v0 2 0 0;f0;g99; \n went(2, 1) = 99");
        run("22: the first of days 0 to 99, not day 100", "rock h9 0 0;v1 1 0 0;v1 1 0 0;v0 2 0 0;f0;g100; \n went(2, 1) = NONE");
        run("22: parted: BLESSED and FAILED", "rock h9 0 0;v0 1 0 0;v0 2 0 0; \n went(1, 1) = 0");
        run("22: not parted: FAILED by any of them", "rock h9 0 0;v0 1 0 0;v0 1 0 0;v0 2 0 0; \n went(2, 1) = NONE");
    }

    // ---- promise 23: write

    private void write() {
        run("23: UNKNOWN (v not NONE, no VILLAGE)", "rock h9 0 0;v0 1 0 0; \n write(0, 1) = UNKNOWN \n write(0, -2) = UNKNOWN \n write(0, FAR) = UNKNOWN \n write(0, DEEP) = UNKNOWN \n told(17) = 0");
        run("23: t 0 .. 9999, too small", "write(-1, NONE) = OUTSIDE \n write(DEEP, NONE) = OUTSIDE \n told(17) = 0");
        run("23: t 0 .. 9999, too large", "write(10000, NONE) = OUTSIDE \n write(FAR, NONE) = OUTSIDE \n told(17) = 0");
        run("23: t 0 .. 9999, its ends", "rock h9 0 0;v0 1 0 0; \n write(0, 0) = 1 \n write(9999, NONE) = 2");
        run("23: FULL (15)", "14 x write(0, NONE) \n write(9999, NONE) = 15 \n write(0, NONE) = FULL \n told(17) = 15");
        run("23: UNKNOWN ahead of OUTSIDE, OUTSIDE ahead of FULL", "15 x write(0, NONE) \n write(-1, 0) = UNKNOWN \n write(0, 0) = UNKNOWN \n write(10000, NONE) = OUTSIDE");
        run("23: FULL no more behind tear()", "15 x write(0, NONE) \n tear() = 15 \n write(0, NONE) = 1");
    }

    // ---- promise 24: tear

    private void tear() {
        run("24: how much both had: nothing", "tear() = 0 \n rock h9 0 0; \n tear() = 0");
        run("24: how much both had: all that they can hold", "10 x see(0, 0) \n 15 x write(0, NONE) \n tear() = 25 \n tear() = 0 \n told(16..17) = 0");
        run("24: one of both", "see(0, 0) \n tear() = 1 \n write(0, NONE) \n tear() = 1");
        run("24: nothing else", "rock h9 0 0;v0 1 0 0; \n day(2) \n see(0, 0) \n tear() = 1 \n told(7) = 2 \n told(18) = 1");
    }

    // ---- promise 25: judge

    private void judge() {
        run("25: NONE: THE BOOK is empty", "judge() = NONE \n rock h9 0 0; \n judge() = NONE");
        run("25: one of a day that is none of these: not yet", "rock h9 0 0;v0 1 0 0; \n day(1) \n write(0, 0) \n write(1, NONE) \n judge() = 1 \n calendar(0, NONE) \n day(1) \n judge() = NONE");
        run("25: one of a day that is none of these: the 61st", """
            rock h9 0 0;v0 2 0 0;
            write(1, NONE)
            day(61)
            judge() = NONE
            day(1)
            judge() = 0
            undo()
            judge() = NONE
            """);
        run("25: the first: of the entries, not of the days", "rock h9 0 0;v0 1 0 0; \n day(9) \n write(8, NONE) \n write(0, NONE) \n judge() = 0");
        run("25: the last of fifteen", "rock h9 0 0;v0 1 0 0; \n day(9) \n 14 x write(5, 0) \n judge() = NONE \n write(5, NONE) = 15 \n judge() = 14");
        run("25: another one was BLESSED", "rock h9 0 0;v0 2 0 0;v0 2 1 0; \n day(2) \n write(0, 0) \n write(1, 0) \n judge() = 1");
        run("25: nobody, as it was: EMPTY, FAILED", "rock h9 0 0;v0 2 1 0;v0 2 1 0; \n day(2) \n write(0, NONE) \n write(1, NONE) \n judge() = NONE");
    }

    // ---- promise 26: seed

    private void seed() {
        run("26: 0 .. 2147483647, too small", "seed(4) \n seed(-1) = OUTSIDE \n seed(DEEP) = OUTSIDE \n seed(0) = 4");
        run("26: 0 .. 2147483647, its ends", "seed(2147483647) = 0 \n seed(0) = 2147483647 \n seed(1) = 0");
        // 2147483647 x 1103515245 + 12345 leaves 1043980748 over by 2 to the 31
        run("26: left over by 2 to the 31, the largest", "rock h9 0 0; \n seed(FAR) \n drift(1) \n seed(0) = 1043980748");
    }

    // ---- promise 27: keep

    private void keep() {
        run("27: UNKNOWN", "rock h9 0 0; \n day(1) \n keep(-1) = UNKNOWN \n keep(2) = UNKNOWN \n keep(FAR) = UNKNOWN \n keep(DEEP) = UNKNOWN \n told(18) = 1");
        run("27: IMAGES 0, 1", "rock h9 0 0; \n keep(0..1) = 1 \n goBack(0..1) = 1");
        run("27: nothing can be undone then", "rock h9 0 0; \n day(1) \n keep(0) = 1 \n told(18) = 0 \n undo() = NOT");
        run("27: what comes behind it can be undone", "rock h9 0 0; \n day(1) \n keep(0) \n day(1) \n undo() = 0 \n told(7) = 1 \n undo() = NOT");
        run("27: written over", "rock h9 0 0; \n keep(0) \n day(3) \n keep(0) = 1 \n day(3) \n goBack(0) = 1 \n told(7) = 3");
        run("27: without a HERMIT, too", "keep(0) = 1 \n goBack(0) = 1 \n goBack(1) = NOT");
    }

    // ---- promise 28: goBack

    private void goBack() {
        run("28: UNKNOWN", "goBack(-1) = UNKNOWN \n goBack(2) = UNKNOWN \n goBack(FAR) = UNKNOWN \n goBack(DEEP) = UNKNOWN");
        run("28: NOT: it was not kept", "rock h9 0 0; \n day(1) \n keep(1) \n day(1) \n goBack(0) = NOT \n told(7) = 2 \n told(18) = 1");
        run("28: nothing can be undone then", "rock h9 0 0; \n keep(0) \n day(1) \n goBack(0) = 1 \n told(18) = 0 \n undo() = NOT");
        run("28: it is kept still", "rock h9 0 0; \n keep(0) \n day(1) \n goBack(0) = 1 \n day(2) \n goBack(0) = 1 \n told(7) = 0");
        run("28: all of section 2, THE SEED", """
            rock h2 1 1;v1 2 1 0;v2 2 1 0;v3 2 1 0;
            day(4) = 4
            seed(5)
            keep(1) = 1
            calendar(0, NONE) = 1
            drift(30)
            goBack(1) = 1
            told(7..15) = 4 0 0 2 0 2 14 1 1
            village(0..2, 2) = 1
            village(0..2, 4) = 0
            blessed(0..4) = NONE 0 NONE 0 NONE
            village(0..2, 5) = 3 NONE NONE
            seed(0) = 5
            day(1)
            blessed(4) = 1
            """);
        run("28: from DOWN, to DOWN", "rock h1 0 0; \n keep(0) \n day(1) \n keep(1) \n goBack(0) \n told(9) = 0 \n goBack(1) \n told(9) = 1 \n day(1) = NOT");
        run("28: SEEN, THE BOOK, THE TEXT stay", "rock h9 0 0; \n keep(0) \n see(0, 0) \n write(0, NONE) \n text hv \n goBack(0) = 1 \n told(16..17) = 1 \n told(6) = 2");
    }
}
