/** For each promise: ordinary inputs, the edges that the document names, and refusals in their order. */
public final class PromisesTest {
    private static final int NONE = OneADay.NONE, UNKNOWN = OneADay.UNKNOWN, OUTSIDE = OneADay.OUTSIDE,
        NOT = OneADay.NOT, FULL = OneADay.FULL;
    private static final int FAR = Integer.MAX_VALUE, DEEP = Integer.MIN_VALUE;

    /** Four villages, a year of a day, a feast, two days of fog. */
    private static final String FOUR = "h3 1 0;v0 2 0 10;v1 4 1 0;v2 4 3 50;v3 3 0 100;f9;g5;g7;";
    /** Two on even days, one on odd ones, with an inn for two. */
    private static final String CROWD = "h2 0 2;v1 2 0 0;v2 2 0 0;v3 2 1 0;";

    private final Check c = new Check();

    public static void main(String[] args) {
        PromisesTest test = new PromisesTest();
        test.constants();
        test.newObject();
        test.feed();
        test.rockReads();
        test.rockFaults();
        test.rockBegins();
        test.rockWithFaultKeeps();
        test.fault();
        test.told();
        test.village();
        test.comes();
        test.blessed();
        test.day();
        test.dayWithInn();
        test.dayLimits();
        test.calendar();
        test.drift();
        test.undo();
        test.whenDown();
        test.ahead();
        test.certain();
        test.away();
        test.smoke();
        test.inn();
        test.feet();
        test.odds();
        test.see();
        test.went();
        test.write();
        test.tear();
        test.judge();
        test.seed();
        test.keepAndGoBack();
        test.c.end();
    }

    private static OneADay rockOf(String text) {
        return Check.rockOf(text);
    }

    private static OneADay down() {
        OneADay x = rockOf("h1 0 0;v0 2 1 0;");
        x.day(1);
        return x;
    }

    private static String times(String part, int many) {
        StringBuilder s = new StringBuilder();
        for (int i = 0; i < many; i++) s.append(part);
        return s.toString();
    }

    private void constants() {
        c.due("NONE", OneADay.NONE, -1);
        c.due("UNKNOWN", OneADay.UNKNOWN, -1000000001);
        c.due("OUTSIDE", OneADay.OUTSIDE, -1000000002);
        c.due("NOT", OneADay.NOT, -1000000003);
        c.due("FULL", OneADay.FULL, -1000000004);
    }

    // ---- promise 1

    private void newObject() {
        OneADay x = new OneADay();
        for (int what = 0; what <= 18; what++) c.due("1: new told " + what, x.told(what), 0);
        c.due("1: new fault", x.fault(), NONE);
        c.due("1: new village", x.village(0, 0), UNKNOWN);
        c.due("1: new comes", x.comes(0), 0);
        c.due("1: new blessed", x.blessed(0), NONE);
        c.due("1: new day", x.day(1), NOT);
        c.due("1: new calendar", x.calendar(0, 0), UNKNOWN);
        c.due("1: new drift", x.drift(1), NOT);
        c.due("1: new undo", x.undo(), NOT);
        c.due("1: new whenDown", x.whenDown(), NOT);
        c.due("1: new ahead", x.ahead(0, 0), NOT);
        c.due("1: new certain", x.certain(0, 0), UNKNOWN);
        c.due("1: new away", x.away(1), NOT);
        c.due("1: new smoke", x.smoke(0, 0), UNKNOWN);
        c.due("1: new inn", x.inn(1), NOT);
        c.due("1: new feet", x.feet(1, NONE), NOT);
        c.due("1: new odds", x.odds(0), 0);
        c.due("1: new went", x.went(0, 0), UNKNOWN);
        c.due("1: new judge", x.judge(), NONE);
        c.due("1: new tear", x.tear(), 0);
        c.due("1: new goBack", x.goBack(0), NOT);
        c.due("1: new seed", x.seed(7), 0);
        c.due("1: new see", x.see(0, 0), 1);
        c.due("1: new write of nobody", x.write(0, NONE), 1);
        c.due("1: new keep", x.keep(0), 1);
        c.due("1: new goBack to it", x.goBack(0), 1);
    }

    // ---- promise 2

    private void feed() {
        OneADay x = new OneADay();
        c.due("2: feed -1", x.feed(-1), OUTSIDE);
        c.due("2: feed 256", x.feed(256), OUTSIDE);
        c.due("2: feed far", x.feed(FAR), OUTSIDE);
        c.due("2: feed deep", x.feed(DEEP), OUTSIDE);
        c.due("2: refused changes nothing", x.told(6), 0);
        c.due("2: feed 0", x.feed(0), 1);
        c.due("2: feed 255", x.feed(255), 2);
        for (int i = 3; i <= 240; i++) c.due("2: feed, the " + i, x.feed(' '), i);
        c.due("2: feed the 241st", x.feed(' '), FULL);
        c.due("2: OUTSIDE is ahead of FULL", x.feed(256), OUTSIDE);
        c.due("2: still", x.told(6), 240);
        c.due("2: letter 0 is no word", x.rock(), -11);
        c.due("2: the text is empty behind rock", x.feed('h'), 1);
    }

    // ---- promise 3

    private void rockReads() {
        reads("", 0, NONE);
        reads("    ", 0, NONE);
        reads("h1 0 0;", 0, NONE);
        reads("h001 030 009;", 0, NONE);
        reads("  h 9 30 9 ; v 9 9 8 100 ; f 0 ; g 999 ;  ", 1, NONE);
        reads("h1 0 0;g3;f3;v0 1 0 0;g4;v0 1 0 0;f4;", 2, NONE);
        reads("h1 0 0;" + times("v0 1 0 0;", 8), 8, NONE);
        reads("h1 0 0;f0;f1;f2;f3;f4;f5;f6;f999;g0;g1;g2;g3;g4;g5;g6;g999;", 0, NONE);
        OneADay x = rockOf("h7 20 9;v9 8 7 100;v0 1 0 5;f3;f4;g9;");
        int[] told = {7, 20, 9, 2, 2, 1, 0};
        for (int i = 0; i < told.length; i++) c.due("3: told " + i, x.told(i), told[i]);
        int[] first = {9, 8, 7, 100, 0, NONE}, second = {0, 1, 0, 5, 0, NONE};
        for (int i = 0; i < 6; i++) {
            c.due("3: village 0, " + i, x.village(0, i), first[i]);
            c.due("3: village 1, " + i, x.village(1, i), second[i]);
        }
        StringBuilder full = new StringBuilder("h1 0 0;v0 1 0 0;");
        while (full.length() < 240) full.append(' ');
        reads(full.toString(), 1, NONE);
    }

    private void reads(String text, int answer, int place) {
        OneADay x = new OneADay();
        Check.feedAll(x, text);
        c.due("3: rock of \"" + text + "\"", x.rock(), answer);
        c.due("4: fault of \"" + text + "\"", x.fault(), place);
        c.due("3: text behind \"" + text + "\"", x.told(6), 0);
    }

    private void rockFaults() {
        cannotStand();
        badNumbers();
        reads("h1 0 0;h", -13, 7);
        reads("h1 0 0;h1 0 0;", -13, 7);
        reads("h1 0 0;" + times("v0 1 0 0;", 8) + "v", -13, 79);
        reads("h1 0 0;f0;f1;f2;f3;f4;f5;f6;f7;f8;", -13, 31);
        reads("h1 0 0;g0;g1;g2;g3;g4;g5;g6;g7; g0;", -13, 32);
        reads("h1 0 0;f1;f1;", -14, 11);
        reads("h1 0 0;f1;f 001;", -14, 12);
        reads("h1 0 0;g1;f1;g1;", -14, 14);
        reads("h1 0 0;g1;g1 x", -14, 11);
    }

    private void cannotStand() {
        reads("x", -11, 0);
        reads("H1 0 0;", -11, 0);
        reads(" v0 1 0 0;", -11, 1);
        reads("f1;", -11, 0);
        reads("g1;", -11, 0);
        reads(";", -11, 0);
        reads("1234", -11, 0);
        reads("h", -11, 1);
        reads("h  ", -11, 3);
        reads("h;", -11, 1);
        reads("h1", -11, 2);
        reads("h1 0 0", -11, 6);
        reads("h1 0 0  ", -11, 8);
        reads("h1 0;", -11, 4);
        reads("h1 0 0 0;", -11, 7);
        reads("h1 0 0 1234;", -11, 7);
        reads("h1 -1 0;", -11, 3);
        reads("h1 0 0;;", -11, 7);
        reads("h1 0 0;x", -11, 7);
        reads("h1 0 0;\t", -11, 7);
        reads("h1 0 0;" + (char) 233, -11, 7);
        reads("h1 0 0;v0 1 0;", -11, 13);
        reads("h1 0 0;v0 1 0 0", -11, 15);
        reads("h1 0 0;f;", -11, 8);
        reads("h1 0 0;f1 2;", -11, 10);
        reads("h1 0 0;f1f1;", -11, 9);
    }

    private void badNumbers() {
        reads("h0 0 0;", -12, 1);
        reads("h10 0 0;", -12, 1);
        reads("h123;", -12, 1);
        reads("h1234x", -12, 1);
        reads("h0001 0 0;", -12, 1);
        reads("h1 31 0;", -12, 3);
        reads("h1 0 10;", -12, 5);
        reads("h1 0 10x", -12, 5);
        reads("h1 0 0;v10 1 0 0;", -12, 8);
        reads("h1 0 0;v0 0 0 0;", -12, 10);
        reads("h1 0 0;v0 10 0 0;", -12, 10);
        reads("h1 0 0;v0 1 1 0;", -12, 12);
        reads("h1 0 0;v0 9 9 0;", -12, 12);
        reads("h1 0 0;v0 1 0 101;", -12, 14);
        reads("h1 0 0;f1000;", -12, 8);
        reads("h1 0 0;g 0000;", -12, 9);
        reads("h1 0 0;g1;g0001;", -12, 11);
        reads("h1 0 0;f" + times("9", 200), -12, 8);
    }

    private void rockBegins() {
        String crowd = "h2 0 1;v0 2 0 0;v2 2 0 0;v3 2 1 0;f4;";
        OneADay x = rockOf(crowd);
        x.day(9);
        c.holds("3: some wait, some went home", x.told(14) > 0 && x.told(15) > 0 && x.told(13) > 0 && x.told(12) > 0);
        x.see(1, 1);
        x.write(0, 0);
        x.seed(77);
        x.calendar(1, NONE);
        x.keep(0);
        x.keep(1);
        x.calendar(2, 0);
        Check.feedAll(x, crowd);
        c.due("3: a rock again", x.rock(), 3);
        for (int what = 7; what <= 18; what++) c.due("3: rock anew, told " + what, x.told(what), 0);
        c.due("3: nobody blessed", x.blessed(0), NONE);
        c.due("3: nobody blessed last", x.village(0, 5), NONE);
        c.due("3: calendars as told", x.village(2, 2), 1);
        c.due("3: nobody stays", x.village(1, 4), 0);
        c.due("3: images are gone, 0", x.goBack(0), NOT);
        c.due("3: images are gone, 1", x.goBack(1), NOT);
        c.due("3: nothing to undo", x.undo(), NOT);
        c.due("3: the seed stays", x.seed(0), 77);
        c.due("3: an empty text", x.rock(), 0);
        c.due("3: takes the hermit", x.day(1), NOT);
        c.due("3: takes the villages", x.told(3), 0);
        c.due("3: takes K", x.told(0), 0);
        c.due("3: takes I", x.told(2), 0);
        OneADay y = rockOf("h1 0 0;v0 1 0 0;v0 1 0 0;");
        y.day(3);
        c.due("3: failed days", y.told(11), 3);
        Check.feedAll(y, "h9 30 9;f1;f2;g3;g4;v1 9 0 0;");
        y.rock();
        Check.feedAll(y, "h9 30 9;f1;f2;g3;g4;v1 9 0 0;x");
        y.rock();
        for (int i = 0; i < 2; i++) {
            Check.feedAll(y, "h1 0 0;v1 5 3 0;");
            y.rock();
            int[] told = {1, 0, 0, 1, 0, 0};
            for (int what = 0; what < told.length; what++) c.due("3: nothing of the rock before, " + what, y.told(what), told[what]);
            c.due("3: no failed days", y.told(11), 0);
            c.due("3: no feast of the rock before", y.comes(1), 0);
            c.due("3: no fog of the rock before", y.comes(3), 1);
        }
        Check.feedAll(y, "h1 0 0;f1;f2;g3;v1 5 0 0;");
        c.due("3: days of the rock before can be told again", y.rock(), 1);
        y.rock();
        c.due("3: takes Y", y.told(1), 0);
    }

    private void rockWithFaultKeeps() {
        OneADay x = rockOf("h9 5 2;v1 2 0 0;v2 2 0 0;f8;g9;");
        x.keep(1);
        x.day(3);
        x.see(1, 1);
        x.write(0, 0);
        Check.feedAll(x, "h9 1 1;v0 1 0 0;f1;f2;g1;g2;v0 1 0 200;");
        c.due("3: fault", x.rock(), -12);
        int[] told = {9, 5, 2, 2, 1, 1, 0, 3, 0, 0, 1, 0, 2, 6, 1, 0, 1, 1, 1};
        for (int i = 0; i < told.length; i++) c.due("3: kept by a fault, told " + i, x.told(i), told[i]);
        c.due("3: kept by a fault, road", x.village(0, 0), 1);
        c.due("3: kept by a fault, feast", x.comes(8), 3);
        c.due("3: kept by a fault, undo", x.undo(), 0);
        c.due("3: kept by a fault, image", x.goBack(1), 1);
    }

    // ---- promise 4

    private void fault() {
        OneADay x = new OneADay();
        Check.feedAll(x, "h1 0 z");
        c.due("4: none before rock", x.fault(), NONE);
        x.rock();
        c.due("4: of the latest rock", x.fault(), 5);
        Check.feedAll(x, "h1 0 0;");
        c.due("4: feeding leaves it", x.fault(), 5);
        x.rock();
        c.due("4: none behind a good one", x.fault(), NONE);
    }

    // ---- promise 5

    private void told() {
        OneADay x = rockOf("h2 0 2;v0 2 0 0;v0 2 0 0;v1 2 1 0;f3;f4;g5;");
        x.day(4);
        x.feed('h');
        x.see(0, 0);
        x.see(1, 0);
        x.write(0, 0);
        // rows: 0 1, then 1 2, then 2 0 1, then 0 1 0 1 2, of which two go home
        int[] told = {2, 0, 2, 3, 2, 1, 1, 4, 0, 0, 4, 0, 0, 4, 2, 2, 2, 1, 1};
        for (int i = 0; i < told.length; i++) c.due("5: told " + i, x.told(i), told[i]);
        c.due("5: told -1", x.told(-1), OUTSIDE);
        c.due("5: told 19", x.told(19), OUTSIDE);
        c.due("5: told far", x.told(FAR), OUTSIDE);
        c.due("5: told deep", x.told(DEEP), OUTSIDE);
        OneADay y = down();
        c.due("5: down", y.told(9), 1);
        c.due("5: the run that brought him down", y.told(8), 1);
    }

    // ---- promise 6

    private void village() {
        OneADay x = rockOf(FOUR);
        int[][] all = {{0, 2, 0, 10, 0, NONE}, {1, 4, 1, 0, 0, NONE}, {2, 4, 3, 50, 0, NONE}, {3, 3, 0, 100, 0, NONE}};
        for (int v = 0; v < 4; v++)
            for (int what = 0; what < 6; what++) c.due("6: village " + v + ", " + what, x.village(v, what), all[v][what]);
        x.calendar(2, NONE);
        c.due("6: stays", x.village(2, 4), 1);
        c.due("6: has its offset besides", x.village(2, 2), 3);
        x.day(3);
        c.due("6: blessed last", x.village(0, 5), 2);
        c.due("6: blessed once", x.village(1, 5), 1);
        c.due("6: never blessed", x.village(3, 5), NONE);
        c.due("6: village -1", x.village(-1, 0), UNKNOWN);
        c.due("6: village 4", x.village(4, 0), UNKNOWN);
        c.due("6: village far", x.village(FAR, 0), UNKNOWN);
        c.due("6: UNKNOWN is first", x.village(4, 9), UNKNOWN);
        c.due("6: what -1", x.village(0, -1), OUTSIDE);
        c.due("6: what 6", x.village(0, 6), OUTSIDE);
    }

    // ---- promise 7

    private void comes() {
        OneADay x = rockOf(FOUR);
        int[] sets = {1, 2, 1, 12, 1, 0, 9, 0, 1, 15, 1, 4, 9};
        for (int t = 0; t < sets.length; t++) c.due("7: comes " + t, x.comes(t), sets[t]);
        c.due("7: comes -1", x.comes(-1), OUTSIDE);
        c.due("7: comes 10000", x.comes(10000), OUTSIDE);
        c.due("7: comes 9999", x.comes(9999), 4 + 8);
        OneADay y = rockOf("h9 3 0;v0 1 0 0;v9 1 0 0;f2;f12;g13;");
        c.due("7: not before the road", y.comes(8), 1);
        c.due("7: from the road on", y.comes(9), 3);
        c.due("7: a feast is not before the road", y.comes(2), 1);
        y.day(1);
        c.due("7: on the day itself", y.comes(0), 1);
        c.due("7: the first day of the year", y.comes(1), 0);
        c.due("7: the last day of the year", y.comes(3), 0);
        c.due("7: behind the year", y.comes(4), 1);
        c.due("7: fog lets the nearest", y.comes(13), 1);
        y.calendar(0, NONE);
        c.due("7: a feast does not pull who stays", y.comes(12), 2);
        c.due("7: nobody in the fog", y.comes(13), 0);
        OneADay z = rockOf("h9 30 0;v0 1 0 0;f20;");
        z.day(1);
        c.due("7: the year stands above a feast", z.comes(20), 0);
        OneADay w = rockOf("h9 0 0;v1 5 0 0;f7;g7;");
        c.due("7: fog stands above a feast", w.comes(7), 0);
    }

    // ---- promise 8

    private void blessed() {
        OneADay x = rockOf(FOUR);
        x.day(8);
        int[] who = {0, 1, 0, NONE, 0, NONE, NONE, NONE};
        for (int t = 0; t < 8; t++) c.due("8: blessed " + t, x.blessed(t), who[t]);
        c.due("8: not yet", x.blessed(8), NONE);
        c.due("8: blessed -1", x.blessed(-1), NONE);
        c.due("8: blessed far", x.blessed(FAR), NONE);
        c.due("8: blessed deep", x.blessed(DEEP), NONE);
        OneADay y = rockOf("h9 0 0;v0 1 0 0;");
        y.day(60);
        c.due("8: the 60th from the end", y.blessed(0), 0);
        y.day(1);
        c.due("8: the 61st from the end", y.blessed(0), NONE);
        c.due("8: the 60th again", y.blessed(1), 0);
        c.due("8: the latest", y.blessed(60), 0);
        c.due("8: one more than the latest", y.blessed(61), NONE);
        OneADay z = rockOf("h9 0 0;v0 7 0 0;");
        z.day(61);
        c.due("8: nobody where one was 60 days before", z.blessed(60), NONE);
        c.due("8: one where nobody was 60 days before", z.blessed(56), 0);
    }

    // ---- promise 9

    private void day() {
        OneADay x = rockOf(FOUR);
        c.due("9: day 1", x.day(1), 1);
        c.due("9: day 9", x.day(9), 10);
        // 0 blessed, 1 blessed, 0 blessed, failed, 0, fog, failed, fog, 0, feast: 1, 2, 3 and 0 within its year
        int[] told = {10, 0, 0, 5, 3, 2};
        for (int i = 0; i < told.length; i++) c.due("9: told " + (7 + i), x.told(7 + i), told[i]);
        c.due("9: feet", x.told(13), 2 * (1 + 2 + 3 + 3 + 1 + 2 + 3));
        OneADay y = rockOf("h3 0 0;v0 9 4 0;v0 9 4 0;v2 9 1 0;");
        c.due("9: till he is down", y.day(99), 3);
        c.due("9: a road that is too long is empty, too", y.told(12), 3);
        c.due("9: he is down", y.told(9), 1);
        c.due("9: empty run", y.told(8), 3);
        c.due("9: NOT, he is down", y.day(1), NOT);
        OneADay z = rockOf("h3 0 0;v0 9 2 0;v0 9 2 0;");
        z.day(4);
        c.due("9: a failed day ends the run", z.told(8), 1);
        c.due("9: down three behind it", z.day(9), 6);
        c.due("9: empty days", z.told(12), 5);
        OneADay w = rockOf("h1 0 0;");
        c.due("9: nobody there", w.day(99), 1);
    }

    private void dayWithInn() {
        OneADay x = rockOf(CROWD);
        x.calendar(1, 0);
        // ROADS 1, 2, 3: day 0 nobody can be there, then 0 and 1 on even days, 2 on odd ones
        c.due("9: an empty row", x.day(1), 1);
        c.due("9: is empty", x.told(12), 1);
        c.due("9: and a second brings him down", x.day(1), 2);
        c.due("9: down", x.told(9), 1);
        OneADay y = rockOf("h2 0 2;v0 2 0 0;v2 2 0 0;v3 2 1 0;f7;");
        y.day(1);
        c.due("9: day 0, the first alone", y.blessed(0), 0);
        c.due("9: nobody waits", y.told(14), 0);
        y.day(2);
        c.due("9: day 2, the lesser first", y.blessed(2), 0);
        c.due("9: the other waits", y.told(14), 1);
        y.day(1);
        c.due("9: day 3, who waited", y.blessed(3), 1);
        y.day(3);
        c.due("9: day 4 of the row 2, 0, 1", y.blessed(4), 2);
        c.due("9: day 5 of the row 0, 1, 2", y.blessed(5), 0);
        c.due("9: day 6 of the row 1, 2, 0, 1", y.blessed(6), 1);
        c.due("9: two wait", y.told(14), 2);
        c.due("9: the last one went home", y.told(15), 1);
        y.day(1);
        c.due("9: day 7, a feast, of the row 2, 0, 0, 1, 2", y.blessed(7), 2);
        c.due("9: two more went home", y.told(15), 3);
        y.day(1);
        c.due("9: one waits more than once", y.blessed(8), 0);
        y.day(1);
        c.due("9: and is blessed again", y.blessed(9), 0);
        c.due("9: nobody failed", y.told(11), 0);
        c.due("9: feet of all that came", y.told(13), 4 + 6 + 4 + 6 + 4 + 10 + 4 + 6);
        OneADay z = rockOf("h9 5 9;v0 1 0 0;v0 1 0 0;");
        z.day(2);
        c.due("9: who waits comes again ahead of its blessing", z.blessed(1), 1);
        c.due("9: day 1 found 1 only, so it waits on", z.told(14), 1);
        z.day(1);
        c.due("9: it is blessed within its year", z.blessed(2), 1);
        z.day(1);
        c.due("9: then both are in their years", z.blessed(3), NONE);
    }

    private void dayLimits() {
        OneADay x = rockOf("h9 0 0;v0 1 0 0;");
        c.due("9: day 0", x.day(0), OUTSIDE);
        c.due("9: day 100", x.day(100), OUTSIDE);
        c.due("9: day -1", x.day(-1), OUTSIDE);
        c.due("11: drift 0", x.drift(0), OUTSIDE);
        c.due("11: drift 100", x.drift(100), OUTSIDE);
        for (int i = 1; i <= 90; i++) c.due("9: day 99", x.day(99), 99 * i);
        c.due("9: day to 9000", x.day(90), 9000);
        c.due("9: at 9000 still", x.day(99), 9099);
        c.due("9: above 9000", x.day(1), FULL);
        c.due("11: above 9000", x.drift(1), FULL);
        c.due("9: OUTSIDE is ahead of FULL", x.day(0), OUTSIDE);
        c.due("9: refused changes nothing", x.told(7), 9099);
        c.due("9: refused is not undone", x.undo(), 19);
        c.due("9: undone", x.told(7), 9000);
        c.due("11: drift at 9000", x.drift(99), 9099);
        x.undo();
        c.due("9: to 9001", x.day(1), 9001);
        c.due("9: 9001 is above 9000", x.day(1), FULL);
        c.due("11: 9001 is above 9000", x.drift(1), FULL);
        OneADay y = down();
        c.due("9: OUTSIDE is ahead of NOT", y.day(100), OUTSIDE);
        c.due("11: OUTSIDE is ahead of NOT", y.drift(100), OUTSIDE);
    }

    // ---- promise 10

    private void calendar() {
        OneADay x = rockOf(FOUR);
        c.due("10: the offset it had", x.calendar(1, 3), 1);
        c.due("10: comes by the new one", x.comes(3), 14);
        c.due("10: stays", x.calendar(1, NONE), 3);
        c.due("10: does not come", x.comes(3), 12);
        c.due("10: stays on", x.calendar(1, NONE), NONE);
        c.due("10: the offset besides", x.village(1, 2), 3);
        c.due("10: it stayed", x.calendar(1, 0), NONE);
        c.due("10: it does not now", x.village(1, 4), 0);
        c.due("10: its offset", x.village(1, 2), 0);
        c.due("10: village -1", x.calendar(-1, 0), UNKNOWN);
        c.due("10: village 4", x.calendar(4, 0), UNKNOWN);
        c.due("10: UNKNOWN is first", x.calendar(4, 99), UNKNOWN);
        c.due("10: its period", x.calendar(1, 4), OUTSIDE);
        c.due("10: -2", x.calendar(1, -2), OUTSIDE);
        c.due("10: one less than its period", x.calendar(1, 3), 0);
        c.due("10: refused is not undone", x.told(18), 5);
        OneADay y = down();
        c.due("10: when he is down, too", y.calendar(0, 0), 1);
    }

    // ---- promise 11

    private void drift() {
        OneADay x = rockOf("h9 0 0;v0 4 0 0;v0 5 0 0;v0 1 0 0;");
        long seed = 5;
        int[] offsets = {0, 0, 0}, periods = {4, 5, 1};
        x.seed(5);
        x.calendar(1, NONE);
        c.due("11: drift 50", x.drift(50), 50);
        for (int i = 0; i < 50; i++) {
            seed = (seed * 1103515245L + 12345L) % 2147483648L;
            if (seed / 65536 % 4 != 0) continue;
            seed = (seed * 1103515245L + 12345L) % 2147483648L;
            int v = (int) (seed / 65536 % 3);
            seed = (seed * 1103515245L + 12345L) % 2147483648L;
            offsets[v] = (int) (seed / 65536 % periods[v]);
        }
        for (int v = 0; v < 3; v++) c.due("11: offset of " + v, x.village(v, 2), offsets[v]);
        c.due("11: stays on", x.village(1, 4), 1);
        c.due("11: the seed behind it", x.seed(0), seed);
        OneADay y = rockOf("h9 0 0;");
        y.seed(1);
        c.due("11: without villages, till he is down", y.drift(99), 9);
        long one = 1;
        for (int i = 0; i < 9; i++) one = (one * 1103515245L + 12345L) % 2147483648L;
        c.due("11: a draw a day", y.seed(0), one);
        c.due("11: NOT, he is down", y.drift(1), NOT);
        c.due("11: refused draws nothing", y.seed(0), 0);
        c.due("11: one to undo", y.undo(), 0);
        c.due("11: as ahead of it", y.told(7), 0);
        OneADay z = rockOf("h9 0 0;v0 9 0 0;v0 1 0 0;");
        z.calendar(1, NONE);
        OneADay w = rockOf("h9 0 0;v0 9 0 0;");
        // the seed 0 becomes 12345, whose draw of 4 is 0; then come 1406932606 (a draw of 1) and 654583775
        z.drift(1);
        w.drift(1);
        c.due("11: of two villages the first", z.village(0, 2), 654583775 / 65536 % 9 * ((1406932606 / 65536 + 1) % 2));
        c.due("11: a village alone", w.village(0, 2), 654583775 / 65536 % 9);
        c.due("11: three draws", w.seed(0), 654583775);
    }

    // ---- promise 12

    private void undo() {
        OneADay x = rockOf("h9 3 2;v0 2 0 0;v1 2 0 0;v2 2 0 0;");
        x.day(4);
        int[] before = all(x);
        x.calendar(1, NONE);
        x.drift(9);
        x.day(9);
        x.day(70);
        x.see(1, 1);
        x.write(1, 0);
        c.due("12: three more", x.undo(), 4);
        c.due("12: two more", x.undo(), 3);
        int seed = x.seed(9);
        x.seed(seed);
        c.due("12: drift", x.undo(), 2);
        c.due("12: the seed stays", x.seed(seed), seed);
        c.due("12: calendar", x.undo(), 1);
        int[] behind = all(x);
        for (int i = 0; i < before.length; i++) c.due("12: all as ahead of it, " + i, behind[i], before[i]);
        c.due("12: what was seen stays", x.told(16), 1);
        c.due("12: the book stays", x.told(17), 1);
        c.due("12: the last", x.undo(), 0);
        c.due("12: none", x.undo(), NOT);
        for (int i = 0; i < 23; i++) x.calendar(0, i % 2);
        c.due("12: 20 are kept", x.told(18), 20);
        for (int i = 19; i >= 0; i--) c.due("12: of 20", x.undo(), i);
        c.due("12: the oldest are lost", x.undo(), NOT);
        c.due("12: as ahead of the fourth", x.village(0, 2), 0);
        OneADay y = down();
        y.undo();
        c.due("12: he goes up again", y.told(9), 0);
        c.due("12: and waits anew", y.told(8), 0);
        OneADay z = rockOf("h9 0 9;v0 9 0 0;v0 9 0 0;v0 9 0 0;v0 9 1 0;");
        z.day(1);
        z.keep(0);
        z.day(3);
        c.due("12: of the row 1, 2, 3", z.blessed(3), 3);
        z.undo();
        z.day(1);
        c.due("12: the row, too, is as ahead of it", z.blessed(1), 1);
        z.day(2);
        c.due("12: to its end", z.blessed(3), 3);
        z.goBack(0);
        z.day(2);
        c.due("28: the row, too, is kept", z.blessed(2), 2);
        z.goBack(0);
        c.due("13: the row, too, goes on", z.whenDown(), NONE);
        c.due("14: the row, too, goes on", z.ahead(9, 0), 5);
    }

    /** All of section 2 that can be asked for. */
    private static int[] all(OneADay x) {
        int[] got = new int[9 + 4 * 6 + 80];
        int n = 0;
        for (int what = 7; what <= 15; what++) got[n++] = x.told(what);
        for (int v = 0; v < 4; v++) for (int what = 0; what < 6; what++) got[n++] = x.village(v, what);
        for (int t = 0; t < 80; t++) got[n++] = x.blessed(t);
        return got;
    }

    // ---- promise 13

    private void whenDown() {
        c.due("13: at once", rockOf("h1 0 0;").whenDown(), 0);
        c.due("13: behind the ninth", rockOf("h9 0 0;").whenDown(), 8);
        OneADay x = rockOf("h2 0 0;v0 2 0 0;v0 1 0 0;g30;");
        c.due("13: never", x.whenDown(), NONE);
        x.calendar(1, NONE);
        c.due("13: never by one between", x.whenDown(), NONE);
        x.calendar(0, NONE);
        c.due("13: nobody", x.whenDown(), 1);
        x.calendar(1, 0);
        x.day(5);
        x.calendar(1, NONE);
        c.due("13: from now", x.whenDown(), 6);
        c.due("13: nothing changes", x.told(7), 5);
        x.day(1);
        c.due("13: the run until now counts", x.whenDown(), 6);
        x.day(1);
        c.due("13: NOT, he is down", x.whenDown(), NOT);
        // the first comes from day 1 on, the second on day 0 and some more: fog alone makes a day empty
        OneADay y = rockOf("h1 0 0;v1 1 0 0;v0 8 0 0;g999;");
        c.due("13: the 1000th day from now", y.whenDown(), NONE);
        y.day(1);
        c.due("13: the 999th day from now", y.whenDown(), 999);
        OneADay z = rockOf("h1 0 0;v1 1 0 0;v0 8 0 0;v0 8 0 0;g8;g17;g16;");
        c.due("13: a failed day is not empty", z.whenDown(), 17);
    }

    // ---- promise 14

    private void ahead() {
        OneADay x = rockOf(FOUR);
        int[] empty = {0, 0, 0, 0, 0, 0, 1, 1, 2, 2, 2}, failed = {0, 0, 0, 0, 1, 1, 1, 2, 2, 2, 3};
        for (int n = 0; n <= 10; n++) {
            c.due("14: empty of " + n, x.ahead(n, 0), empty[n]);
            c.due("14: failed of " + n, x.ahead(n, 1), failed[n]);
        }
        x.day(5);
        c.due("14: empty from now", x.ahead(5, 0), 2);
        c.due("14: failed from now", x.ahead(5, 1), 2);
        c.due("14: nothing changes", x.told(7), 5);
        c.due("14: n -1", x.ahead(-1, 0), OUTSIDE);
        c.due("14: n 61", x.ahead(61, 0), OUTSIDE);
        c.due("14: what -1", x.ahead(1, -1), OUTSIDE);
        c.due("14: what 2", x.ahead(1, 2), OUTSIDE);
        c.due("14: OUTSIDE is ahead of NOT", new OneADay().ahead(61, 0), OUTSIDE);
        c.due("14: as many as he stays", rockOf("h4 0 0;").ahead(60, 0), 4);
        c.due("14: none when he is down", down().ahead(60, 0), 0);
        c.due("14: none failed with an inn", rockOf("h9 0 1;v0 1 0 0;v0 1 0 0;").ahead(60, 1), 0);
    }

    // ---- promise 15

    private void certain() {
        OneADay x = rockOf(FOUR);
        int[] due = {0, 1, 3, NONE};
        for (int v = 0; v < 4; v++) c.due("15: of 7, " + v, x.certain(7, v), due[v]);
        c.due("15: too many", x.certain(15, 0), NONE);
        c.due("15: too few", x.certain(3, 0), NONE);
        c.due("15: of nobody", x.certain(0, 0), NONE);
        c.due("15: village 4", x.certain(7, 4), UNKNOWN);
        c.due("15: village -1", x.certain(7, -1), UNKNOWN);
        c.due("15: set 16", x.certain(16, 0), UNKNOWN);
        c.due("15: set -1", x.certain(-1, 0), UNKNOWN);
        c.due("15: set deep", x.certain(DEEP, 0), UNKNOWN);
        x.calendar(0, NONE);
        c.due("15: who stays now is of the set", x.certain(7, 0), 0);
        c.due("15: nothing changes", x.village(0, 4), 1);
        OneADay y = rockOf("h9 0 0;v0 5 0 0;v0 2 0 0;v0 3 0 0;v0 4 0 0;v0 7 0 0;v0 4 0 0;v0 1 0 0;");
        int[] some = {NONE, 0, NONE, 1, NONE, 3, NONE};
        for (int v = 0; v < 7; v++) c.due("15: of 42, " + v, y.certain(42, v), some[v]);
        c.due("15: of 64", y.certain(64, 6), 0);
        c.due("15: of 64, 0", y.certain(64, 0), NONE);
        covers("4 4 2", 0, 2, 1);
        covers("6 6 6 4 4", 0, 2, 4, 1, 3);
        covers("9 9 9 9 9 9 3", 0, 1, 3, 4, 6, 7, 2);
        covers("9 9 9 9 9 9 6 6", 0, 1, 3, 4, 6, 7, 2, 5);
        covers("8 8 8 8 8 8 8 8", 0, 1, 2, 3, 4, 5, 6, 7);
        covers("1", 0);
        covers("2 3 6", NONE, NONE, NONE);
        covers("2 2 2", NONE, NONE, NONE);
        covers("1 9", NONE, NONE);
        c.due("15: without what is told besides", rockOf("h1 30 5;v9 2 1 0;v9 2 1 0;f1;g2;").certain(3, 1), 1);
    }

    private void covers(String periods, int... offsets) {
        StringBuilder text = new StringBuilder("h1 0 0;");
        for (String p : periods.split(" ")) text.append("v0 ").append(p).append(" 0 0;");
        OneADay x = rockOf(text.toString());
        for (int v = 0; v < offsets.length; v++)
            c.due("15: periods " + periods + ", " + v, x.certain((1 << offsets.length) - 1, v), offsets[v]);
    }

    // ---- promise 16

    private void away() {
        OneADay x = rockOf(FOUR);
        c.due("16: none need stay", x.away(3), 0);
        c.due("16: of like ones the least", x.away(4), 4);
        c.due("16: two", x.away(10), 3);
        c.due("16: nothing changes", x.village(0, 4), 0);
        c.due("16: n 0", x.away(0), OUTSIDE);
        c.due("16: n 31", x.away(31), OUTSIDE);
        c.due("16: OUTSIDE is ahead of NOT", new OneADay().away(0), OUTSIDE);
        OneADay y = rockOf("h9 0 0;v0 1 0 0;v0 1 0 0;v0 1 0 0;");
        c.due("16: all but the last", y.away(30), 3);
        y.calendar(0, NONE);
        c.due("16: only more of them", y.away(30), 2);
        y.calendar(1, NONE);
        c.due("16: enough stay", y.away(1), 0);
        OneADay z = rockOf("h9 0 1;v0 2 0 0;v0 2 0 0;v0 2 0 0;");
        c.due("16: with an inn, one has to", z.away(1), 1);
        z.calendar(0, 1);
        c.due("16: with an inn, two and one and two", z.away(2), 0);
        c.due("16: one goes home on the third", z.away(3), 1);
        c.due("16: he is down", down().away(30), 0);
        c.due("16: no villages", rockOf("h1 0 0;").away(30), 0);
    }

    // ---- promise 17

    private void smoke() {
        OneADay x = rockOf(FOUR);
        c.due("17: nobody else", x.smoke(0, 4), 1);
        c.due("17: another comes", x.smoke(1, 4), 0);
        c.due("17: one of the two", x.smoke(2, 3), 0);
        c.due("17: neither", x.smoke(0, 3), 0);
        c.due("17: all by the feast", x.smoke(1, 9), 0);
        c.due("17: nobody by the fog", x.smoke(1, 5), 1);
        c.due("17: not before its road", x.smoke(1, 0), 0);
        c.due("17: day 999", x.smoke(0, 999), 0);
        c.due("17: day 997", x.smoke(1, 997), 1);
        c.due("17: day 1000", x.smoke(0, 1000), OUTSIDE);
        c.due("17: day -1", x.smoke(0, -1), OUTSIDE);
        c.due("17: village 4", x.smoke(4, 0), UNKNOWN);
        c.due("17: UNKNOWN is first", x.smoke(-1, 1000), UNKNOWN);
        x.calendar(0, NONE);
        c.due("17: who stays does not come", x.smoke(1, 4), 1);
        OneADay y = rockOf("h9 9 0;v0 1 0 0;v0 9 3 0;");
        y.day(1);
        c.due("17: a year is of no matter", y.smoke(1, 2), 0);
    }

    // ---- promise 18

    private void inn() {
        OneADay x = rockOf("h9 0 0;v0 2 0 0;v0 2 0 0;f5;");
        c.due("18: as without one", rockOf("h9 0 0;v0 1 0 0;").inn(60), 0);
        c.due("18: one waits", x.inn(4), 1);
        c.due("18: two wait on the feast", x.inn(6), 2);
        c.due("18: nothing changes", x.told(14), 0);
        c.due("18: n 0", x.inn(0), OUTSIDE);
        c.due("18: n 61", x.inn(61), OUTSIDE);
        c.due("18: OUTSIDE is ahead of NOT", new OneADay().inn(0), OUTSIDE);
        c.due("18: an empty day", rockOf("h9 0 0;v0 2 0 0;").inn(2), NONE);
        c.due("18: too many", rockOf("h9 0 0;v0 1 0 0;v0 1 0 0;").inn(60), NONE);
        c.due("18: nine wait", rockOf("h9 0 0;v0 1 0 0;v0 1 0 0;").inn(9), 9);
        c.due("18: ten wait", rockOf("h9 0 0;v0 1 0 0;v0 1 0 0;").inn(10), NONE);
        OneADay y = rockOf("h9 0 3;v0 3 0 0;v0 3 0 0;v0 3 0 0;");
        y.day(1);
        c.due("18: who waits now", y.told(14), 2);
        c.due("18: with 1 nobody goes home, one waits", y.inn(1), 1);
        c.due("18: and three by three", y.inn(60), 2);
        OneADay z = rockOf("h9 0 3;v0 1 0 0;v0 9 0 0;v0 9 0 0;v0 9 0 0;");
        z.day(1);
        c.due("18: three wait on with 0", z.inn(8), 0);
        c.due("18: he is down", down().inn(60), 0);
    }

    // ---- promise 19

    private void feet() {
        OneADay x = rockOf(FOUR);
        c.due("19: ten days", x.feet(10, NONE), 10);
        for (int i = 0; i < 10; i++) c.due("19: the " + i + "th day", x.feet(10, i), (i + 1) % 2);
        c.due("19: four days", x.feet(4, NONE), 4);
        for (int i = 0; i < 4; i++) c.due("19: of four, the " + i + "th", x.feet(4, i), i % 2);
        c.due("19: no such day", x.feet(4, 4), NONE);
        c.due("19: no such day below", x.feet(4, -2), NONE);
        c.due("19: no such day far", x.feet(4, FAR), NONE);
        c.due("19: n 0", x.feet(0, 0), OUTSIDE);
        c.due("19: n 11", x.feet(11, 0), OUTSIDE);
        c.due("19: OUTSIDE is ahead of NOT", new OneADay().feet(0, 0), OUTSIDE);
        x.calendar(0, NONE);
        x.day(1);
        c.due("19: who stays may be chosen", x.feet(1, 0), 0);
        c.due("19: no villages", rockOf("h1 0 0;").feet(1, NONE), NONE);
        OneADay y = rockOf("h9 2 0;v5 1 0 0;v3 9 0 0;g1;");
        c.due("19: nobody in the fog", y.feet(2, NONE), NONE);
        c.due("19: nobody, day by day neither", y.feet(2, 0), NONE);
        c.due("19: ahead of the fog", y.feet(1, NONE), 6);
        c.due("19: two for a year of two", rockOf("h9 2 0;v5 1 0 0;v3 9 0 0;").feet(3, NONE), NONE);
        OneADay z = rockOf("h9 2 0;v7 1 0 0;v0 9 0 0;v2 9 0 0;v2 1 0 0;g3;");
        // 1 is saved for the fog: 2, 3 and 0 or 1 ahead; 1 on day 0 and day 3 fits a year of two
        c.due("19: four with a fog", z.feet(4, NONE), 8);
        int[] who = {1, 2, 3, 1};
        for (int i = 0; i < 4; i++) c.due("19: with a fog, " + i, z.feet(4, i), who[i]);
        OneADay w = rockOf("h9 2 0;v7 1 0 0;v0 9 0 0;v2 9 0 0;v2 1 0 0;g2;");
        c.due("19: saved for the fog", w.feet(3, NONE), 8);
        int[] saved = {2, 3, 1};
        for (int i = 0; i < 3; i++) c.due("19: saved for the fog, " + i, w.feet(3, i), saved[i]);
        OneADay u = rockOf("h9 3 0;v0 1 0 0;");
        u.day(1);
        c.due("19: blessed ahead of now is of no matter", u.feet(1, NONE), 0);
        c.due("19: when he is down, too", down().feet(3, NONE), 0);
        OneADay t = rockOf("h9 2 0;v9 1 0 0;v0 9 0 0;v1 9 0 0;v1 1 0 0;g2;g12;");
        t.day(10);
        c.due("19: fog from now on", t.feet(3, NONE), 4);
        int[] later = {2, 3, 1};
        for (int i = 0; i < 3; i++) c.due("19: fog from now on, " + i, t.feet(3, i), later[i]);
        t.day(1);
        c.due("19: the fog of tomorrow", t.feet(2, NONE), 2);
        t.day(1);
        c.due("19: the fog of today", t.feet(2, 0), 1);
        t.day(1);
        c.due("19: behind the fog", t.feet(2, 0), 1);
        OneADay s = rockOf("h9 0 0;v4 1 0 0;v3 1 0 0;v3 1 0 0;");
        c.due("19: without a year the nearest", s.feet(10, NONE), 60);
        for (int i = 0; i < 10; i++) c.due("19: without a year the lesser, " + i, s.feet(10, i), 1);
        OneADay r = rockOf("h9 4 0;v9 1 0 0;v1 1 0 0;v8 1 0 0;v2 1 0 0;v7 1 0 0;v3 1 0 0;");
        // five a round: 1, 2, 3, 7, 8; the two nearest go twice
        c.due("19: a round and two", r.feet(7, NONE), 48);
        int[] round = {1, 3, 2, 4, 5, 1, 3};
        for (int i = 0; i < 7; i++) c.due("19: a round and two, " + i, r.feet(7, i), round[i]);
    }

    // ---- promise 20

    private void odds() {
        OneADay x = rockOf(FOUR);
        int[] due = {900000, 1000000, 900000, 500000, 900000, 0, 900000, 0, 900000, 50000};
        for (int t = 0; t < due.length; t++) c.due("20: odds " + t, x.odds(t), due[t]);
        c.due("20: day 999", x.odds(999), 500000);
        c.due("20: day 1000", x.odds(1000), OUTSIDE);
        c.due("20: day -1", x.odds(-1), OUTSIDE);
        x.calendar(3, NONE);
        c.due("20: who stays does not come", x.odds(3), 500000);
        OneADay y = rockOf("h9 9 0;v0 1 0 33;v0 1 0 33;v0 1 0 33;v0 1 0 33;");
        // nobody, one: 330000, 670000; 108900, 221100 + 221100; 35937, 145926 + 72963; 11859, 72233 + 24077
        c.due("20: each cut by itself", y.odds(0), 96310);
        y.calendar(3, NONE);
        c.due("20: of three", y.odds(0), 218889);
        y.calendar(2, NONE);
        y.calendar(1, NONE);
        y.day(1);
        c.due("20: a year is of no matter", y.odds(1), 670000);
    }

    // ---- promise 21

    private void see() {
        OneADay x = rockOf(FOUR);
        c.due("21: day -1", x.see(-1, 0), OUTSIDE);
        c.due("21: day 100", x.see(100, 0), OUTSIDE);
        c.due("21: how -1", x.see(0, -1), OUTSIDE);
        c.due("21: how 3", x.see(0, 3), OUTSIDE);
        c.due("21: refused changes nothing", x.told(16), 0);
        for (int i = 1; i <= 10; i++) c.due("21: the " + i, x.see(i == 10 ? 99 : 0, i % 3), i);
        c.due("21: the 11th", x.see(0, 0), FULL);
        c.due("21: OUTSIDE is ahead of FULL", x.see(100, 0), OUTSIDE);
        c.due("21: ten", x.told(16), 10);
    }

    // ---- promise 22

    private void went() {
        OneADay x = rockOf(FOUR);
        c.due("22: all fit when nothing was seen", x.went(3, 0), 7);
        c.due("22: parted on the first day that they come", x.went(3, 1), 3);
        x.see(3, 2);
        c.due("22: by a failed day", x.went(3, 0), 1);
        c.due("22: one is not parted", x.went(3, 1), NONE);
        c.due("22: others as now", x.went(2, 0), 8);
        x.tear();
        x.see(4, 0);
        c.due("22: by an empty day", x.went(0, 0), 2);
        x.tear();
        x.see(8, 1);
        c.due("22: by a blessed day", x.went(3, 0), 3);
        c.due("22: two are parted", x.went(3, 1), 3);
        x.see(8, 2);
        c.due("22: nothing fits", x.went(3, 0), 0);
        c.due("22: nothing to look at", x.went(3, 1), NONE);
        x.tear();
        x.calendar(3, NONE);
        x.see(6, 2);
        c.due("22: it does not stay for this", x.went(3, 0), 1);
        c.due("22: nothing changes", x.village(3, 4), 1);
        c.due("22: village 4", x.went(4, 0), UNKNOWN);
        c.due("22: UNKNOWN is first", x.went(-1, 2), UNKNOWN);
        c.due("22: what 2", x.went(0, 2), OUTSIDE);
        c.due("22: what -1", x.went(0, -1), OUTSIDE);
        OneADay y = rockOf("h9 9 5;v0 1 0 0;v9 2 0 0;f0;f9;f10;");
        y.day(1);
        y.see(1, 1);
        c.due("22: without a year, an inn", y.went(0, 0), 1);
        y.see(9, 2);
        c.due("22: by a feast both", y.went(1, 0), 3);
        c.due("22: parted behind the feasts", y.went(1, 1), 11);
        c.due("22: two on each day are not parted", rockOf("h9 0 0;v0 1 0 0;v0 1 0 0;v0 2 0 0;").went(2, 1), NONE);
        String hidden = "h9 0 0;v1 1 0 0;v1 1 0 0;v0 2 0 0;";
        c.due("22: parted on day 0", rockOf(hidden).went(2, 1), 0);
        c.due("22: parted on day 99", rockOf(hidden + "f0;g99;").went(2, 1), 99);
        c.due("22: parted on day 100 alone", rockOf(hidden + "f0;g100;").went(2, 1), NONE);
    }

    // ---- promise 23

    private void write() {
        OneADay x = rockOf(FOUR);
        c.due("23: village 4", x.write(0, 4), UNKNOWN);
        c.due("23: village -2", x.write(0, -2), UNKNOWN);
        c.due("23: UNKNOWN is first", x.write(-1, 4), UNKNOWN);
        c.due("23: day -1", x.write(-1, 0), OUTSIDE);
        c.due("23: day 10000", x.write(10000, NONE), OUTSIDE);
        c.due("23: refused changes nothing", x.told(17), 0);
        for (int i = 1; i <= 15; i++) c.due("23: the " + i, x.write(i == 15 ? 9999 : i, i % 5 - 1), i);
        c.due("23: the 16th", x.write(0, 0), FULL);
        c.due("23: UNKNOWN is ahead of FULL", x.write(0, 4), UNKNOWN);
        c.due("23: OUTSIDE is ahead of FULL", x.write(-1, 0), OUTSIDE);
        c.due("23: fifteen", x.told(17), 15);
    }

    // ---- promise 24

    private void tear() {
        OneADay x = rockOf(FOUR);
        x.see(0, 0);
        x.see(0, 0);
        x.write(0, 0);
        c.due("24: both", x.tear(), 3);
        c.due("24: nothing seen", x.told(16), 0);
        c.due("24: no book", x.told(17), 0);
        c.due("24: none", x.tear(), 0);
        c.due("24: seen from 1 on", x.see(0, 1), 1);
        c.due("24: what was torn is of no matter", x.went(0, 0), 1);
        c.due("24: written from 1 on", x.write(0, 0), 1);
    }

    // ---- promise 25

    private void judge() {
        OneADay x = rockOf(FOUR);
        c.due("25: no book", x.judge(), NONE);
        x.write(1, 1);
        c.due("25: a day that was not", x.judge(), 0);
        x.day(4);
        c.due("25: as it was", x.judge(), NONE);
        x.write(3, NONE);
        c.due("25: nobody, as it was", x.judge(), NONE);
        x.write(4, NONE);
        c.due("25: nobody on a day that was not", x.judge(), 2);
        x.write(0, 1);
        c.due("25: the first", x.judge(), 2);
        x.tear();
        x.write(0, 0);
        x.write(2, NONE);
        c.due("25: nobody, but one was", x.judge(), 1);
        x.tear();
        x.write(3, 2);
        c.due("25: one, but nobody was", x.judge(), 0);
        OneADay y = rockOf("h9 0 0;v0 1 0 0;");
        y.write(0, 0);
        y.day(60);
        c.due("25: the 60th from the end", y.judge(), NONE);
        y.day(1);
        c.due("25: none of the latest 60", y.judge(), 0);
        y.undo();
        c.due("25: undone, it is again", y.judge(), NONE);
    }

    // ---- promise 26

    private void seed() {
        OneADay x = new OneADay();
        c.due("26: 0 at first", x.seed(FAR), 0);
        c.due("26: the largest", x.seed(0), FAR);
        c.due("26: -1", x.seed(-1), OUTSIDE);
        c.due("26: deep", x.seed(DEEP), OUTSIDE);
        c.due("26: refused changes nothing", x.seed(1), 0);
        c.due("26: what it was", x.seed(2), 1);
        OneADay y = rockOf("h9 0 0;v0 1 0 0;");
        y.seed(FAR);
        y.drift(1);
        c.due("26: by the largest", y.seed(0), (FAR * 1103515245L + 12345L) % 2147483648L);
    }

    // ---- promises 27, 28

    private void keepAndGoBack() {
        OneADay x = rockOf("h9 3 2;v0 2 0 0;v1 2 0 0;v2 2 0 0;");
        c.due("28: not kept", x.goBack(0), NOT);
        c.due("28: not kept, 1", x.goBack(1), NOT);
        for (int i : new int[] {-1, 2, FAR, DEEP}) {
            c.due("27: image " + i, x.keep(i), UNKNOWN);
            c.due("28: image " + i, x.goBack(i), UNKNOWN);
        }
        x.seed(11);
        x.day(4);
        x.calendar(1, NONE);
        c.due("27: refused leaves what can be undone", x.told(18), 2);
        c.due("28: refused leaves what can be undone", x.goBack(1), NOT);
        c.due("28: two still", x.told(18), 2);
        int[] kept = all(x);
        c.due("27: keep 0", x.keep(0), 1);
        c.due("27: nothing can be undone", x.undo(), NOT);
        x.drift(40);
        x.calendar(0, NONE);
        x.day(30);
        x.see(3, 1);
        x.write(3, 1);
        int[] later = all(x);
        int seed = x.seed(0);
        x.seed(seed);
        c.due("27: keep 1", x.keep(1), 1);
        x.calendar(1, 1);
        c.due("28: go back", x.goBack(0), 1);
        sameAll("28: image 0", all(x), kept);
        c.due("28: its seed", x.seed(11), 11);
        c.due("28: nothing can be undone", x.undo(), NOT);
        c.due("28: what was seen stays", x.told(16), 1);
        c.due("28: the book stays", x.told(17), 1);
        x.day(9);
        c.due("28: go back again", x.goBack(0), 1);
        sameAll("28: image 0 again", all(x), kept);
        c.due("28: go to 1", x.goBack(1), 1);
        sameAll("28: image 1", all(x), later);
        c.due("28: its seed, 1", x.seed(0), seed);
        x.keep(0);
        x.goBack(1);
        x.goBack(0);
        c.due("27: written over", x.told(7), later[0]);
        c.due("27: its seed, too", x.seed(0), 0);
    }

    private void sameAll(String what, int[] got, int[] want) {
        for (int i = 0; i < want.length; i++) c.due(what + ", " + i, got[i], want[i]);
    }
}
