import java.util.Random;

/** Long random runs of all calls, each answer held against the Oracle's. */
public final class AgainstOracleTest {
    private static final int RUNS = 300;
    private static final int MOST_CALLS = 512;

    private final Check check;
    private final Random random;
    private final OneADay x = new OneADay();
    private final Oracle y = new Oracle();
    private final StringBuilder log = new StringBuilder();
    private int calls;
    private boolean parted;

    private AgainstOracleTest(Check check, long seed) {
        this.check = check;
        this.random = new Random(seed);
        log.append("run ").append(seed).append(':');
    }

    public static void main(String[] args) {
        Check check = new Check();
        for (int run = 0; run < RUNS; run++) new AgainstOracleTest(check, run).run();
        check.end();
    }

    private void run() {
        if (random.nextInt(4) == 0) some(20);
        tell(random.nextInt(6) == 0 ? spoilt(text()) : text());
        int rocks = random.nextInt(3);
        while (calls < MOST_CALLS && !parted) {
            some(40);
            if (rocks-- > 0) tell(random.nextInt(2) == 0 ? spoilt(text()) : text());
        }
    }

    private void some(int many) {
        for (int i = 0; i < many && calls < MOST_CALLS && !parted; i++) call();
    }

    private void same(String call, int got, int want) {
        calls++;
        log.append(' ').append(call);
        parted |= got != want;
        check.due(got == want ? call : log.toString(), got, want);
    }

    // ---- texts

    private String text() {
        StringBuilder s = new StringBuilder();
        int roomy = random.nextInt(3);
        int[] years = {0, 0, 1, 2, 3, 4, 5, 6, 7, 8, 30, random.nextInt(31)};
        int[] inns = {0, 0, random.nextInt(10)};
        s.append(blank(roomy)).append('h').append(1 + random.nextInt(9)).append(' ').append(years[random.nextInt(years.length)])
            .append(' ').append(inns[random.nextInt(inns.length)]).append(';');
        int villages = random.nextInt(9);
        int farthest = random.nextInt(10);
        int[] periods = periods(villages);
        for (int v = 0; v < villages; v++) {
            s.append(blank(roomy)).append('v').append(blank(roomy)).append(random.nextInt(3) == 0 ? 0 : random.nextInt(farthest + 1))
                .append(' ').append(periods[v]).append(' ').append(random.nextInt(periods[v])).append(' ')
                .append(random.nextInt(101)).append(blank(roomy)).append(';');
        }
        s.append(marks('f', random.nextInt(5))).append(marks('g', random.nextInt(9)));
        return s.toString();
    }

    private String blank(int roomy) {
        return roomy == 0 && random.nextInt(4) == 0 ? " " : "";
    }

    /** Often such that each day can have just one. */
    private int[] periods(int many) {
        int[][] whole = {{1}, {2, 2}, {2, 4, 4}, {3, 3, 3}, {3, 6, 3, 6}, {4, 4, 6, 6, 6}, {9, 9, 9, 3, 6, 6},
            {8, 8, 4, 2}, {6, 6, 6, 6, 6, 6}, {9, 9, 9, 9, 9, 9, 6, 6}, {8, 8, 8, 8, 8, 8, 8, 8}, {2, 3, 6},
            {5, 5, 5, 5, 5}, {7, 7, 7, 7, 7, 7, 7}, {4, 8, 8, 4, 6, 6, 6}, {2, 6, 6, 9, 9, 9}};
        int[] p = new int[many];
        for (int i = 0; i < many; i++) p[i] = 1 + random.nextInt(9);
        if (random.nextInt(2) == 0) {
            int[] some = whole[random.nextInt(whole.length)];
            for (int i = 0; i < many && i < some.length; i++) p[i] = some[i];
        }
        return p;
    }

    private String marks(char word, int many) {
        StringBuilder s = new StringBuilder();
        int step = random.nextInt(3) == 0 ? 120 : 4;
        int t = random.nextInt(10);
        for (int i = 0; i < many && t < 1000; i++) {
            s.append(word).append(t).append(';');
            t += 1 + random.nextInt(step);
        }
        return s.toString();
    }

    private String spoilt(String text) {
        StringBuilder s = new StringBuilder(text);
        String signs = "hvfg0123456789;; x\u00e9";
        int times = random.nextInt(3);
        for (int i = 0; i < times; i++) {
            int at = random.nextInt(s.length() + 1);
            char sign = signs.charAt(random.nextInt(signs.length()));
            int way = random.nextInt(5);
            if (way == 0) s.setLength(at);
            else if (way == 1 && at < s.length()) s.deleteCharAt(at);
            else if (way == 2 && at < s.length()) s.setCharAt(at, sign);
            else if (way == 3) s.insert(at, sign);
            else s.append(sign == 'x' ? "v0 1 0 0;" : "g" + random.nextInt(12) + ";f" + random.nextInt(12) + ";");
        }
        return random.nextInt(20) == 0 ? "   ".substring(random.nextInt(4)) : s.toString();
    }

    private void tell(String text) {
        for (int i = 0; i < text.length() && calls < MOST_CALLS; i++) {
            same("feed(" + (int) text.charAt(i) + ")", x.feed(text.charAt(i)), y.feed(text.charAt(i)));
        }
        same("rock()", x.rock(), y.rock());
        same("fault()", x.fault(), y.fault());
        for (int what = 0; what < 19; what++) askTold(what);
        for (int v = 0; v < 8; v++) for (int what = 0; what < 6; what++) if (random.nextInt(4) == 0) askVillage(v, what);
    }

    // ---- calls

    /** Mostly within the bounds, now and then one past them or far off. */
    private int within(int least, int most) {
        int way = random.nextInt(60);
        if (way == 0) return least - 1;
        if (way == 1) return most + 1;
        if (way == 2) return random.nextInt();
        if (way == 3) return least;
        if (way == 4) return most;
        return least + random.nextInt(most - least + 1);
    }

    private int someVillage() {
        int many = Math.max(1, y.villages.size());
        return random.nextInt(30) == 0 ? within(-1, 8) : random.nextInt(many);
    }

    private int nearDay() {
        return random.nextInt(8) == 0 ? within(0, 999) : Math.max(0, y.now.days + random.nextInt(30) - 10);
    }

    private void askTold(int what) { same("told(" + what + ")", x.told(what), y.told(what)); }

    private void askVillage(int v, int what) {
        same("village(" + v + ", " + what + ")", x.village(v, what), y.village(v, what));
    }

    private void call() {
        int which = random.nextInt(34);
        if (which < 6) ask(which);
        else if (which < 14) doSomething(which);
        else if (which < 24) tryOut(which);
        else look(which);
    }

    private void ask(int which) {
        if (which == 0) {
            same("fault()", x.fault(), y.fault());
        } else if (which == 1) {
            askVillage(someVillage(), within(0, 5));
        } else if (which == 2) {
            int t = random.nextBoolean() ? nearDay() : within(0, 9999);
            same("comes(" + t + ")", x.comes(t), y.comes(t));
        } else if (which == 3) {
            int t = random.nextInt(10) == 0 ? random.nextInt() : y.now.days - random.nextInt(63);
            same("blessed(" + t + ")", x.blessed(t), y.blessed(t));
        } else {
            askTold(within(0, 18));
        }
    }

    private void doSomething(int which) {
        if (which < 9) {
            int n = random.nextInt(3) == 0 ? within(1, 99) : 1 + random.nextInt(4);
            same("day(" + n + ")", x.day(n), y.day(n));
        } else if (which < 11) {
            int v = someVillage();
            int o = within(-1, v >= 0 && v < y.villages.size() ? y.villages.get(v).p() - 1 : 9);
            same("calendar(" + v + ", " + o + ")", x.calendar(v, o), y.calendar(v, o));
        } else if (which == 11) {
            int n = random.nextInt(3) == 0 ? within(1, 99) : 1 + random.nextInt(9);
            same("drift(" + n + ")", x.drift(n), y.drift(n));
        } else {
            same("undo()", x.undo(), y.undo());
        }
    }

    private void tryOut(int which) {
        if (which == 14) {
            same("whenDown()", x.whenDown(), y.whenDown());
        } else if (which == 15) {
            int n = within(0, 60), what = within(0, 1);
            same("ahead(" + n + ", " + what + ")", x.ahead(n, what), y.ahead(n, what));
        } else if (which == 16 || which == 17) {
            int set = random.nextBoolean() ? (1 << y.villages.size()) - 1 : within(0, 255), v = someVillage();
            same("certain(" + set + ", " + v + ")", x.certain(set, v), y.certain(set, v));
        } else if (which == 18) {
            int n = within(1, 30);
            same("away(" + n + ")", x.away(n), y.away(n));
        } else if (which == 19) {
            int v = someVillage(), t = nearDay();
            same("smoke(" + v + ", " + t + ")", x.smoke(v, t), y.smoke(v, t));
        } else if (which == 20) {
            int n = random.nextBoolean() ? within(1, 60) : 1 + random.nextInt(8);
            same("inn(" + n + ")", x.inn(n), y.inn(n));
        } else if (which < 23) {
            int n = within(1, 10), i = within(-1, 9);
            same("feet(" + n + ", " + i + ")", x.feet(n, i), y.feet(n, i));
        } else {
            int t = nearDay();
            same("odds(" + t + ")", x.odds(t), y.odds(t));
        }
    }

    private void look(int which) {
        if (which == 24) {
            // what is seen is mostly so, or nothing would ever fit
            int t = within(0, 99), set = random.nextInt(5) == 0 ? random.nextInt(256) : t < 0 || t > 99 ? 0 : y.comes(t);
            int how = random.nextInt(40) == 0 ? within(-1, 3) : Math.min(2, Integer.bitCount(set));
            same("see(" + t + ", " + how + ")", x.see(t, how), y.see(t, how));
        } else if (which < 27) {
            int v = someVillage(), what = within(0, 1);
            same("went(" + v + ", " + what + ")", x.went(v, what), y.went(v, what));
        } else if (which < 29) {
            int t = random.nextInt(9) == 0 ? within(0, 9999) : Math.max(0, y.now.days - random.nextInt(61));
            int v = random.nextInt(9) == 0 ? within(-1, 8) : y.blessed(t);
            same("write(" + t + ", " + v + ")", x.write(t, v), y.write(t, v));
        } else if (which == 29) {
            if (random.nextInt(3) == 0) same("tear()", x.tear(), y.tear());
        } else if (which == 30) {
            same("judge()", x.judge(), y.judge());
        } else if (which == 31) {
            int v = random.nextInt();
            same("seed(" + v + ")", x.seed(v), y.seed(v));
        } else if (which == 32) {
            int i = within(0, 1);
            if (random.nextInt(4) == 0) same("keep(" + i + ")", x.keep(i), y.keep(i));
        } else {
            int i = within(0, 1);
            if (random.nextInt(4) == 0) same("goBack(" + i + ")", x.goBack(i), y.goBack(i));
        }
    }
}
