import java.util.ArrayList;
import java.util.Arrays;
import java.util.HashMap;
import java.util.List;
import java.util.Map;
import java.util.regex.Matcher;
import java.util.regex.Pattern;

/**
 * The document said a second time, as plainly as can be and by other means than OneADay (regular expressions, maps,
 * plain searches), so that one of them can be held against the other. It does not look at speed or room.
 */
final class Oracle {
    static final int NONE = -1, UNKNOWN = -1000000001, OUTSIDE = -1000000002, NOT = -1000000003, FULL = -1000000004;

    /** One village as told. */
    record Village(int d, int p, int o, int q) { }

    /** All of section 2. */
    static final class Course {
        int days, run, blessed, failed, empty, feet, home;
        boolean down;
        List<Integer> offsets = new ArrayList<>();
        List<Boolean> stays = new ArrayList<>();
        List<Integer> row = new ArrayList<>();
        Map<Integer, Integer> who = new HashMap<>();
        Map<Integer, Integer> lastDay = new HashMap<>();

        Course copy() {
            Course c = new Course();
            c.days = days; c.run = run; c.blessed = blessed; c.failed = failed; c.empty = empty;
            c.feet = feet; c.home = home; c.down = down;
            c.offsets.addAll(offsets); c.stays.addAll(stays); c.row.addAll(row);
            c.who.putAll(who); c.lastDay.putAll(lastDay);
            return c;
        }

        int last(int v) {
            return lastDay.getOrDefault(v, NONE);
        }

        void bless(int v) {
            who.put(days, v);
            lastDay.put(v, days);
            blessed++;
        }
    }

    String text = "";
    int faultPlace = NONE;
    boolean hermit;
    int k, y, inn;
    List<Village> villages = new ArrayList<>();
    List<Integer> feasts = new ArrayList<>(), fogs = new ArrayList<>();
    Course now = new Course();
    List<Course> past = new ArrayList<>();
    Course[] image = new Course[2];
    long[] imageSeed = new long[2];
    long seed;
    List<int[]> seen = new ArrayList<>(), book = new ArrayList<>();

    // ---- the rock

    int feed(int letter) {
        if (letter < 0 || letter > 255) return OUTSIDE;
        if (text.length() == 240) return FULL;
        text += (char) letter;
        return text.length();
    }

    private static final Pattern TOKEN = Pattern.compile(" *([0-9]+|[^ ]|\\z)");

    /** Cuts the text into tokens first, then goes through them. */
    int rock() {
        String t = text;
        text = "";
        List<String> words = new ArrayList<>();
        List<Integer> places = new ArrayList<>();
        Matcher m = TOKEN.matcher(t);
        while (m.find()) {
            words.add(m.group(1));
            places.add(m.start(1));
            if (m.group(1).isEmpty()) break;
        }
        boolean newHermit = false;
        int[] head = new int[3];
        List<Village> vs = new ArrayList<>();
        Map<String, List<Integer>> marks = new HashMap<>();
        marks.put("f", new ArrayList<>());
        marks.put("g", new ArrayList<>());
        int i = 0;
        while (!words.get(i).isEmpty()) {
            String w = words.get(i);
            if (!w.matches("[hvfg]") || (!newHermit && !w.equals("h"))) return refuse(1, places.get(i));
            if (w.equals("h") && newHermit || w.equals("v") && vs.size() == 8
                || marks.containsKey(w) && marks.get(w).size() == 8) return refuse(3, places.get(i));
            i++;
            int many = w.equals("h") ? 3 : w.equals("v") ? 4 : 1;
            int[] n = new int[many];
            for (int j = 0; j < many; j++, i++) {
                if (!words.get(i).matches("[0-9]+")) return refuse(1, places.get(i));
                if (words.get(i).length() > 3) return refuse(2, places.get(i));
                n[j] = Integer.parseInt(words.get(i));
                int lo = w.equals("h") && j == 0 || w.equals("v") && j == 1 ? 1 : 0;
                int hi = w.equals("h") ? new int[] {9, 30, 9}[j]
                    : w.equals("v") ? new int[] {9, 9, j == 2 ? n[1] - 1 : 0, 100}[j] : 999;
                if (n[j] < lo || n[j] > hi) return refuse(2, places.get(i));
                if (marks.containsKey(w) && marks.get(w).contains(n[j])) return refuse(4, places.get(i));
            }
            if (!words.get(i).equals(";")) return refuse(1, places.get(i));
            i++;
            if (w.equals("h")) { newHermit = true; head = n; }
            else if (w.equals("v")) vs.add(new Village(n[0], n[1], n[2], n[3]));
            else marks.get(w).add(n[0]);
        }
        faultPlace = NONE;
        hermit = newHermit;
        k = head[0]; y = head[1]; inn = head[2];
        villages = vs;
        feasts = marks.get("f");
        fogs = marks.get("g");
        now = new Course();
        for (Village v : vs) { now.offsets.add(v.o); now.stays.add(false); }
        past.clear();
        image = new Course[2];
        seen.clear();
        book.clear();
        return vs.size();
    }

    private int refuse(int number, int place) {
        faultPlace = place;
        return -10 - number;
    }

    int fault() { return faultPlace; }

    int told(int what) {
        int[] all = {k, y, inn, villages.size(), feasts.size(), fogs.size(), text.length(), now.days, now.run,
            now.down ? 1 : 0, now.blessed, now.failed, now.empty, now.feet, now.row.size(), now.home, seen.size(),
            book.size(), past.size()};
        return what < 0 || what >= all.length ? OUTSIDE : all[what];
    }

    private boolean no(int v) { return v < 0 || v >= villages.size(); }

    int village(int v, int what) {
        if (no(v)) return UNKNOWN;
        if (what < 0 || what > 5) return OUTSIDE;
        Village g = villages.get(v);
        return new int[] {g.d, g.p, now.offsets.get(v), g.q, now.stays.get(v) ? 1 : 0, now.last(v)}[what];
    }

    /** Whether a village that does not stay away comes on day t by offset o, without a year. */
    private boolean goes(int v, int o, int t) {
        Village g = villages.get(v);
        boolean called = t % g.p == o || feasts.contains(t);
        boolean turned = fogs.contains(t) && g.d > 0;
        return called && !turned && t >= g.d;
    }

    private List<Integer> who(Course c, int t, boolean year) {
        List<Integer> list = new ArrayList<>();
        for (int v = 0; v < villages.size(); v++) {
            if (c.stays.get(v) || !goes(v, c.offsets.get(v), t)) continue;
            int last = year ? c.last(v) : NONE;
            boolean must = false;
            for (int b = 1; b <= y; b++) if (last != NONE && last + b == t) must = true;
            if (!must) list.add(v);
        }
        return list;
    }

    private static int setOf(List<Integer> list) {
        int set = 0;
        for (int v : list) set += 1 << v;
        return set;
    }

    int comes(int t) { return t < 0 || t > 9999 ? OUTSIDE : setOf(who(now, t, true)); }

    private boolean latest(int t) { return t >= 0 && t < now.days && now.days - t <= 60; }

    int blessed(int t) { return latest(t) ? now.who.getOrDefault(t, NONE) : NONE; }

    // ---- what is done

    private void live(Course c, int innSize) {
        List<Integer> list = who(c, c.days, true);
        for (int v : list) c.feet += 2 * villages.get(v).d;
        boolean empty;
        if (innSize == 0) {
            empty = list.isEmpty();
            if (list.size() == 1) c.bless(list.get(0));
            if (list.size() > 1) c.failed++;
        } else {
            c.row.addAll(list);
            empty = c.row.isEmpty();
            if (!empty) c.bless(c.row.remove(0));
            while (c.row.size() > innSize) { c.row.remove(c.row.size() - 1); c.home++; }
        }
        c.run = empty ? c.run + 1 : 0;
        if (empty) c.empty++;
        c.days++;
        if (c.run == k) c.down = true;
    }

    private int refusal(int n) {
        if (n < 1 || n > 99) return OUTSIDE;
        if (!hermit || now.down) return NOT;
        return now.days > 9000 ? FULL : 0;
    }

    private void remember() {
        past.add(now.copy());
        if (past.size() > 20) past.remove(0);
    }

    int day(int n) {
        if (refusal(n) != 0) return refusal(n);
        remember();
        while (n-- > 0 && !now.down) live(now, inn);
        return now.days;
    }

    int calendar(int v, int o) {
        if (no(v)) return UNKNOWN;
        if (o != NONE && (o < 0 || o >= villages.get(v).p)) return OUTSIDE;
        remember();
        int had = now.stays.get(v) ? NONE : now.offsets.get(v);
        now.stays.set(v, o == NONE);
        if (o != NONE) now.offsets.set(v, o);
        return had;
    }

    private int draw(int n) {
        seed = (seed * 1103515245L + 12345L) % 2147483648L;
        return (int) (seed / 65536 % n);
    }

    int drift(int n) {
        if (refusal(n) != 0) return refusal(n);
        remember();
        while (n-- > 0 && !now.down) {
            if (draw(4) == 0 && !villages.isEmpty()) {
                int v = draw(villages.size());
                now.offsets.set(v, draw(villages.get(v).p));
            }
            live(now, inn);
        }
        return now.days;
    }

    int undo() {
        if (past.isEmpty()) return NOT;
        now = past.remove(past.size() - 1);
        return past.size();
    }

    // ---- tried

    int whenDown() {
        if (!hermit || now.down) return NOT;
        Course c = now.copy();
        for (int i = 0; i < 999 && !c.down; i++) live(c, inn);
        return c.down ? c.days - 1 : NONE;
    }

    private Course after(int n, int innSize, int set) {
        Course c = now.copy();
        for (int v = 0; v < villages.size(); v++) if ((set >> v & 1) == 1) c.stays.set(v, true);
        for (int i = 0; i < n && !c.down; i++) live(c, innSize);
        return c;
    }

    int ahead(int n, int what) {
        if (n < 0 || n > 60 || what < 0 || what > 1) return OUTSIDE;
        if (!hermit) return NOT;
        Course c = after(n, inn, 0);
        return what == 0 ? c.empty - now.empty : c.failed - now.failed;
    }

    private boolean bad(int set) { return set < 0 || set >= 1 << villages.size(); }

    int certain(int set, int v) {
        if (bad(set) || no(v)) return UNKNOWN;
        int[] found = new int[8];
        Arrays.fill(found, NONE);
        return tile(set, 0, new int[2520], found) ? found[v] : NONE;
    }

    /** Lays villages day by day over a round of all periods. */
    private boolean tile(int set, int v, int[] days, int[] found) {
        if (v == villages.size()) {
            for (int d : days) if (d != 1) return false;
            return true;
        }
        found[v] = NONE;
        if ((set >> v & 1) == 0) return tile(set, v + 1, days, found);
        int p = villages.get(v).p;
        for (int o = 0; o < p; o++) {
            int[] more = days.clone();
            boolean twice = false;
            for (int t = o; t < 2520; t += p) if (++more[t] > 1) twice = true;
            found[v] = o;
            if (!twice && tile(set, v + 1, more, found)) return true;
        }
        found[v] = NONE;
        return false;
    }

    int away(int n) {
        if (n < 1 || n > 30) return OUTSIDE;
        if (!hermit) return NOT;
        int best = NONE;
        for (int set = 0; set < 1 << villages.size(); set++) {
            boolean more = true;
            for (int v = 0; v < villages.size(); v++) if ((set >> v & 1) == 1 && now.stays.get(v)) more = false;
            if (!more || best != NONE && Integer.bitCount(best) <= Integer.bitCount(set)) continue;
            Course c = after(n, inn, set);
            if (c.failed == now.failed && c.home == now.home) best = set;
        }
        return best;
    }

    int smoke(int v, int t) {
        if (no(v)) return UNKNOWN;
        if (t < 0 || t > 999) return OUTSIDE;
        List<Integer> list = who(now, t, false);
        list.remove(Integer.valueOf(v));
        return list.isEmpty() ? 1 : 0;
    }

    int inn(int n) {
        if (n < 1 || n > 60) return OUTSIDE;
        if (!hermit) return NOT;
        for (int i = 0; i <= 9; i++) {
            Course c = after(n, i, 0);
            if (c.failed == now.failed && c.home == now.home && c.empty == now.empty) return i;
        }
        return NONE;
    }

    int feet(int n, int i) {
        if (n < 1 || n > 10) return OUTSIDE;
        if (!hermit) return NOT;
        List<Integer> chosen = new ArrayList<>();
        Map<String, Integer> known = new HashMap<>();
        int least = rest(chosen, n, known);
        if (least < 0) return NONE;
        if (i == NONE) return least;
        if (i < 0 || i >= n) return NONE;
        int spent = 0;
        while (chosen.size() < n) {
            for (int v = 0; v < villages.size(); v++) {
                if (!may(chosen, v)) continue;
                chosen.add(v);
                int rest = rest(chosen, n, known);
                if (rest >= 0 && spent + 2 * villages.get(v).d + rest == least) {
                    spent += 2 * villages.get(v).d;
                    break;
                }
                chosen.remove(chosen.size() - 1);
            }
        }
        return chosen.get(i);
    }

    private boolean may(List<Integer> chosen, int v) {
        int at = chosen.size();
        if (fogs.contains(now.days + at) && villages.get(v).d > 0) return false;
        return !chosen.subList(Math.max(0, at - y), at).contains(v);
    }

    private int rest(List<Integer> chosen, int n, Map<String, Integer> known) {
        int at = chosen.size();
        if (at == n) return 0;
        String key = at + ":" + chosen.subList(Math.max(0, at - y), at);
        Integer before = known.get(key);
        if (before != null) return before;
        int least = NONE;
        for (int v = 0; v < villages.size(); v++) {
            if (!may(chosen, v)) continue;
            chosen.add(v);
            int rest = rest(chosen, n, known);
            chosen.remove(at);
            int sum = 2 * villages.get(v).d + rest;
            if (rest >= 0 && (least == NONE || sum < least)) least = sum;
        }
        known.put(key, least);
        return least;
    }

    int odds(int t) {
        if (t < 0 || t > 999) return OUTSIDE;
        long nobody = 1000000, one = 0;
        for (int v : who(now, t, false)) {
            long q = villages.get(v).q;
            long oneStill = one * q / 100, oneNow = nobody * (100 - q) / 100;
            nobody = nobody * q / 100;
            one = oneStill + oneNow;
        }
        return (int) one;
    }

    // ---- what was seen

    int see(int t, int how) {
        if (t < 0 || t > 99 || how < 0 || how > 2) return OUTSIDE;
        if (seen.size() == 10) return FULL;
        seen.add(new int[] {t, how});
        return seen.size();
    }

    private int kind(int v, int o, int t) {
        int many = 0;
        for (int u = 0; u < villages.size(); u++) {
            boolean goes = u == v ? goes(v, o, t) : !now.stays.get(u) && goes(u, now.offsets.get(u), t);
            if (goes) many++;
        }
        return Math.min(many, 2);
    }

    int went(int v, int what) {
        if (no(v)) return UNKNOWN;
        if (what < 0 || what > 1) return OUTSIDE;
        List<Integer> fit = new ArrayList<>();
        for (int o = 0; o < villages.get(v).p; o++) {
            boolean all = true;
            for (int[] s : seen) if (kind(v, o, s[0]) != s[1]) all = false;
            if (all) fit.add(o);
        }
        if (what == 0) return setOf(fit);
        for (int t = 0; t < 100; t++)
            for (int o : fit) if (kind(v, o, t) != kind(v, fit.get(0), t)) return t;
        return NONE;
    }

    int write(int t, int v) {
        if (v != NONE && no(v)) return UNKNOWN;
        if (t < 0 || t > 9999) return OUTSIDE;
        if (book.size() == 15) return FULL;
        book.add(new int[] {t, v});
        return book.size();
    }

    int tear() {
        int had = seen.size() + book.size();
        seen.clear();
        book.clear();
        return had;
    }

    int judge() {
        for (int i = 0; i < book.size(); i++) {
            int[] e = book.get(i);
            if (!latest(e[0]) || now.who.getOrDefault(e[0], NONE) != e[1]) return i;
        }
        return NONE;
    }

    // ---- draws, images

    int seed(int v) {
        if (v < 0) return OUTSIDE;
        int had = (int) seed;
        seed = v;
        return had;
    }

    int keep(int i) {
        if (i < 0 || i > 1) return UNKNOWN;
        image[i] = now.copy();
        imageSeed[i] = seed;
        past.clear();
        return 1;
    }

    int goBack(int i) {
        if (i < 0 || i > 1) return UNKNOWN;
        if (image[i] == null) return NOT;
        now = image[i].copy();
        seed = imageSeed[i];
        past.clear();
        return 1;
    }
}
