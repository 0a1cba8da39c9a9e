import java.util.Arrays;

/** A hermit on a rock blesses one visitor a day, just one; DOC.md tells what each call answers. */
public final class OneADay {
    public static final int NONE = -1, UNKNOWN = -1000000001, OUTSIDE = -1000000002, NOT = -1000000003, FULL = -1000000004;

    private static final int MOST_LETTERS = 240;
    private static final int MOST_VILLAGES = 8;
    private static final int MOST_MARKED = 8;
    private static final int LAST_MARKED_DAY = 999;
    private static final int MOST_INN = 9;
    private static final int LATEST = 60;
    private static final int MOST_UNDONE = 20;
    private static final int IMAGES = 2;
    private static final int MOST_SEEN = 10;
    private static final int SEEN_DAYS = 100;
    private static final int MOST_ENTRIES = 15;
    private static final int MOST_PLANNED = 10;
    private static final int LAST_DAY = 9999;
    private static final int DAYS_ENOUGH = 9000;
    private static final int MOST_AT_ONCE = 99;
    private static final int LOOK_AHEAD = 999;
    private static final int MILLION = 1000000;

    private static final int EMPTY = 0, BLESSED = 1, FAILED = 2;

    private final char[] text = new char[MOST_LETTERS];
    private int letters;
    private int faultPlace = NONE;
    private final Reader reader = new Reader();
    private Rock ground = new Rock();
    private Rock draft = new Rock();
    private final Days now = new Days();
    private final Days trial = new Days();
    private final Past past = new Past();
    private final Days[] images = new Days[IMAGES];
    private final int[] imageSeeds = new int[IMAGES];
    private int imagesKept;
    private int drawn;
    private final Notes notes = new Notes();
    private final Cover cover = new Cover();
    private final Plan plan = new Plan();

    public OneADay() {
        for (int i = 0; i < images.length; i++) images[i] = new Days();
    }

    // ---- the rock

    public int feed(int letter) {
        if (letter < 0 || letter > 255) return OUTSIDE;
        if (letters < 0 || letters >= text.length) return FULL;
        text[letters] = (char) letter;
        letters++;
        return letters;
    }

    public int rock() {
        int fault = reader.read(text, letters, draft);
        letters = 0;
        if (fault != 0) {
            faultPlace = reader.place;
            return -10 - fault;
        }
        faultPlace = NONE;
        Rock old = ground;
        ground = draft;
        draft = old;
        now.begin(ground);
        notes.clear();
        past.clear();
        imagesKept = 0;
        return ground.villages;
    }

    public int fault() {
        return faultPlace;
    }

    public int told(int what) {
        switch (what) {
            case 0: return ground.patience;
            case 1: return ground.year;
            case 2: return ground.inn;
            case 3: return ground.villages;
            case 4: return ground.feasts;
            case 5: return ground.fogs;
            case 6: return letters;
            case 7: return now.days;
            case 8: return now.emptyRun;
            case 9: return now.down ? 1 : 0;
            case 10: return now.blessings;
            case 11: return now.failures;
            case 12: return now.empties;
            case 13: return now.walked;
            case 14: return now.waiting;
            case 15: return now.sentHome;
            case 16: return notes.seen;
            case 17: return notes.entries;
            case 18: return past.count;
            default: return OUTSIDE;
        }
    }

    public int village(int v, int what) {
        if (!ground.has(v)) return UNKNOWN;
        switch (what) {
            case 0: return ground.road[v];
            case 1: return ground.period[v];
            case 2: return now.offset[v];
            case 3: return ground.fever[v];
            case 4: return now.staysAway(v) ? 1 : 0;
            case 5: return now.last[v];
            default: return OUTSIDE;
        }
    }

    public int comes(int t) {
        if (t < 0 || t > LAST_DAY) return OUTSIDE;
        return now.comers(ground, t);
    }

    public int blessed(int t) {
        return now.blessedOn(t);
    }

    // ---- what is done

    public int day(int n) {
        int refusal = refusalOfDays(n);
        if (refusal != 0) return refusal;
        past.push(now);
        for (int i = 0; i < n && !now.down; i++) now.live(ground, ground.inn);
        return now.days;
    }

    public int calendar(int v, int o) {
        if (!ground.has(v)) return UNKNOWN;
        if (o < NONE || o >= ground.period[v]) return OUTSIDE;
        past.push(now);
        int before = now.staysAway(v) ? NONE : now.offset[v];
        if (o == NONE) {
            now.stays |= 1 << v;
        } else {
            now.stays &= ~(1 << v);
            now.offset[v] = o;
        }
        return before;
    }

    public int drift(int n) {
        int refusal = refusalOfDays(n);
        if (refusal != 0) return refusal;
        past.push(now);
        for (int i = 0; i < n && !now.down; i++) {
            shiftByDraws();
            now.live(ground, ground.inn);
        }
        return now.days;
    }

    public int undo() {
        if (past.count < 1) return NOT;
        past.pop(now);
        return past.count;
    }

    // ---- tried

    public int whenDown() {
        if (!ground.hermit || now.down) return NOT;
        trial.goOnFrom(now);
        for (int i = 0; i < LOOK_AHEAD; i++) {
            trial.live(ground, ground.inn);
            if (trial.down) return trial.days - 1;
        }
        return NONE;
    }

    public int ahead(int n, int what) {
        if (n < 0 || n > 60 || what < 0 || what > 1) return OUTSIDE;
        if (!ground.hermit) return NOT;
        trial.goOnFrom(now);
        for (int i = 0; i < n && !trial.down; i++) trial.live(ground, ground.inn);
        return what == 0 ? trial.empties - now.empties : trial.failures - now.failures;
    }

    public int certain(int set, int v) {
        if (!ground.has(v) || (set & ~ground.all()) != 0) return UNKNOWN;
        if ((set >> v & 1) == 0) return NONE;
        return cover.find(ground, set) ? cover.offset[v] : NONE;
    }

    public int away(int n) {
        if (n < 1 || n > 30) return OUTSIDE;
        if (!ground.hermit) return NOT;
        int all = ground.all();
        for (int size = 0; size <= MOST_VILLAGES; size++) {
            for (int set = 0; set <= all; set++) {
                boolean more = (set & now.stays) == 0 && Integer.bitCount(set) == size;
                if (more && isPeaceful(set, n)) return set;
            }
        }
        return NONE;
    }

    public int smoke(int v, int t) {
        if (!ground.has(v)) return UNKNOWN;
        if (t < 0 || t > LAST_MARKED_DAY) return OUTSIDE;
        return (now.comersByCalendar(ground, t) & ~(1 << v)) == 0 ? 1 : 0;
    }

    public int inn(int n) {
        if (n < 1 || n > 60) return OUTSIDE;
        if (!ground.hermit) return NOT;
        for (int i = 0; i <= MOST_INN; i++) {
            if (isLargeEnough(i, n)) return i;
        }
        return NONE;
    }

    public int feet(int n, int i) {
        if (n < 1 || n > MOST_PLANNED) return OUTSIDE;
        if (!ground.hermit) return NOT;
        int least = plan.make(ground, now.days, n);
        if (least == NONE || i == NONE) return least;
        return i < 0 || i >= n || i >= plan.chosen.length ? NONE : plan.chosen[i];
    }

    public int odds(int t) {
        if (t < 0 || t > LAST_MARKED_DAY) return OUTSIDE;
        int comers = now.comersByCalendar(ground, t);
        int nobody = MILLION;
        int one = 0;
        for (int v = 0; v < MOST_VILLAGES; v++) {
            if ((comers >> v & 1) == 0) continue;
            int ill = ground.fever[v];
            one = one * ill / 100 + nobody * (100 - ill) / 100;
            nobody = nobody * ill / 100;
        }
        return one;
    }

    // ---- what was seen

    public int see(int t, int how) {
        if (t < 0 || t >= SEEN_DAYS || how < EMPTY || how > FAILED) return OUTSIDE;
        return notes.addSeen(t, how) ? notes.seen : FULL;
    }

    public int went(int v, int what) {
        if (!ground.has(v)) return UNKNOWN;
        if (what < 0 || what > 1) return OUTSIDE;
        int fitting = notes.fitting(ground, now, v);
        return what == 0 ? fitting : dayToLookAt(v, fitting);
    }

    public int write(int t, int v) {
        if (v != NONE && !ground.has(v)) return UNKNOWN;
        if (t < 0 || t > LAST_DAY) return OUTSIDE;
        return notes.addEntry(t, v) ? notes.entries : FULL;
    }

    public int tear() {
        int had = notes.seen + notes.entries;
        notes.clear();
        return had;
    }

    public int judge() {
        return notes.firstWrong(now);
    }

    // ---- draws, images

    public int seed(int v) {
        if (v < 0) return OUTSIDE;
        int before = drawn;
        drawn = v;
        return before;
    }

    public int keep(int i) {
        if (i < 0 || i >= images.length || i >= imageSeeds.length) return UNKNOWN;
        Days image = images[i];
        if (image == null) return UNKNOWN;
        image.copy(now);
        imageSeeds[i] = drawn;
        imagesKept |= 1 << i;
        past.clear();
        return 1;
    }

    public int goBack(int i) {
        if (i < 0 || i >= images.length || i >= imageSeeds.length) return UNKNOWN;
        Days image = images[i];
        if (image == null || (imagesKept >> i & 1) == 0) return NOT;
        now.copy(image);
        drawn = imageSeeds[i];
        past.clear();
        return 1;
    }

    // ---- helpers of the calls

    private int refusalOfDays(int n) {
        if (n < 1 || n > MOST_AT_ONCE) return OUTSIDE;
        if (!ground.hermit || now.down) return NOT;
        return now.days > DAYS_ENOUGH ? FULL : 0;
    }

    private int draw(int n) {
        drawn = (int) ((drawn * 1103515245L + 12345L) & 0x7fffffffL);
        return n < 1 ? 0 : drawn / 65536 % n;
    }

    private void shiftByDraws() {
        if (draw(4) != 0 || ground.villages < 1) return;
        int v = draw(ground.villages);
        if (ground.has(v)) now.offset[v] = draw(ground.period[v]);
    }

    private boolean isPeaceful(int set, int n) {
        trial.goOnFrom(now);
        trial.stays |= set;
        for (int i = 0; i < n && !trial.down; i++) {
            trial.live(ground, ground.inn);
            if (trial.failures > now.failures || trial.sentHome > now.sentHome) return false;
        }
        return true;
    }

    private boolean isLargeEnough(int inn, int n) {
        trial.goOnFrom(now);
        for (int i = 0; i < n && !trial.down; i++) {
            trial.live(ground, inn);
            if (trial.failures > now.failures || trial.sentHome > now.sentHome || trial.empties > now.empties) return false;
        }
        return true;
    }

    private int dayToLookAt(int v, int fitting) {
        for (int t = 0; t < SEEN_DAYS; t++) {
            int outcomes = 0;
            for (int o = 0; o < ground.periodOf(v); o++) {
                if ((fitting >> o & 1) != 0) outcomes |= 1 << now.outcomeWith(ground, v, o, t);
            }
            if (Integer.bitCount(outcomes) > 1) return t;
        }
        return NONE;
    }

    private static int outcomeOf(int comers) {
        int many = Integer.bitCount(comers);
        if (many == 0) return EMPTY;
        return many == 1 ? BLESSED : FAILED;
    }

    private static int firstOf(int set) {
        for (int v = 0; v < MOST_VILLAGES; v++) {
            if ((set >> v & 1) != 0) return v;
        }
        return NONE;
    }

    /** What a text tells; no day changes it. */
    private static final class Rock {
        boolean hermit;
        int patience;
        int year;
        int inn;
        int villages;
        int feasts;
        int fogs;
        final int[] road = new int[MOST_VILLAGES];
        final int[] period = new int[MOST_VILLAGES];
        final int[] firstOffset = new int[MOST_VILLAGES];
        final int[] fever = new int[MOST_VILLAGES];
        final long[] feastDays = new long[LAST_MARKED_DAY / 64 + 1];
        final long[] fogDays = new long[LAST_MARKED_DAY / 64 + 1];

        void clear() {
            hermit = false;
            patience = 0;
            year = 0;
            inn = 0;
            villages = 0;
            feasts = 0;
            fogs = 0;
            Arrays.fill(feastDays, 0L);
            Arrays.fill(fogDays, 0L);
        }

        boolean has(int v) {
            return v >= 0 && v < villages && v < MOST_VILLAGES;
        }

        int all() {
            return (1 << villages) - 1;
        }

        /** Never below 1, so that it may divide. */
        int periodOf(int v) {
            return v < 0 || v >= period.length ? 1 : Math.max(1, period[v]);
        }

        boolean isFog(int t) {
            return isMarked(fogDays, t);
        }

        static boolean isMarked(long[] marks, int t) {
            int cell = t >> 6;
            return cell >= 0 && cell < marks.length && (marks[cell] >>> (t & 63) & 1L) != 0;
        }

        static void mark(long[] marks, int t) {
            int cell = t >> 6;
            if (cell >= 0 && cell < marks.length) marks[cell] |= 1L << (t & 63);
        }

        /** Whether a village with this offset comes, but for its year and its staying away. */
        boolean brings(int v, int o, int t) {
            if (!has(v) || t < road[v]) return false;
            if (t % periodOf(v) != o && !isMarked(feastDays, t)) return false;
            return road[v] == 0 || !isMarked(fogDays, t);
        }

        int feetOf(int set) {
            int sum = 0;
            for (int v = 0; v < villages && v < road.length; v++) {
                if ((set >> v & 1) != 0) sum += 2 * road[v];
            }
            return sum;
        }
    }

    /** Reads a text into a rock, as far as its first fault. */
    private static final class Reader {
        static final int CANNOT_STAND = 1, BAD_NUMBER = 2, TOO_MANY = 3, TOLD_ALREADY = 4;

        private char[] letters = new char[0];
        private int length;
        private int fault;
        private int numberPlace;
        int place;

        /** The number of the fault at 'place'; 0 without one. */
        int read(char[] text, int many, Rock into) {
            letters = text;
            length = Math.min(many, text.length);
            place = 0;
            fault = 0;
            into.clear();
            skipBlanks();
            for (int i = 0; i <= MOST_LETTERS && fault == 0 && place < length; i++) {
                readClause(into);
                skipBlanks();
            }
            return fault;
        }

        private void readClause(Rock into) {
            char word = letterHere();
            if (!isWord(word) || (!into.hermit && word != 'h')) {
                blame(CANNOT_STAND, place);
            } else if (isTooMany(into, word)) {
                blame(TOO_MANY, place);
            } else {
                place++;
                if (word == 'h') readHermit(into);
                else if (word == 'v') readVillage(into);
                else if (word == 'f') into.feasts += readMarkedDay(into.feastDays);
                else into.fogs += readMarkedDay(into.fogDays);
                readEnd();
            }
        }

        private static boolean isWord(char letter) {
            return letter == 'h' || letter == 'v' || letter == 'f' || letter == 'g';
        }

        private static boolean isTooMany(Rock into, char word) {
            if (word == 'h') return into.hermit;
            if (word == 'v') return into.villages >= MOST_VILLAGES;
            return (word == 'f' ? into.feasts : into.fogs) >= MOST_MARKED;
        }

        private void readHermit(Rock into) {
            into.hermit = true;
            into.patience = readNumber(1, 9);
            into.year = readNumber(0, 30);
            into.inn = readNumber(0, MOST_INN);
        }

        private void readVillage(Rock into) {
            int v = into.villages;
            if (v < 0 || v >= MOST_VILLAGES) return;
            into.road[v] = readNumber(0, 9);
            into.period[v] = readNumber(1, 9);
            into.firstOffset[v] = readNumber(0, into.period[v] - 1);
            into.fever[v] = readNumber(0, 100);
            into.villages = v + 1;
        }

        /** How many days more are marked by it. */
        private int readMarkedDay(long[] marks) {
            int t = readNumber(0, LAST_MARKED_DAY);
            if (fault != 0) return 0;
            if (Rock.isMarked(marks, t)) {
                blame(TOLD_ALREADY, numberPlace);
                return 0;
            }
            Rock.mark(marks, t);
            return 1;
        }

        private void readEnd() {
            if (fault != 0) return;
            skipBlanks();
            if (letterHere() == ';') place++;
            else blame(CANNOT_STAND, place);
        }

        private int readNumber(int least, int most) {
            if (fault != 0) return 0;
            skipBlanks();
            numberPlace = place;
            int value = 0;
            for (int i = 0; i < MOST_LETTERS && isFigure(letterHere()); i++) {
                // a longer one is refused by its length, so its value is of no matter
                if (i < 3) value = value * 10 + (letterHere() - '0');
                place++;
            }
            int figures = place - numberPlace;
            if (figures == 0) blame(CANNOT_STAND, place);
            else if (figures > 3 || value < least || value > most) blame(BAD_NUMBER, numberPlace);
            return value;
        }

        private static boolean isFigure(char letter) {
            return letter >= '0' && letter <= '9';
        }

        private void skipBlanks() {
            if (fault != 0) return;
            for (int i = 0; i < MOST_LETTERS && letterHere() == ' '; i++) place++;
        }

        /** Behind the end the letter 0, which can stand nowhere. */
        private char letterHere() {
            return place < 0 || place >= length || place >= letters.length ? (char) 0 : letters[place];
        }

        private void blame(int number, int at) {
            if (fault != 0) return;
            fault = number;
            place = at;
        }
    }

    /** How the days went until now: all that undoing and images bring back. */
    private static final class Days {
        final int[] offset = new int[MOST_VILLAGES];
        final int[] last = new int[MOST_VILLAGES];
        final int[] row = new int[MOST_INN + MOST_VILLAGES];
        final int[] history = new int[LATEST];
        int stays;
        int waiting;
        int days;
        int emptyRun;
        int blessings;
        int failures;
        int empties;
        int walked;
        int sentHome;
        boolean down;

        Days() {
            Arrays.fill(last, NONE);
        }

        void begin(Rock rock) {
            System.arraycopy(rock.firstOffset, 0, offset, 0, MOST_VILLAGES);
            Arrays.fill(last, NONE);
            stays = 0;
            waiting = 0;
            days = 0;
            emptyRun = 0;
            blessings = 0;
            failures = 0;
            empties = 0;
            walked = 0;
            sentHome = 0;
            down = false;
        }

        void copy(Days other) {
            goOnFrom(other);
            System.arraycopy(other.history, 0, history, 0, LATEST);
        }

        /** All but the history, which no coming day needs: trials take this often. */
        void goOnFrom(Days other) {
            System.arraycopy(other.offset, 0, offset, 0, MOST_VILLAGES);
            System.arraycopy(other.last, 0, last, 0, MOST_VILLAGES);
            System.arraycopy(other.row, 0, row, 0, MOST_INN + MOST_VILLAGES);
            stays = other.stays;
            waiting = other.waiting;
            days = other.days;
            emptyRun = other.emptyRun;
            blessings = other.blessings;
            failures = other.failures;
            empties = other.empties;
            walked = other.walked;
            sentHome = other.sentHome;
            down = other.down;
        }

        boolean staysAway(int v) {
            return (stays >> v & 1) != 0;
        }

        int comersByCalendar(Rock rock, int t) {
            int set = 0;
            for (int v = 0; v < rock.villages && v < offset.length; v++) {
                if (!staysAway(v) && rock.brings(v, offset[v], t)) set |= 1 << v;
            }
            return set;
        }

        int comers(Rock rock, int t) {
            int set = comersByCalendar(rock, t);
            for (int v = 0; v < last.length; v++) {
                boolean inYear = last[v] != NONE && t > last[v] && t - last[v] <= rock.year;
                if (inYear) set &= ~(1 << v);
            }
            return set;
        }

        /** What day t would be, if one village went by another offset. */
        int outcomeWith(Rock rock, int v, int o, int t) {
            int set = comersByCalendar(rock, t) & ~(1 << v);
            return outcomeOf(rock.brings(v, o, t) ? set | 1 << v : set);
        }

        void live(Rock rock, int inn) {
            int set = comers(rock, days);
            walked += rock.feetOf(set);
            if (inn > 0) {
                int first = firstThroughInn(set, inn);
                close(first, first == NONE ? EMPTY : BLESSED);
            } else {
                int outcome = outcomeOf(set);
                close(outcome == BLESSED ? firstOf(set) : NONE, outcome);
            }
            down = emptyRun >= rock.patience;
        }

        private int firstThroughInn(int set, int inn) {
            for (int v = 0; v < MOST_VILLAGES; v++) {
                if ((set >> v & 1) == 0 || waiting < 0 || waiting >= row.length) continue;
                row[waiting] = v;
                waiting++;
            }
            if (waiting < 1) return NONE;
            int first = row[0];
            waiting--;
            for (int i = 0; i < waiting && i + 1 < row.length; i++) row[i] = row[i + 1];
            if (waiting > inn) {
                sentHome += waiting - inn;
                waiting = inn;
            }
            return first;
        }

        private void close(int who, int outcome) {
            if (outcome == EMPTY) {
                empties++;
                emptyRun++;
            } else {
                emptyRun = 0;
                if (outcome == FAILED) failures++;
            }
            if (who >= 0 && who < last.length) {
                blessings++;
                last[who] = days;
            }
            int cell = days % LATEST;
            if (cell >= 0 && cell < history.length) history[cell] = who;
            days++;
        }

        boolean isLatest(int t) {
            return t >= 0 && t < days && t >= days - LATEST;
        }

        int blessedOn(int t) {
            int cell = t % LATEST;
            return isLatest(t) && cell >= 0 && cell < history.length ? history[cell] : NONE;
        }
    }

    /** What stood ahead of the latest calls; when it is full, the oldest is written over. */
    private static final class Past {
        private final Days[] kept = new Days[MOST_UNDONE];
        private int next;
        int count;

        Past() {
            for (int i = 0; i < kept.length; i++) kept[i] = new Days();
        }

        void clear() {
            count = 0;
        }

        void push(Days now) {
            Days slot = next < 0 || next >= kept.length ? null : kept[next];
            if (slot == null) return;
            slot.copy(now);
            next = (next + 1) % MOST_UNDONE;
            if (count < MOST_UNDONE) count++;
        }

        void pop(Days now) {
            int latest = (next + MOST_UNDONE - 1) % MOST_UNDONE;
            Days slot = count < 1 || latest < 0 || latest >= kept.length ? null : kept[latest];
            if (slot == null) return;
            now.copy(slot);
            next = latest;
            count--;
        }
    }

    /** What was seen, and the book. */
    private static final class Notes {
        private final int[] seenDay = new int[MOST_SEEN];
        private final int[] seenHow = new int[MOST_SEEN];
        private final int[] entryDay = new int[MOST_ENTRIES];
        private final int[] entryWho = new int[MOST_ENTRIES];
        int seen;
        int entries;

        void clear() {
            seen = 0;
            entries = 0;
        }

        boolean addSeen(int t, int how) {
            if (seen < 0 || seen >= MOST_SEEN) return false;
            seenDay[seen] = t;
            seenHow[seen] = how;
            seen++;
            return true;
        }

        boolean addEntry(int t, int who) {
            if (entries < 0 || entries >= MOST_ENTRIES) return false;
            entryDay[entries] = t;
            entryWho[entries] = who;
            entries++;
            return true;
        }

        /** The offsets of a village by which all that was seen is so. */
        int fitting(Rock rock, Days now, int v) {
            int set = 0;
            for (int o = 0; o < rock.periodOf(v); o++) {
                if (fits(rock, now, v, o)) set |= 1 << o;
            }
            return set;
        }

        private boolean fits(Rock rock, Days now, int v, int o) {
            for (int i = 0; i < seen && i < MOST_SEEN; i++) {
                if (now.outcomeWith(rock, v, o, seenDay[i]) != seenHow[i]) return false;
            }
            return true;
        }

        int firstWrong(Days now) {
            for (int i = 0; i < entries && i < MOST_ENTRIES; i++) {
                int t = entryDay[i];
                if (!now.isLatest(t) || now.blessedOn(t) != entryWho[i]) return i;
            }
            return NONE;
        }
    }

    /** Offsets by which just one of some villages comes on each day. */
    private static final class Cover {
        /** All periods 1 .. 9 divide it. */
        private static final int ROUND = 2520;

        final int[] offset = new int[MOST_VILLAGES];

        boolean find(Rock rock, int set) {
            return comesOften(rock, set) && canPassEachOther(rock, set) && place(rock, set, 0, offset);
        }

        /** Of villages that never meet just one comes each day if and only if as many come in a round as it has days. */
        private static boolean comesOften(Rock rock, int set) {
            int visits = 0;
            for (int v = 0; v < rock.villages && v < MOST_VILLAGES; v++) {
                if ((set >> v & 1) != 0) visits += ROUND / rock.periodOf(v);
            }
            return visits == ROUND;
        }

        /** Two periods without a common divisor meet by any offsets: no search is needed then. */
        private static boolean canPassEachOther(Rock rock, int set) {
            for (int v = 0; v < rock.villages && v < MOST_VILLAGES; v++) {
                for (int u = 0; u < v; u++) {
                    boolean both = (set >> u & 1) != 0 && (set >> v & 1) != 0;
                    if (both && commonDivisor(rock.periodOf(u), rock.periodOf(v)) == 1) return false;
                }
            }
            return true;
        }

        /** Offsets for the villages from v on, by those that stand in 'placed' for the ones before it. */
        private static boolean place(Rock rock, int set, int v, int[] placed) {
            if (v < 0 || v >= rock.villages || v >= placed.length) return true;
            if ((set >> v & 1) == 0) return place(rock, set, v + 1, placed);
            for (int o = 0; o < rock.periodOf(v); o++) {
                if (meetsOneBefore(rock, set, v, o, placed)) continue;
                placed[v] = o;
                if (place(rock, set, v + 1, placed)) return true;
            }
            return false;
        }

        private static boolean meetsOneBefore(Rock rock, int set, int v, int o, int[] placed) {
            for (int u = 0; u < v && u < placed.length; u++) {
                if ((set >> u & 1) == 0) continue;
                int common = commonDivisor(rock.periodOf(u), rock.periodOf(v));
                if ((o - placed[u]) % common == 0) return true;
            }
            return false;
        }

        private static int commonDivisor(int a, int b) {
            for (int d = Math.min(a, b); d > 1; d--) {
                if (a % d == 0 && b % d == 0) return d;
            }
            return 1;
        }
    }

    /** The villages that come with the least feet, day by day. */
    private static final class Plan {
        private static final int TOO_MUCH = 1000000;

        final int[] chosen = new int[MOST_PLANNED];
        private int firstDay;
        private int length;
        private int lastFog;

        /** The least feet, with the villages in 'chosen'; NONE. */
        int make(Rock rock, int from, int n) {
            firstDay = from;
            length = Math.min(n, chosen.length);
            lastFog = NONE;
            for (int k = 0; k < length; k++) {
                if (rock.isFog(from + k)) lastFog = k;
            }
            int spent = 0;
            for (int k = 0; k < length; k++) {
                int v = choose(rock, k);
                if (v < 0 || v >= rock.road.length) return NONE;
                chosen[k] = v;
                spent += 2 * rock.road[v];
            }
            return spent;
        }

        private int choose(Rock rock, int k) {
            if (k < 0 || k >= chosen.length) return NONE;
            int free = freeOn(rock, k);
            int best = NONE;
            int least = TOO_MUCH;
            for (int v = 0; v < rock.villages && v < MOST_VILLAGES; v++) {
                if ((free >> v & 1) == 0) continue;
                chosen[k] = v;
                int cost = 2 * rock.road[v] + leastFrom(rock, k + 1);
                if (cost < least) {
                    least = cost;
                    best = v;
                }
            }
            return best;
        }

        /** The villages that may be chosen for day k, by what was chosen for those before it. */
        private int freeOn(Rock rock, int k) {
            int free = rock.all();
            for (int j = Math.max(0, k - rock.year); j < k && j < chosen.length; j++) free &= ~(1 << chosen[j]);
            boolean fog = rock.isFog(firstDay + k);
            for (int v = 0; v < rock.villages && v < MOST_VILLAGES; v++) {
                if (fog && rock.road[v] > 0) free &= ~(1 << v);
            }
            return free;
        }

        /**
         * The least feet from day k on. Of two free villages that may go on the same days the nearer one can always go
         * first: swap the two from day k on, up to where the nearer one would have gone more often (it goes twice there
         * without the other between, so a year parts both sides). Only whether a road of 0 is saved for a fog is tried.
         */
        private int leastFrom(Rock rock, int k) {
            if (k < 0 || k >= length || k >= chosen.length) return 0;
            int free = freeOn(rock, k);
            int nearest = nearestOf(rock, free, 0);
            int least = leastWith(rock, k, nearest);
            if (nearest == NONE || rock.road[nearest] > 0 || k >= lastFog) return least;
            int other = nearestOf(rock, free, 1);
            if (other == NONE || 2 * rock.road[other] >= least) return least;
            return Math.min(least, leastWith(rock, k, other));
        }

        private int leastWith(Rock rock, int k, int v) {
            if (v < 0 || v >= rock.road.length || k < 0 || k >= chosen.length) return TOO_MUCH;
            chosen[k] = v;
            return Math.min(TOO_MUCH, 2 * rock.road[v] + leastFrom(rock, k + 1));
        }

        private static int nearestOf(Rock rock, int set, int atLeast) {
            int nearest = NONE;
            for (int v = 0; v < rock.villages && v < MOST_VILLAGES; v++) {
                if ((set >> v & 1) == 0 || rock.road[v] < atLeast) continue;
                if (nearest == NONE || rock.road[v] < rock.road[nearest]) nearest = v;
            }
            return nearest;
        }
    }
}
