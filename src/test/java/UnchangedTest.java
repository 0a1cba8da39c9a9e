import java.lang.reflect.InvocationTargetException;
import java.lang.reflect.Method;
import java.lang.reflect.Modifier;
import java.util.Arrays;
import java.util.List;

/**
 * "What is refused changes nothing", "TRIED; nothing changes by it": of two objects with the same calls behind them
 * one gets a call more; whatever is asked and done then, both must answer alike. And no call throws, whatever it is given.
 */
public final class UnchangedTest {
    private static final String ROCK = "rock h3 1 0;v0 2 0 10;v1 4 1 0;v2 4 3 50;v3 3 0 100;f9;g5;g7; = 4\n";
    private static final String INN = "rock h3 2 2;v0 2 0 10;v0 2 0 0;v2 4 3 50;v0 3 0 100;f9;g5;g7; = 4\n";
    private static final String LIVED = """
        seed(5)
        calendar(3, NONE)
        day(3)
        keep(0)
        calendar(1, 2)
        drift(4)
        see(3, 2)
        write(0, 0)
        write(1, 1)
        text h1 0 0;x
        """;
    private static final String NEW = "";
    private static final String LETTERS_FULL = ROCK + "day(2) \n 240 x feed(120)";
    private static final String NOTES_FULL = ROCK + "day(2) \n 10 x see(3, 2) \n 15 x write(0, 0)";
    private static final String DOWN = "rock h1 0 0;v0 3 0 0;v1 3 0 0; \n day(1) \n keep(1) \n calendar(1, 2) \n day(1) \n seed(9)";
    private static final String DAYS_FULL = "rock h9 0 0;v0 1 0 0;v1 9 3 0; \n calendar(1, NONE) \n 91 x day(99) \n seed(4)";
    private static final String DAYS_FULL_DOWN = "rock h1 0 0;v0 1 0 0; \n 90 x day(99) \n day(90) \n calendar(0, NONE) \n day(1)";

    private static final String ASKED = """
        fault()
        told(0..18)
        village(0..4, 2)
        village(0..4, 4)
        village(0..4, 5)
        comes(0..20)
        blessed(0..9)
        judge()
        went(0, 0..1)
        went(2, 0..1)
        whenDown()
        ahead(30, 0..1)
        away(9)
        inn(4)
        feet(5, -1..4)
        odds(3)
        seed(3)
        day(2)
        drift(3)
        see(8, 1)
        write(2, 0)
        told(7..18)
        undo()
        undo()
        told(7..18)
        village(0..3, 2)
        undo()
        undo()
        told(7..18)
        village(0..3, 2)
        goBack(0)
        told(7..18)
        village(0..3, 2)
        seed(1)
        goBack(1)
        told(7..18)
        village(0..3, 4)
        tear()
        feed(104)
        rock()
        fault()
        told(0..18)
        """;

    private static final int[] ODD = {Integer.MIN_VALUE, Integer.MIN_VALUE + 1, -1000000001, -256, -2, -1, 0, 1, 2, 3, 7, 8, 9,
        10, 15, 30, 31, 32, 33, 59, 60, 61, 63, 64, 99, 100, 255, 256, 999, 1000, 9000, 9999, 10000, 65536,
        Integer.MAX_VALUE - 1, Integer.MAX_VALUE};

    private final Check check = new Check();

    public static void main(String[] args) {
        UnchangedTest test = new UnchangedTest();
        test.refused();
        test.tried();
        test.asked();
        for (String state : List.of(NEW, ROCK, ROCK + LIVED, INN + LIVED, LETTERS_FULL, NOTES_FULL, DOWN, DAYS_FULL)) test.odd(state);
        test.check.end();
    }

    private void refused() {
        for (String state : List.of(NEW, ROCK, ROCK + LIVED, INN + LIVED, DOWN)) {
            unchanged(state, "UNKNOWN", "village(-1, 0) village(8, 0) calendar(8, 0) calendar(-1, NONE) calendar(DEEP, 99) certain(-1, 0)"
                + " certain(256, 0) certain(1, 8) certain(0, -1) smoke(8, 0) smoke(-1, -1) went(-1, 0) went(8, 9) write(0, 8)"
                + " write(-1, -2) keep(-1) keep(2) keep(FAR) goBack(-1) goBack(2) goBack(DEEP)");
            unchanged(state, "OUTSIDE", "feed(-1) feed(256) feed(DEEP) told(-1) told(19) comes(-1) comes(10000) day(0) day(-1) day(100)"
                + " day(FAR) drift(0) drift(-1) drift(100) drift(DEEP) ahead(-1, 0) ahead(61, 1) ahead(1, 2) ahead(1, -1) away(0)"
                + " away(31) inn(0) inn(61) feet(0, 0) feet(11, 0) odds(-1) odds(1000) see(-1, 0) see(100, 0) see(0, -1) see(0, 3)"
                + " write(-1, NONE) write(10000, NONE) seed(-1) seed(DEEP)");
        }
        for (String state : List.of(ROCK, ROCK + LIVED, INN + LIVED, DOWN)) {
            unchanged(state, "OUTSIDE", "village(0, -1) village(0, 6) calendar(0, -2) calendar(0, 9) calendar(1, FAR) smoke(0, -1)"
                + " smoke(0, 1000) went(0, -1) went(0, 2) write(-1, 0) write(10000, 1)");
        }
        unchanged(NEW, "NOT", "day(1) day(99) drift(1) drift(99) undo() whenDown() ahead(0, 0) ahead(60, 1) away(1) away(30) inn(1)"
            + " inn(60) feet(1, NONE) feet(10, 9) goBack(0) goBack(1)");
        unchanged(ROCK, "NOT", "undo() goBack(0) goBack(1)");
        unchanged(ROCK + LIVED, "NOT", "goBack(1)");
        unchanged(ROCK + LIVED + "undo() \n undo() \n", "NOT", "undo() goBack(1)");
        unchanged(DOWN, "NOT", "day(1) day(99) drift(1) drift(99) whenDown() goBack(0)");
        unchanged(DAYS_FULL_DOWN, "NOT", "day(1) day(99) drift(1) drift(99) whenDown()");
        unchanged(LETTERS_FULL, "FULL", "feed(0) feed(32) feed(104) feed(255)");
        unchanged(LETTERS_FULL, "OUTSIDE", "feed(-1) feed(256)");
        unchanged(NOTES_FULL, "FULL", "see(0, 0) see(99, 2) write(0, NONE) write(9999, 3)");
        unchanged(NOTES_FULL, "OUTSIDE", "see(100, 0) see(0, 3) write(10000, NONE) write(-1, 0)");
        unchanged(NOTES_FULL, "UNKNOWN", "write(0, 4) write(10000, -2)");
        unchanged(DAYS_FULL, "FULL", "day(1) day(99) drift(1) drift(99)");
        unchanged(DAYS_FULL, "OUTSIDE", "day(0) day(100) drift(0) drift(100)");
    }

    private void tried() {
        for (String state : List.of(ROCK, ROCK + LIVED, INN + LIVED, DOWN)) {
            unchanged(state, null, "whenDown() ahead(0, 0) ahead(60, 0) ahead(60, 1) certain(3, 0) certain(3, 1) certain(0, 0) away(1)"
                + " away(30) smoke(0, 0) smoke(1, 999) inn(1) inn(60) feet(1, NONE) feet(10, 9) feet(3, 3) odds(0) odds(999)"
                + " went(0, 0) went(1, 1)");
        }
    }

    private void asked() {
        for (String state : List.of(NEW, ROCK + LIVED, INN + LIVED, DOWN)) {
            unchanged(state, null, "fault() told(0) told(18) village(0, 0) village(0, 5) comes(0) comes(9999) blessed(0) blessed(-1)"
                + " blessed(FAR) judge()");
        }
    }

    /** Each of the calls alone, behind the state's calls; the answer due may be none. */
    private void unchanged(String state, String due, String calls) {
        OneADay plain = new OneADay();
        Runs.answers(plain, state);
        List<Integer> want = Runs.answers(plain, ASKED);
        for (String call : calls.split("(?<=\\)) ")) {
            OneADay x = new OneADay();
            Runs.answers(x, state);
            int got = Runs.answers(x, call).get(0);
            if (due != null) check.due(call + " behind " + state, got, Runs.number(due));
            check.holds(call + " changes nothing, behind " + state, Runs.answers(x, ASKED).equals(want));
        }
    }

    /** Every call with numbers that nobody would give; an answer is never below the refusals. */
    private void odd(String state) {
        for (Method call : OneADay.class.getDeclaredMethods()) {
            if (Modifier.isPrivate(call.getModifiers())) continue;
            int args = call.getParameterCount();
            OneADay x = new OneADay();
            Runs.answers(x, state);
            for (int a : args > 0 ? ODD : new int[1]) {
                for (int b : args > 1 ? ODD : new int[1]) {
                    Object[] given = args == 0 ? new Object[0] : args == 1 ? new Object[] {a} : new Object[] {a, b};
                    answersOdd(x, call, given);
                }
            }
        }
    }

    private void answersOdd(OneADay x, Method call, Object[] given) {
        try {
            int got = (Integer) call.invoke(x, given);
            boolean refusal = got >= OneADay.FULL && got <= OneADay.UNKNOWN;
            check.holds(call.getName() + " answers a refusal or what is counted: " + got, refusal || got >= -14);
        } catch (InvocationTargetException | IllegalAccessException e) {
            check.holds(call.getName() + Arrays.toString(given) + " threw " + e.getCause(), false);
        }
    }
}
