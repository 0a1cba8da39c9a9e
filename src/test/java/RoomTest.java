import java.lang.management.ManagementFactory;

/** All calls of a run live in one room: only the constructor makes objects, and the dearest calls end soon. */
public final class RoomTest {
    private static final com.sun.management.ThreadMXBean THREADS =
        (com.sun.management.ThreadMXBean) ManagementFactory.getThreadMXBean();
    private static final String WORST = "h9 1 9;v0 9 0 50;v0 9 1 50;v0 9 2 50;v0 9 3 50;v6 9 4 50;v7 9 5 50;v8 6 0 50;v9 6 0 50;"
        + "f0;f9;f20;f31;g3;g4;g9;g100;";

    private final Check c = new Check();

    public static void main(String[] args) {
        RoomTest test = new RoomTest();
        test.constructor();
        test.calls();
        test.c.end();
    }

    private static long bytes() {
        return THREADS.getThreadAllocatedBytes(Thread.currentThread().getId());
    }

    /** Some 4 bytes an element: far below the room of a run, several objects in it or one. */
    private void constructor() {
        new OneADay();
        bytes();
        long before = bytes();
        OneADay x = new OneADay();
        long made = bytes() - before;
        c.holds("an object is made of " + made + " bytes", made < 40000 && x.told(3) == 0);
    }

    private void calls() {
        OneADay x = new OneADay();
        use(x, 3);
        OneADay y = new OneADay();
        bytes();
        long before = bytes();
        int sum = use(y, 25);
        long made = bytes() - before;
        // the machine itself may make a little while it compiles
        c.holds("calls made " + made + " bytes, of " + sum, made < 10000);
    }

    private static int use(OneADay x, int rounds) {
        int sum = 0;
        for (int i = 0; i < WORST.length(); i++) x.feed(WORST.charAt(i));
        x.rock();
        for (int i = 0; i < rounds; i++) {
            sum += x.day(5) + x.drift(5) + x.calendar(1, 3) + x.undo() + x.whenDown() + x.ahead(60, 1) + x.away(30);
            sum += x.certain(255, 0) + x.inn(60) + x.feet(10, 9) + x.odds(20) + x.smoke(0, 9) + x.comes(9);
            sum += x.see(9, 1) + x.went(0, 1) + x.write(9, 0) + x.judge() + x.seed(5) + x.keep(0) + x.goBack(0);
        }
        return sum;
    }
}
