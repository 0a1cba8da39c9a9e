/** Counts the answers of a test and prints those that are not as due. */
final class Check {
    private int asked;
    private int wrong;

    void due(String call, long got, long want) {
        asked++;
        if (got == want) return;
        wrong++;
        System.out.println(call + " answered " + got + ", due is " + want);
    }

    void holds(String what, boolean so) {
        asked++;
        if (so) return;
        wrong++;
        System.out.println("not so: " + what);
    }

    void end() {
        System.out.println(asked + " asked, " + wrong + " not as due");
        if (wrong != 0 || asked == 0) System.exit(1);
    }

    static void feedAll(OneADay x, String text) {
        for (int i = 0; i < text.length(); i++) x.feed(text.charAt(i));
    }

    static OneADay rockOf(String text) {
        OneADay x = new OneADay();
        feedAll(x, text);
        int answer = x.rock();
        if (answer < 0) throw new IllegalStateException("fault " + answer + " at " + x.fault() + " in " + text);
        return x;
    }
}
