/** What the tests by hand have in common: telling a HOUSE, and holding an answer against the one that is due. */
abstract class Asking {
    static final int NO = -1000000;
    /** What is no COALITION of three PARTIES. */
    static final int[] NO_COALITIONS = {0, 8, 9, 16, 128, 1 << 30, -1, -8, Integer.MAX_VALUE, Integer.MIN_VALUE};
    private static int wrong = 0;
    private static int asked = 0;
    private static String about = "";

    /** What the answers that follow are about; it is told with a wrong one. */
    static void about(String what) {
        about = what + ": ";
    }

    static void due(String call, int got, int want) {
        asked++;
        if (got == want) return;
        wrong++;
        System.out.println(about + call + " answered " + got + ", due is " + want);
    }

    static void end() {
        System.out.println(wrong == 0 ? asked + " answers are as due" : wrong + " answers are not as due");
        if (wrong != 0) System.exit(1);
    }

    static void tell(TurnCabinet x, String text) {
        for (int at = 0; at < text.length(); at += 20) {
            int[] n = new int[5];
            for (int i = 0; i < 20; i++) {
                int b = at + i < text.length() ? text.charAt(at + i) : 0;
                n[i / 4] = n[i / 4] << 8 | b & 255;
            }
            x.feed(n[0], n[1], n[2], n[3], n[4]);
        }
        x.end(text.length());
    }

    /** OFFICES a, b, .. */
    static String offices(int n) {
        StringBuilder text = new StringBuilder();
        for (int i = 0; i < n; i++) text.append("office ").append((char) ('a' + i)).append(';');
        return text.toString();
    }

    static TurnCabinet of(String text) {
        TurnCabinet x = new TurnCabinet();
        tell(x, text);
        if (x.house() < 0) due("house() of " + text + ": place " + x.fault(1) + ", fault", x.fault(0), 0);
        return x;
    }

    /** A new object says of a text that it has this FAULT (0: none) there. */
    static void fault(String text, int what, int place) {
        TurnCabinet x = new TurnCabinet();
        tell(x, text);
        due("house() of [" + text + "]", x.house() < 0 ? 1 : 0, what == 0 ? 0 : 1);
        due("fault(0) of [" + text + "]", x.fault(0), what);
        due("fault(1) of [" + text + "]", x.fault(1), place);
    }
}
