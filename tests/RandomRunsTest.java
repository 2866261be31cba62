import java.util.ArrayList;
import java.util.Collections;
import java.util.List;
import java.util.Random;

/** Runs of drawn calls (the same ones each time), each answer held against Naive's. */
public final class RandomRunsTest {
    private static final int[] WILD = {-1, -2, 7, 8, 9, 31, 32, 127, 128, 255, 256, 1000, 65536, Integer.MAX_VALUE,
        Integer.MIN_VALUE, -1000000};
    private static final String[] PIECES = {";", " ", "\n", "need", "seats", "at", "walk", "bar", "office", "party", "0",
        "7", "99", "100", "999", "1000", "a", "x", "#", "A", "`", "{", "/", ":", "\0", "\u00ff", "\t", "abcdefg", "abcdefgh",
        "abcdefghi", "12a"};

    private final Random random;
    private final StringBuilder log = new StringBuilder();
    private TurnCabinet x = new TurnCabinet();
    private Naive y = new Naive();
    private int calls = 0;
    private static int wrong = 0;
    private static long total = 0;

    RandomRunsTest(long seed) {
        random = new Random(seed);
    }

    public static void main(String[] args) {
        int runs = args.length > 0 ? Integer.parseInt(args[0]) : 700;
        int from = args.length > 1 ? Integer.parseInt(args[1]) : 0;
        for (int run = from; run < from + runs && wrong == 0; run++) new RandomRunsTest(run).run(run);
        System.out.println(wrong == 0 ? total + " answers are as due" : wrong + " answers are not as due");
        if (wrong != 0) System.exit(1);
    }

    private void due(String call, int got, int want) {
        calls++;
        total++;
        log.append(call).append(" = ").append(got).append('\n');
        if (got == want) return;
        wrong++;
        System.out.println(log + "due was " + want);
    }

    private int below(int n) {
        return random.nextInt(n);
    }

    private boolean chance(int percent) {
        return below(100) < percent;
    }

    private int wild(int usual) {
        return chance(4) ? WILD[below(WILD.length)] : usual;
    }

    private int party() {
        return wild(below(Math.max(1, y.n())));
    }

    private int office() {
        return wild(below(Math.max(1, y.o())));
    }

    private int coalition() {
        return wild(1 + below(Math.max(1, (1 << y.n()) - 1)));
    }

    private int way() {
        return wild(below(3));
    }

    private void run(int run) {
        // Few of the runs have all that a HOUSE can have: they take Naive long.
        boolean large = run % 20 == 0;
        y.large = large;
        while (calls < 450) {
            tell(large);
            int many = large ? 150 : 20 + below(60);
            for (int i = 0; i < many && calls < 500; i++) {
                ask(below(46));
                if (wrong > 0) return;
            }
        }
    }

    private void tell(boolean large) {
        String text = large ? fullText() : text();
        if (!large && chance(35)) text = spoilt(text);
        if (text.length() > 900) text = text.substring(0, 900);
        feed(text);
        int before = calls;
        due("house()", x.house(), y.house());
        due("fault(0)", x.fault(0), y.fault(0));
        due("fault(1)", x.fault(1), y.fault(1));
        log.append("  by ").append(text).append('\n');
        if (calls == before) throw new IllegalStateException();
    }

    private void feed(String text) {
        due("end(0)", x.end(0), y.end(0));
        for (int at = 0; at < text.length(); at += 20) {
            int[] n = new int[5];
            for (int i = 0; i < 20; i++) {
                int b = at + i < text.length() ? text.charAt(at + i) : 0;
                n[i / 4] = n[i / 4] << 8 | b & 255;
            }
            due("feed", x.feed(n[0], n[1], n[2], n[3], n[4]), y.feed(n[0], n[1], n[2], n[3], n[4]));
        }
        due("end(" + text.length() + ")", x.end(text.length()), y.end(text.length()));
    }

    private String text() {
        int parties = below(10) == 0 ? below(8) : 2 + below(4);
        int offices = below(12) == 0 ? below(7) : 2 + below(4);
        int mostWorth = chance(50) ? 5 : 99;
        int mostSeats = chance(30) ? 4 : chance(80) ? 60 : 999;
        StringBuilder t = new StringBuilder();
        if (chance(50)) t.append("divisors ").append(1 + below(30)).append(' ').append(1 + below(30)).append(';');
        if (chance(20)) t.append("need").append(1 + below(chance(80) ? parties * mostSeats / 2 + 1 : 999) % 999).append(";");
        if (chance(50)) t.append("care ").append(below(10)).append(";\n");
        if (chance(60)) t.append("tries ").append(1 + below(9)).append(" ; ");
        if (chance(60)) t.append("tire ").append(below(100)).append(";");
        for (int o = 0; o < offices; o++) t.append("office o").append((char) ('a' + o)).append(";");
        for (int p = 0; p < parties; p++) {
            t.append("party p").append((char) ('a' + p)).append(" seats ").append(1 + below(mostSeats));
            t.append(" at").append(below(chance(50) ? 100 : 6));
            if (chance(60)) t.append(" walk ").append(below(chance(70) ? 10 * mostWorth : 1000) % 1000);
            t.append(";");
        }
        for (int p = 0; p < parties; p++) {
            for (int o = 0; o < offices; o++) {
                String names = " p" + (char) ('a' + p) + " o" + (char) ('a' + o) + " ";
                if (chance(85)) t.append("worth").append(names).append(below(mostWorth + 1)).append(';');
                if (chance(60)) t.append("stance").append(names).append(below(10)).append(';');
            }
        }
        for (int i = below(4); i > 0 && parties > 1; i--) {
            int p = below(parties);
            int q = (p + 1 + below(parties - 1)) % parties;
            if (chance(40)) t.append("bar p").append((char) ('a' + p)).append(" p").append((char) ('a' + q)).append(";");
        }
        return t.length() > 900 ? t.substring(0, t.lastIndexOf(";", 899) + 1) : t.toString();
    }

    /** As many PARTIES and OFFICES as can be, or one less, with short NAMES: most worths find room then. */
    private String fullText() {
        int parties = 6 + below(2);
        int offices = 7 + below(2);
        int mostWorth = new int[] {1, 3, 9, 99}[below(4)];
        int mostSeats = new int[] {1, 4, 60, 999}[below(4)];
        int walk = chance(30) ? 999 : 10 * mostWorth;
        StringBuilder t = new StringBuilder();
        if (chance(50)) t.append("divisors ").append(1 + below(99)).append(' ').append(1 + below(99)).append(';');
        if (chance(20)) t.append("need").append(1 + below(Math.min(999, parties * mostSeats))).append(';');
        if (chance(50)) t.append("care").append(below(10)).append(';');
        if (chance(70)) t.append("tries").append(1 + below(9)).append(';');
        if (chance(50)) t.append("tire").append(below(100)).append(';');
        for (int o = 0; o < offices; o++) t.append("office ").append((char) ('a' + o)).append(';');
        for (int p = 0; p < parties; p++) {
            t.append("party ").append((char) ('q' + p)).append(" seats").append(1 + below(mostSeats)).append(" at").append(below(100));
            if (chance(40)) t.append(" walk").append(walk);
            t.append(';');
        }
        if (chance(50)) t.append("bar q ").append((char) ('r' + below(parties - 1))).append(';');
        List<String> lines = new ArrayList<>();
        boolean stances = chance(50);
        for (int p = 0; p < parties; p++) {
            for (int o = 0; o < offices; o++) {
                String names = " " + (char) ('q' + p) + " " + (char) ('a' + o);
                lines.add("worth" + names + (chance(30) ? mostWorth : below(mostWorth + 1)) + ";");
                if (stances) lines.add("stance" + names + below(10) + ";");
            }
        }
        Collections.shuffle(lines, random);
        for (String line : lines) if (t.length() + line.length() <= 900) t.append(line);
        return t.toString();
    }

    private String spoilt(String text) {
        StringBuilder t = new StringBuilder(text);
        for (int i = 1 + below(2); i > 0 && t.length() > 1; i--) {
            int at = below(t.length());
            switch (below(5)) {
                case 0: t.deleteCharAt(at); break;
                case 1: t.insert(at, PIECES[below(PIECES.length)]); break;
                case 2: t.setLength(at); break;
                case 3: t.append(t.substring(at, Math.min(t.length(), at + 20))); break;
                default: t.replace(at, Math.min(t.length(), at + 2), PIECES[below(PIECES.length)]);
            }
        }
        return t.toString();
    }

    private void ask(int call) {
        int c = coalition();
        int d = coalition();
        int p = party();
        int o = office();
        int q = office();
        int way = way();
        switch (call) {
            case 0: { int what = wild(below(5)); due("party(" + p + ", " + what + ")", x.party(p, what), y.party(p, what)); break; }
            case 1: due("worth(" + p + ", " + o + ")", x.worth(p, o), y.worth(p, o)); break;
            case 2: { int what = wild(below(11)); due("about(" + what + ")", x.about(what), y.about(what)); break; }
            case 3: due("turn(" + c + ", " + o + ")", x.turn(c, o), y.turn(c, o)); break;
            case 4: {
                int first = chance(5) ? below(2) * 100 : 1 + below(99);
                int step = chance(5) ? below(2) * 100 : 1 + below(99);
                due("turnBy(" + c + ", " + first + ", " + step + ", " + o + ")", x.turnBy(c, first, step, o), y.turnBy(c, first, step, o));
                break;
            }
            case 5: due("gets(" + c + ", " + way + ", " + o + ")", x.gets(c, way, o), y.gets(c, way, o)); break;
            case 6: due("has(" + c + ", " + way + ", " + p + ")", x.has(c, way, p), y.has(c, way, p)); break;
            case 7: due("swaps(" + c + ")", x.swaps(c), y.swaps(c)); break;
            case 8: due("instead(" + c + ", " + o + ", " + q + ")", x.instead(c, o, q), y.instead(c, o, q)); break;
            case 9: due("middle(" + c + ")", x.middle(c), y.middle(c)); break;
            case 10: due("pay(" + c + ", " + p + ")", x.pay(c, p), y.pay(c, p)); break;
            case 11: due("policy(" + c + ", " + way + ", " + o + ")", x.policy(c, way, o), y.policy(c, way, o)); break;
            case 12: due("grief(" + c + ", " + way + ", " + p + ")", x.grief(c, way, p), y.grief(c, way, p)); break;
            case 13: due("envy(" + c + ", " + way + ")", x.envy(c, way), y.envy(c, way)); break;
            case 14: { int what = wild(below(2)); due("kept(" + c + ", " + what + ")", x.kept(c, what), y.kept(c, what)); break; }
            case 15: due("enough(" + c + ", " + p + ")", x.enough(c, p), y.enough(c, p)); break;
            case 16: due("span(" + c + ")", x.span(c), y.span(c)); break;
            case 17: due("median()", x.median(), y.median()); break;
            case 18: due("hold(" + c + ", " + way + ")", x.hold(c, way), y.hold(c, way)); break;
            case 19: { int what = chance(30) ? -1 : o; due("now(" + what + ")", x.now(what), y.now(what)); break; }
            case 20: due("leave(" + p + ")", x.leave(p), y.leave(p)); break;
            case 21: due("payNow(" + p + ")", x.payNow(p), y.payNow(p)); break;
            case 22: due("trade(" + o + ", " + q + ")", x.trade(o, q), y.trade(o, q)); break;
            case 23: { int n = chance(10) ? below(2) * 1000 : 1 + below(chance(70) ? 60 : 999); due("seats(" + p + ", " + n + ")", x.seats(p, n), y.seats(p, n)); break; }
            case 24: due("above()", x.above(), y.above()); break;
            case 25: due("undo()", x.undo(), y.undo()); break;
            case 26: due("crisis()", x.crisis(), y.crisis()); break;
            case 27: due("beats(" + c + ", " + d + ")", x.beats(c, d), y.beats(c, d)); break;
            case 28: { int k = chance(30) ? -1 : wild(below(6)); due("unbeaten(" + k + ")", x.unbeaten(k), y.unbeaten(k)); break; }
            case 29: due("needed(" + p + ")", x.needed(p), y.needed(p)); break;
            case 30: due("pivot(" + p + ")", x.pivot(p), y.pivot(p)); break;
            case 31: due("joins(" + c + ")", x.joins(c), y.joins(c)); break;
            case 32: due("dream(" + p + ")", x.dream(p), y.dream(p)); break;
            case 33: { int what = wild(below(2)); due("drift(" + c + ", " + what + ")", x.drift(c, what), y.drift(c, what)); break; }
            case 34: { int what = wild(below(4)); due("formed(" + what + ")", x.formed(what), y.formed(what)); break; }
            case 35: { int i = wild(below(chance(60) ? 6 : 80)); int what = wild(below(3)); due("tried(" + i + ", " + what + ")", x.tried(i, what), y.tried(i, what)); break; }
            case 36: due("kind(" + c + ")", x.kind(c), y.kind(c)); break;
            case 37: { int kinds = wild(below(32)); due("many(" + kinds + ")", x.many(kinds), y.many(kinds)); break; }
            case 38: { int kinds = wild(below(32)); int k = wild(below(8)); due("nth(" + kinds + ", " + k + ")", x.nth(kinds, k), y.nth(kinds, k)); break; }
            case 39: due("rival(" + c + ")", x.rival(c), y.rival(c)); break;
            case 40:
            case 41: judge(c); break;
            case 42: { int n = wild(below(40)); due("end(" + n + ")", x.end(n), y.end(n)); break; }
            case 43: { int n = random.nextInt(); due("feed(" + n + ")", x.feed(n, 0, ~n, 1, -1), y.feed(n, 0, ~n, 1, -1)); break; }
            case 44: due("crisis()", x.crisis(), y.crisis()); break;
            default: due("undo()", x.undo(), y.undo());
        }
    }

    private void judge(int c) {
        StringBuilder told = new StringBuilder();
        int many = chance(90) ? y.o() : below(9);
        for (int i = 0; i < many; i++) {
            int p = below(Math.max(1, y.n()));
            for (int n = 0; n < 40 && (c & 1 << p) == 0; n++) p = below(Math.max(1, y.n()));
            told.append((char) (chance(2) ? below(256) : p));
        }
        feed(told.toString());
        int what = wild(below(4));
        due("judge(" + c + ", " + what + ")", x.judge(c, what), y.judge(c, what));
        due("about(8)", x.about(8), y.about(8));
    }
}
