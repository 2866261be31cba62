import java.util.stream.IntStream;

/** The boundary cases that the document names: term 2 (TURNS, PICKS, COALITIONS, FORMING) and promises 9 to 36. */
public final class CoalitionEdgesTest extends Sentences {
    // By TURNS p, r, t, q, p FORESEEN are a: p, b: q, c: r, d: t, e: p. First b, e are exchanged (p, q), then d, e (t, q);
    // were d, e exchanged first (p, t), none would be left.
    private static final String FIVE = offices(5) + "party p seats 6 at 0;party q seats 4 at 0;party r seats 6 at 0;"
        + "party t seats 5 at 0;worth p a 5;worth p b 4;worth p c 2;worth p d 5;worth p e 3;worth q a 2;worth q b 3;"
        + "worth q c 2;worth q d 8;worth q e 5;worth r a 4;worth r b 4;worth r c 5;worth r d 1;worth r e 9;worth t d 3;"
        + "worth t e 6;";
    // Whatever p picks first (a, b or c), it has 4 at last: q picks a or b then, p has c or a or b as its last one.
    private static final String LIKE = offices(3) + "party p seats 3 at 0;party q seats 2 at 0;worth p a 3;worth p b 3;"
        + "worth p c 1;worth q a 9;worth q b 9;";
    private static final String THREE = offices(3) + "party p seats 2 at 1;party q seats 2 at 5;party r seats 2 at 9;";
    private static final int[] NO_INDEX = {-1, -2, 3, 4, 7, 8, 32, 35, 64, 1 << 30, Integer.MAX_VALUE, Integer.MIN_VALUE};

    public static void main(String[] args) {
        noCoalitions();
        noneOfArguments();
        largestCoalition();
        countsOfTurns();
        fractions();
        likeTurns();
        extremeTurns();
        picksOfLikeWorth();
        picksOfGreatWorth();
        swapsInOrder();
        swapsThatHelpBoth();
        middles();
        pays();
        majorities();
        freeOnes();
        minimalOnes();
        connectedOnes();
        rivalsOfLikePay();
        holding();
        drifts();
        beatingBySeats();
        sharesKept();
        envies();
        policies();
        otherTurns();
        otherOffices();
        kindsAsked();
        enoughSeats();
        spansAndMedian();
        neededOnes();
        joins();
        dreams();
        rounds();
        formers();
        tries();
        likeChoices();
        walkOuts();
        triesAsked();
        endOf(9, 36);
    }

    /** PARTIES p, q, .. with these SEATS, all at one PLACE. */
    private static String seats(int... seats) {
        StringBuilder text = new StringBuilder();
        for (int i = 0; i < seats.length; i++) {
            text.append("party ").append((char) ('p' + i)).append(" seats ").append(seats[i]).append(" at 0;");
        }
        return text.toString();
    }

    /** What the OFFICES a, b, .. are worth to p, to q, .. */
    private static String worths(int[][] worths) {
        StringBuilder text = new StringBuilder();
        for (int p = 0; p < worths.length; p++) {
            for (int o = 0; o < worths[p].length; o++) {
                text.append("worth ").append((char) ('p' + p)).append(' ').append((char) ('a' + o)).append(' ');
                text.append(worths[p][o]).append(';');
            }
        }
        return text.toString();
    }

    private static void row(String call, IntStream got, int... want) {
        int[] answers = got.toArray();
        for (int i = 0; i < want.length; i++) due(call + " " + i, answers[i], want[i]);
    }

    // ---- what is refused

    private static void noCoalitions() {
        face("---- turns, picks, pay (NONE: a COALITION that can't be one: none in it, a PARTY that there is not).");
        TurnCabinet x = of(THREE);
        for (int c : NO_COALITIONS) {
            String of = " of " + c;
            due("turn()" + of, x.turn(c, 0), -1);
            due("turnBy()" + of, x.turnBy(c, 1, 1, 0), -1);
            due("gets()" + of, x.gets(c, 0, 0), -1);
            due("has()" + of, x.has(c, 0, 0), -1);
            due("swaps()" + of, x.swaps(c), -1);
            due("instead()" + of, x.instead(c, 0, 0), -1);
            due("middle()" + of, x.middle(c), -1);
            due("policy()" + of, x.policy(c, 0, 0), -1);
            due("grief()" + of, x.grief(c, 0, 0), -1);
            due("envy()" + of, x.envy(c, 0), -1);
            due("kept()" + of, x.kept(c, 0), -1);
            due("kind()" + of, x.kind(c), -1);
            due("rival()" + of, x.rival(c), -1);
            due("span()" + of, x.span(c), -1);
            due("drift()" + of, x.drift(c, 0), -1);
        }
        TurnCabinet y = of(THREE);
        for (int c : NO_COALITIONS) {
            String of = " of " + c;
            promise(16, "-1000000 if one can't be");
            due("pay()" + of, y.pay(c, 0), NO);
            promise(25, "NONE if one can't be");
            due("beats() one" + of, y.beats(c, 3), -1);
            due("beats() other" + of, y.beats(3, c), -1);
            due("beats() both" + of, y.beats(c, c), -1);
            promise(27, "NONE, too, if with none, or the PARTY is not in it");
            due("enough()" + of, y.enough(c, 0), -1);
            promise(32, "NONE, too, if there are none such");
            due("joins()" + of, y.joins(c), -1);
        }
    }

    private static void noneOfArguments() {
        TurnCabinet x = of(THREE);
        for (int n : NO_INDEX) {
            String of = " of " + n;
            promise(9, "NONE, too, if there is none such");
            due("turn()" + of, x.turn(7, n), -1);
            promise(10, "NONE, too, if one can't be");
            due("turnBy()" + of, x.turnBy(7, 1, 1, n), -1);
            promise(11, "NONE, too, if one can't be");
            due("gets() way" + of, x.gets(7, n, 0), -1);
            due("gets() OFFICE" + of, x.gets(7, 0, n), -1);
            promise(12, "NONE, too, if one can't be");
            due("has() way" + of, x.has(7, n, 0), -1);
            due("has() PARTY" + of, x.has(7, 0, n), -1);
            promise(14, "NONE, too, if there is no such TURN, the OFFICE is not left then");
            due("instead() TURN" + of, x.instead(7, n, 0), -1);
            due("instead() OFFICE" + of, x.instead(7, 0, n), -1);
            promise(16, "-1000000 if one can't be");
            due("pay() PARTY" + of, x.pay(7, n), NO);
            promise(17, "NONE, too, if one can't be");
            due("policy() way" + of, x.policy(7, n, 0), -1);
            due("policy() OFFICE" + of, x.policy(7, 0, n), -1);
            promise(18, "NONE, too, if one can't be");
            due("grief() way" + of, x.grief(7, n, 0), -1);
            due("grief() PARTY" + of, x.grief(7, 0, n), -1);
            promise(19, "NONE, too, if one can't be");
            due("envy() way" + of, x.envy(7, n), -1);
        }
        TurnCabinet y = of(THREE);
        for (int n : NO_INDEX) {
            String of = " of " + n;
            promise(20, "NONE, too, for another what");
            due("kept()" + of, y.kept(7, n), -1);
            promise(27, "NONE, too, if with none, or the PARTY is not in it");
            due("enough()" + of, y.enough(7, n), -1);
            promise(30, "NONE if there is none such");
            due("needed()" + of, y.needed(n), -1);
            promise(31, "NONE likewise");
            due("pivot()" + of, y.pivot(n), -1);
            promise(33, "NONE if there is no such PARTY");
            due("dream()" + of, y.dream(n), -1);
            promise(34, "NONE, too, for another what");
            due("drift()" + of, y.drift(7, n), -1);
            promise(35, "NONE for another what, without PARTIES");
            if (n != 3) due("formed()" + of, y.formed(n), -1);
            promise(36, "NONE if there is none such, or for another what");
            due("tried() TRY" + of, y.tried(n, 0), -1);
            due("tried() what" + of, y.tried(0, n), -1);
        }
        due("kept(7, 2)", y.kept(7, 2), -1);
        due("drift(7, 2)", y.drift(7, 2), -1);
    }

    private static void largestCoalition() {
        face("none in it, a PARTY that there is not");
        TurnCabinet x = of(offices(1) + seats(1, 1, 1, 1, 1, 1, 1));
        due("turn() of all seven", x.turn(127, 0), 0);
        due("turn() of the seventh", x.turn(64, 0), 6);
        due("turn() of eight", x.turn(128, 0), -1);
        due("turn() of the eighth, too", x.turn(129, 0), -1);
        due("middle() of all seven", x.middle(127), 0);
        TurnCabinet y = of(offices(1) + seats(1));
        due("turn() of the only one", y.turn(1, 0), 0);
        due("turn() of one that there is not", y.turn(2, 0), -1);
        due("turn() of it, too", y.turn(3, 0), -1);
    }

    // ---- TURNS and PICKS

    private static void countsOfTurns() {
        term(2, "TURNS of a COALITION, as many as there are OFFICES");
        for (int n = 0; n <= 8; n++) {
            TurnCabinet x = of(offices(n) + seats(1));
            if (n > 0) due("the last of " + n, x.turn(1, n - 1), 0);
            due("one more than " + n, x.turn(1, n), -1);
            due("one more than " + n + " by others", x.turnBy(1, 1, 1, n), -1);
        }
        TurnCabinet none = of(seats(5, 4));
        due("middle() without OFFICES", none.middle(3), 0);
        due("swaps() without OFFICES", none.swaps(3), 0);
        due("has() without OFFICES", none.has(3, 1, 0), 0);
        due("grief() without OFFICES", none.grief(3, 1, 0), 0);
        due("envy() without OFFICES", none.envy(3, 1), 0);
        due("kept(3, 0) without OFFICES", none.kept(3, 0), 0);
        due("gets() without OFFICES", none.gets(3, 1, 0), -1);
        due("instead() without OFFICES", none.instead(3, 0, 0), -1);
        due("policy() without OFFICES", none.policy(3, 1, 0), -1);
    }

    private static void fractions() {
        term(2, "the greatest SEATS by its DIVISOR (as fractions)");
        // 5 / 2 and 7 / 2, then 5 / 2 and 7 / 3: both 2, were they cut.
        TurnCabinet x = of("divisors 2 1;" + offices(2) + seats(5, 7));
        row("turn", IntStream.range(0, 2).map(i -> x.turn(3, i)), 1, 0);
        term(2, "the DIVISOR being the first one and the step times how many TURNS it had");
        // 10 / 3; 4 / 3 (10 / 8); 10 / 8; 10 / 13 (4 / 8).
        TurnCabinet y = of("divisors 3 5;" + offices(4) + seats(10, 4));
        row("turn", IntStream.range(0, 4).map(i -> y.turn(3, i)), 0, 1, 0, 0);
        // Without: 10; 5 (4); 4 (10 / 3); 10 / 3.
        TurnCabinet z = of(offices(4) + seats(10, 4));
        row("turn without divisors", IntStream.range(0, 4).map(i -> z.turn(3, i)), 0, 0, 1, 0);
    }

    private static void likeTurns() {
        term(2, "of like ones the one with more SEATS, then the least one");
        // r has 6; 3 of q and 3 (6 / 2) of r: r has more SEATS; q; 2 of p, s and 2 (6 / 3) of r: r, then p, s.
        TurnCabinet x = of(offices(6) + seats(2, 3, 6, 2));
        row("turn", IntStream.range(0, 6).map(i -> x.turn(15, i)), 2, 2, 1, 2, 0, 3);
        TurnCabinet y = of(offices(4) + seats(7, 7, 7));
        row("turn of like ones", IntStream.range(0, 4).map(i -> y.turn(7, i)), 0, 1, 2, 0);
        row("turn of the later ones", IntStream.range(0, 4).map(i -> y.turn(6, i)), 1, 2, 1, 2);
    }

    private static void extremeTurns() {
        promise(10, "were the first divisor and the step these (1 .. 99 each)");
        TurnCabinet x = of(offices(8) + seats(999, 998));
        row("turnBy 99 99", IntStream.range(0, 8).map(i -> x.turnBy(3, 99, 99, i)), 0, 1, 0, 1, 0, 1, 0, 1);
        row("turnBy 1 99", IntStream.range(0, 8).map(i -> x.turnBy(3, 1, 99, i)), 0, 1, 0, 1, 0, 1, 0, 1);
        TurnCabinet y = of(offices(8) + seats(1, 999));
        row("turnBy 99 99 of 1 and 999", IntStream.range(0, 8).map(i -> y.turnBy(3, 99, 99, i)), 1, 1, 1, 1, 1, 1, 1, 1);
        // 99 : 1, then 99 : 100 is less than 1.
        TurnCabinet z = of(offices(2) + seats(1, 99));
        due("turnBy 1 99, the second", z.turnBy(3, 1, 99, 1), 0);
        due("turnBy 1 98, the second: like ones", z.turnBy(3, 1, 98, 1), 1);
        promise(10, "NONE, too, if one can't be");
        for (int wrong : new int[] {0, -1, 100, 101, 999, Integer.MAX_VALUE, Integer.MIN_VALUE}) {
            due("first " + wrong, x.turnBy(3, wrong, 1, 0), -1);
            due("step " + wrong, x.turnBy(3, 1, wrong, 0), -1);
        }
        due("told divisors stay", x.about(10), 1);
        due("told turns stay", x.turn(3, 1), 1);
    }

    private static void picksOfLikeWorth() {
        term(2, "SHORT: the one that is worth most to whose TURN it is, of like ones the least");
        // TURNS p, q, p: p picks b (like c), q picks a (like c, 0), p picks c.
        TurnCabinet x = of(offices(3) + seats(3, 2) + "worth p b 5;worth p c 5;");
        row("gets", IntStream.range(0, 3).map(o -> x.gets(3, 0, o)), 1, 0, 0);
        term(2, "what it has at last is worth most to it together; of like ones the least OFFICE");
        TurnCabinet y = of(LIKE);
        row("gets", IntStream.range(0, 3).map(o -> y.gets(3, 1, o)), 0, 1, 0);
        due("has", y.has(3, 1, 0), 4);
        promise(14, "did it pick that OFFICE then, all ahead and later ones being FORESEEN (later ones by what is left then)");
        row("instead at first", IntStream.range(0, 3).map(o -> y.instead(3, 0, o)), 4, 4, 4);
        promise(14, "NONE, too, if there is no such TURN, the OFFICE is not left then");
        row("instead then", IntStream.range(0, 3).map(o -> y.instead(3, 1, o)), -1, 9, 0);
        row("instead at last", IntStream.range(0, 3).map(o -> y.instead(3, 2, o)), -1, -1, 4);
        due("no such TURN", y.instead(3, 3, 2), -1);
        due("no such OFFICE", y.instead(3, 2, 3), -1);
        promise(12, "(0, if it is not in the COALITION)");
        due("has() of one out of it", y.has(2, 1, 0), 0);
        due("has() of the lone one", y.has(2, 1, 1), 18);
    }

    private static void picksOfGreatWorth() {
        promise(14, "What a PARTY whose the i-th TURN is would have at last together");
        StringBuilder dear = new StringBuilder();
        for (char o = 'a'; o <= 'h'; o++) dear.append("worth p ").append(o).append(" 99;");
        TurnCabinet most = of(offices(8) + seats(99) + dear);
        row("all of 99, at first", IntStream.range(0, 8).map(o -> most.instead(1, 0, o)), 792, 792, 792, 792, 792, 792, 792, 792);
        due("all of 99, at last", most.instead(1, 7, 7), 792);
        // q has the fourth TURN of eight, p all others: 7 times 99 for p, whatever is left for q.
        TurnCabinet more = of(offices(8) + seats(99, 25) + dear + "worth q a 98;worth q b 1;");
        row("TURNS", IntStream.range(0, 8).map(i -> more.turn(3, i)), 0, 0, 0, 1, 0, 0, 0, 0);
        row("seven of 99", IntStream.range(0, 3).map(o -> more.instead(3, 0, o)), 693, 693, 693);
        row("q's then", IntStream.range(0, 5).map(o -> more.instead(3, 3, o)), -1, -1, -1, 0, 0);
    }

    private static void swapsInOrder() {
        term(2, "the first (least a, then b) are exchanged, again and again till there are none such");
        TurnCabinet x = of(FIVE);
        row("turn", IntStream.range(0, 5).map(i -> x.turn(15, i)), 0, 2, 3, 1, 0);
        row("FORESEEN", IntStream.range(0, 5).map(o -> x.gets(15, 1, o)), 0, 1, 2, 3, 0);
        row("SETTLED", IntStream.range(0, 5).map(o -> x.gets(15, 2, o)), 0, 0, 2, 1, 3);
        row("has SETTLED", IntStream.range(0, 4).map(p -> x.has(15, 2, p)), 9, 8, 5, 6);
        promise(13, "How many SWAPS SETTLED has");
        due("swaps(15)", x.swaps(15), 2);
        due("swaps() of one PARTY", x.swaps(1), 0);
        due("swaps() again", x.swaps(15), 2);
        term(2, "the first (least a, then b) are exchanged");
        // r has a (6), b; p has d (4), s has e (5): r would rather have d (8) or e (7), p and s would rather have a (5, 8).
        TurnCabinet y = of(offices(5) + seats(4, 5, 6, 4)
            + worths(new int[][] {{5, 3, 0, 4, 4}, {7, 6, 7, 4, 6}, {6, 8, 6, 8, 7}, {8, 4, 2, 2, 5}}));
        row("turn", IntStream.range(0, 5).map(i -> y.turn(15, i)), 2, 1, 0, 3, 2);
        row("FORESEEN", IntStream.range(0, 5).map(o -> y.gets(15, 1, o)), 2, 2, 1, 0, 3);
        row("SETTLED", IntStream.range(0, 5).map(o -> y.gets(15, 2, o)), 0, 2, 1, 2, 3);
        due("swaps(15) with d, not e", y.swaps(15), 1);
        // Of eight: r has a (3), p has g (4) and h (3): r would rather have g (5) or h (4), p would rather have a (5).
        TurnCabinet z = of(offices(8) + seats(2, 1, 1)
            + worths(new int[][] {{5, 0, 1, 1, 4, 2, 4, 3}, {1, 5, 0, 2, 0, 1, 4, 3}, {3, 2, 1, 2, 3, 0, 5, 4}}));
        row("FORESEEN of eight", IntStream.range(0, 8).map(o -> z.gets(7, 1, o)), 2, 1, 2, 1, 0, 0, 0, 0);
        row("SETTLED of eight", IntStream.range(0, 8).map(o -> z.gets(7, 2, o)), 0, 1, 2, 1, 0, 0, 2, 0);
        due("swaps(7) with g, not h", z.swaps(7), 1);
    }

    private static void swapsThatHelpBoth() {
        term(2, "of all two OFFICES a, b (a below b) of two PARTIES to each of which the other one's is worth more than its own");
        String house = offices(2) + seats(2, 2);
        int[][] told = {{3, 4, 4, 3, 1}, {3, 3, 4, 3, 0}, {3, 4, 3, 3, 0}, {3, 3, 3, 3, 0}, {4, 3, 3, 4, 0}, {3, 4, 3, 4, 0}};
        for (int[] t : told) {
            TurnCabinet x = of(house + "worth p a " + t[0] + ";worth p b " + t[1] + ";worth q a " + t[2] + ";worth q b " + t[3] + ";");
            tell(x, "\0\1");
            due("by " + t[0] + " " + t[1] + " " + t[2] + " " + t[3], x.judge(3, 0), t[4]);
            tell(x, "\0\0");
            due("of one PARTY", x.judge(3, 0), 0);
        }
    }

    private static void middles() {
        term(2, "the sum of SEATS times PLACE of its PARTIES by the sum of their SEATS (cut)");
        due("2 / 3", of("party p seats 2 at 0;party q seats 1 at 2;").middle(3), 0);
        due("3 / 3", of("party p seats 2 at 0;party q seats 1 at 3;").middle(3), 1);
        due("98999 / 1000", of("party p seats 999 at 99;party q seats 1 at 98;").middle(3), 98);
        due("the lone one's PLACE", of("party p seats 7 at 99;").middle(1), 99);
        StringBuilder seven = new StringBuilder();
        for (char c = 'p'; c < 'w'; c++) seven.append("party ").append(c).append(" seats 999 at 99;");
        due("the greatest", of(seven.toString()).middle(127), 99);
        promise(15, "MIDDLE.");
        TurnCabinet x = of(THREE);
        row("middle", IntStream.range(0, 9).map(c -> x.middle(c)), -1, 1, 5, 3, 9, 5, 7, 5, -1);
    }

    private static void pays() {
        term(2, "10 times what its OFFICES (FORESEEN; none, if it is not in it) are worth to it together, less care times how far "
            + "its PLACE is from MIDDLE");
        TurnCabinet x = of("care 9;" + offices(1) + "party p seats 999 at 99;party q seats 1 at 0;worth p a 1;worth q a 99;");
        due("not in it", x.pay(1, 1), -891);
        due("in it, without one", x.pay(3, 1), -882);
        due("one above MIDDLE", x.pay(3, 0), 1);
        due("at MIDDLE", x.pay(2, 1), 990);
        due("not in it either", x.pay(2, 0), -891);
        StringBuilder all = new StringBuilder(offices(8) + seats(1));
        for (char c = 'a'; c <= 'h'; c++) all.append("worth p ").append(c).append(" 99;");
        due("the greatest PAY", of(all.toString()).pay(1, 0), 7920);
        due("without care", of("party p seats 1 at 0;party q seats 1 at 99;").pay(1, 1), 0);
        TurnCabinet y = of(FIVE);
        row("by FORESEEN, not SETTLED: pay", IntStream.range(0, 4).map(p -> y.pay(15, p)), 80, 30, 50, 30);
    }

    // ---- COALITIONS

    private static void majorities() {
        term(2, "A COALITION is a MAJORITY, if its SEATS are need at least");
        TurnCabinet x = of("need 5;" + seats(5, 4, 1));
        row("told: kind & 1", IntStream.range(1, 8).map(c -> x.kind(c) & 1), 1, 0, 1, 0, 1, 1, 1);
        TurnCabinet half = of(seats(2, 2));
        row("half of all is none: kind & 1", IntStream.range(1, 4).map(c -> half.kind(c) & 1), 0, 0, 1);
        TurnCabinet more = of(seats(3, 2));
        row("more than half: kind & 1", IntStream.range(1, 4).map(c -> more.kind(c) & 1), 1, 0, 1);
        TurnCabinet none = of("need 999;" + seats(499, 499));
        due("998 of 999", none.kind(3) & 1, 0);
        none.seats(0, 500);
        due("999 of 999", none.kind(3) & 1, 1);
    }

    private static void freeOnes() {
        term(2, "FREE, if no two of it are barred");
        TurnCabinet x = of(seats(3, 3, 3) + "bar p r;");
        row("kind & 2", IntStream.range(1, 8).map(c -> x.kind(c) & 2), 2, 2, 2, 2, 0, 2, 0);
        term(2, "It CAN be: a MAJORITY that is FREE");
        row("joins", IntStream.of(1, 3, 4, 5, 6, 7).map(c -> x.joins(c)), 2, 0, 2, -1, 0, -1);
        due("many MAJORITIES", x.many(1), 4);
        due("many that CAN be", x.many(3), 2);
    }

    private static void minimalOnes() {
        term(2, "MINIMAL: a MAJORITY that without any one of it is none");
        TurnCabinet x = of(seats(4, 2, 1));
        row("kind & 4", IntStream.range(1, 8).map(c -> x.kind(c) & 4), 4, 0, 0, 0, 0, 0, 0);
        TurnCabinet y = of(seats(2, 2, 2) + "bar p q;");
        row("barred ones, too: kind & 4", IntStream.range(1, 8).map(c -> y.kind(c) & 4), 0, 0, 4, 0, 4, 4, 0);
        TurnCabinet all = of("need 6;" + seats(2, 2, 2));
        row("all together: kind & 4", IntStream.range(1, 8).map(c -> all.kind(c) & 4), 0, 0, 0, 0, 0, 0, 4);
        // Without p it is a MAJORITY, without q or r it is none.
        due("without one of it", of("need 7;" + seats(1, 4, 3)).kind(7) & 4, 0);
    }

    private static void connectedOnes() {
        term(2, "CONNECTED: no PARTY that is not in it has a PLACE above the least and below the greatest one in it");
        TurnCabinet x = of("party p seats 1 at 3;party q seats 1 at 3;party r seats 1 at 4;party s seats 1 at 5;party t seats 1 at 5;");
        int[] whole = {1, 2, 4, 8, 16, 3, 5, 6, 12, 20, 24, 13, 21, 14, 22, 29, 15, 23, 31};
        for (int c : whole) due("kind(" + c + ") & 8", x.kind(c) & 8, 8);
        for (int c : new int[] {9, 10, 17, 18, 11, 19, 25, 26, 27}) due("kind(" + c + ") & 8", x.kind(c) & 8, 0);
        due("many CONNECTED ones", x.many(8), 22);
        due("the first one between", of("party p seats 1 at 5;party q seats 1 at 4;party r seats 1 at 6;").kind(6) & 8, 0);
        TurnCabinet far = of("party p seats 1 at 0;party q seats 1 at 99;party r seats 1 at 1;party s seats 1 at 98;");
        due("from 0 to 99", far.kind(3) & 8, 0);
        due("from 0 to 99 without a gap", far.kind(15) & 8, 8);
    }

    private static void rivalsOfLikePay() {
        term(2, "another one that CAN be, each PARTY of which has more PAY by it than by the first");
        TurnCabinet x = of(seats(2, 2, 2));
        row("of like PAY: rival", IntStream.range(1, 8).map(c -> x.rival(c)), 0, 0, 0, 0, 0, 0, 0);
        // {p, q}: p has a. {q, r}: q has a. {p, r}: p has a. All: p has a. Only q has more by {q, r}, r as much (0).
        TurnCabinet y = of(offices(1) + seats(2, 2, 2) + "worth p a 1;worth q a 1;worth r a 1;");
        row("one has not more: rival", IntStream.range(1, 8).map(c -> y.rival(c)), 0, 0, 0, 0, 0, 0, 0);
        // p alone CAN be: it has a, b (2) for one of them (1).
        TurnCabinet z = of("need 2;" + offices(2) + seats(2, 2) + "worth p a 1;worth p b 1;worth q a 1;worth q b 1;");
        row("the lone one: rival", IntStream.range(1, 4).map(c -> z.rival(c)), 2, 1, 1);
        promise(24, "The RIVAL of the least number of a COALITION (whether it CAN be or not); 0 without one");
        TurnCabinet one = of(offices(1) + seats(9, 1) + "worth p a 1;");
        due("rival of what CAN'T be", one.rival(2), 1);
        due("rival of what CAN be", one.rival(1), 0);
        due("of like PAY", one.rival(3), 0);
    }

    private static void holding() {
        term(2, "a COALITION that CAN be HOLDS, if it has none");
        TurnCabinet x = of(seats(2, 2, 2) + "bar p q;");
        // All PAY is 0: what CAN be HOLDS; {p, q} and all together are barred, lone ones are no MAJORITY.
        row("kind & 16", IntStream.range(1, 8).map(c -> x.kind(c) & 16), 0, 0, 0, 0, 16, 16, 0);
        TurnCabinet z = of("need 2;" + offices(2) + seats(2, 2) + "worth p a 1;worth p b 1;worth q a 1;worth q b 1;");
        row("none HOLDS: kind & 16", IntStream.range(1, 4).map(c -> z.kind(c) & 16), 0, 0, 0);
    }

    private static void drifts() {
        term(2, "till one has none (it ends there), or the next one would be one that was there already (it goes round)");
        TurnCabinet x = of("need 2;" + offices(2) + seats(2, 2) + "worth p a 1;worth p b 1;worth q a 1;worth q b 1;");
        promise(34, "how many steps (to COALITIONS that were not there), 1: where it ends (0: it goes round)");
        // {p, q} to {p}, {q}, {p}: round.
        row("steps", IntStream.range(1, 4).map(c -> x.drift(c, 0)), 1, 1, 2);
        row("ends", IntStream.range(1, 4).map(c -> x.drift(c, 1)), 0, 0, 0);
        TurnCabinet y = of(seats(2, 2, 2));
        row("no step", IntStream.range(1, 8).map(c -> y.drift(c, 0)), 0, 0, 0, 0, 0, 0, 0);
        row("it ends where it is", IntStream.range(1, 8).map(c -> y.drift(c, 1)), 1, 2, 3, 4, 5, 6, 7);
        TurnCabinet one = of(offices(1) + seats(9, 1) + "worth p a 1;");
        due("a step", one.drift(2, 0), 1);
        due("its end", one.drift(2, 1), 1);
        // PAY below 0 by what CAN'T be (q's COALITION, -9 for p), asked ahead of all else.
        String far = "care 1;party p seats 9 at 0;party q seats 1 at 9;";
        due("a step from PAY below 0", of(far).drift(2, 0), 1);
        due("its end, too", of(far).drift(2, 1), 1);
        due("its RIVAL", of(far).rival(2), 1);
    }

    private static void beatingBySeats() {
        term(2, "if the PARTIES whose GRIEF is less by it (both FORESEEN) have need SEATS at least together");
        // By {p} POLICY is 5, by {q} 0: GRIEF of p 0 and 5, of q, r 5 and 0.
        String house = offices(1) + seats(4, 3, 3) + "stance p a 5;worth p a 1;worth q a 1;";
        TurnCabinet x = of(house + "worth r a 1;");
        due("6 of 6", x.beats(2, 1), 1);
        due("4 of 6", x.beats(1, 2), 0);
        due("6 of 7", of("need 7;" + house + "worth r a 1;").beats(2, 1), 0);
        due("r's GRIEF is not less", of(house).beats(2, 1), 0);
        due("3 of 3, r's GRIEF is not less", of("need 3;" + house).beats(2, 1), 1);
        due("one that CAN'T be beats, too", x.kind(2) & 1, 0);
        due("itself", x.beats(1, 1), 0);
        due("of like POLICY", x.beats(1, 3), 0);
        promise(25, "1 if one COALITION BEATS another one, else 0");
        term(2, "UNBEATEN: a COALITION that CAN be, which none that CAN be BEATS");
        // {p, q}, {p, r}, all: p has a; {q, r}: q has it.
        due("unbeaten(-1)", x.unbeaten(-1), 1);
        due("unbeaten(0)", x.unbeaten(0), 6);
        TurnCabinet barred = of(house + "worth r a 1;bar q r;");
        due("those that {q, r} would beat", barred.unbeaten(-1), 2);
        due("{p, q}", barred.unbeaten(0), 3);
        due("{p, r}", barred.unbeaten(1), 5);
        promise(26, "How many COALITIONS are UNBEATEN (k NONE); the k-th (0 .., the least number first). NONE if there is none such");
        for (int k : new int[] {-2, 2, 3, 127, Integer.MAX_VALUE, Integer.MIN_VALUE}) due("unbeaten(" + k + ")", barred.unbeaten(k), -1);
        // Only {p} and {q} CAN be; q's GRIEF is 0 by both.
        TurnCabinet lone = of("need 1;" + offices(1) + seats(9, 1) + "stance p a 5;worth p a 1;bar p q;");
        due("{p} BEATS {q}", lone.beats(1, 2), 1);
        due("unbeaten(-1) but {q}", lone.unbeaten(-1), 1);
        due("unbeaten(0) but {q}", lone.unbeaten(0), 1);
        due("unbeaten(1) but {q}", lone.unbeaten(1), -1);
        TurnCabinet none = of("need 999;" + seats(1));
        due("unbeaten(-1) of none", none.unbeaten(-1), 0);
        due("unbeaten(0) of none", none.unbeaten(0), -1);
    }

    private static void sharesKept() {
        term(2, "KEPT are TURNS, if each PARTY of a COALITION has as many OFFICES as TURNS");
        promise(20, "0: the most that all OFFICES are worth to who has them together, 1: the most that PARTIES which have TURNS have "
            + "each at least");
        // p and q have a TURN each: 9 and 0 together most, 2 and 3 at least.
        TurnCabinet x = of(offices(2) + seats(2, 2) + "worth p a 9;worth p b 2;worth q a 3;");
        due("together", x.kept(3, 0), 9);
        due("at least", x.kept(3, 1), 2);
        // Both TURNS are p's: q has none, and none is asked of it.
        TurnCabinet y = of(offices(2) + seats(9, 2) + "worth p a 4;worth p b 3;worth q a 99;");
        due("together without q's", y.kept(3, 0), 7);
        due("at least without q's", y.kept(3, 1), 7);
        due("the lone one's", y.kept(2, 1), 99);
        TurnCabinet z = of(offices(2) + seats(2, 2));
        due("of no worth together", z.kept(3, 0), 0);
        due("of no worth at least", z.kept(3, 1), 0);
        StringBuilder all = new StringBuilder(offices(8) + seats(1));
        for (char c = 'a'; c <= 'h'; c++) all.append("worth p ").append(c).append(" 99;");
        due("the greatest together", of(all.toString()).kept(1, 0), 792);
        due("the greatest at least", of(all.toString()).kept(1, 1), 792);
        // p has two TURNS: a, b together (7) and q's c, rather than its a, c (9) and q's b (0).
        TurnCabinet two = of(offices(3) + seats(3, 2) + "worth p a 4;worth p b 3;worth p c 5;worth q c 6;");
        due("two and one together", two.kept(3, 0), 13);
        due("two and one at least", two.kept(3, 1), 6);
    }

    private static void envies() {
        promise(19, "ENVY by PICKS");
        term(2, "to the first of which the other one's OFFICES are worth more together than its own");
        String house = offices(2) + seats(2, 2) + "worth p a 1;";
        due("like ones", of(house + "worth q a 5;worth q b 5;").envy(3, 0), 0);
        due("more", of(house + "worth q a 6;worth q b 5;").envy(3, 0), 1);
        due("less", of(house + "worth q a 5;worth q b 6;").envy(3, 0), 0);
        due("the first one's", of(offices(2) + seats(2, 9) + "worth p b 1;").envy(3, 0), 1);
        due("of one that is not in it", of(house + "worth q a 6;").envy(1, 0), 0);
        // p has three, q one: q's is worth 3 to it, p's three are 4 together.
        due("together", of(offices(4) + seats(9, 3) + "worth q a 2;worth q b 1;worth q c 1;worth q d 3;worth p a 9;worth p b 9;worth p c 9;").envy(3, 1), 1);
        // p has a, q has b, r has c: q envies p, r envies p and q.
        TurnCabinet x = of(offices(3) + seats(3, 3, 3) + "worth p a 1;worth q a 3;worth q b 2;worth r a 3;worth r b 2;worth r c 1;");
        for (int way = 0; way < 3; way++) due("three, by " + way, x.envy(7, way), 3);
        due("way 3", x.envy(7, 3), -1);
    }

    private static void policies() {
        promise(17, "POLICY on an OFFICE (way as above)");
        TurnCabinet y = of(FIVE + "stance q b 9;stance p b 1;stance q d 7;stance t d 2;");
        row("FORESEEN", IntStream.range(0, 5).map(o -> y.policy(15, 1, o)), 0, 9, 0, 2, 0);
        row("SETTLED", IntStream.range(0, 5).map(o -> y.policy(15, 2, o)), 0, 1, 0, 7, 0);
        promise(18, "GRIEF.");
        // p: b from its 1 to q's 9, d from its 0 to t's 2; q: d from its 7.
        row("grief FORESEEN", IntStream.range(0, 4).map(p -> y.grief(15, 1, p)), 42, 40, 38, 0);
        row("grief SETTLED", IntStream.range(0, 4).map(p -> y.grief(15, 2, p)), 35, 24, 11, 15);
        term(2, "GRIEF of a PARTY (in it or not)");
        due("not in it", y.grief(1, 1, 1), 24 + 56);
    }

    // ---- the calls

    private static void otherTurns() {
        promise(9, "Whose the i-th TURN (0 ..) of a COALITION is");
        TurnCabinet x = of(THREE);
        row("turn", IntStream.range(0, 3).map(i -> x.turn(7, i)), 0, 1, 2);
        row("turn of the last one", IntStream.range(0, 3).map(i -> x.turn(4, i)), 2, 2, 2);
    }

    private static void otherOffices() {
        promise(11, "Who gets an OFFICE by PICKS, way 0: SHORT, 1: FORESEEN, 2: SETTLED");
        TurnCabinet x = of(THREE);
        for (int way = 0; way < 3; way++) {
            int w = way;
            row("gets by " + w, IntStream.range(0, 3).map(o -> x.gets(7, w, o)), 0, 1, 2);
            row("gets of the last one by " + w, IntStream.range(0, 3).map(o -> x.gets(4, w, o)), 2, 2, 2);
        }
    }

    private static void kindsAsked() {
        promise(21, "1 MAJORITY, 2 FREE, 4 MINIMAL, 8 CONNECTED, 16 HOLDS (the sum of those it is)");
        // r is barred from p; q sits between both.
        TurnCabinet x = of(THREE + "bar p r;");
        row("kind", IntStream.range(0, 9).map(c -> x.kind(c)), -1, 10, 10, 31, 10, 5, 31, 9, -1);
        promise(22, "How many COALITIONS are all that kinds (as above, 0 .. 31) say; NONE for others");
        int[] many = {7, 4, 5, 2, 3, 3, 2, 2, 6, 3, 5, 2, 2, 2, 2, 2};
        for (int kinds = 0; kinds < 16; kinds++) due("many(" + kinds + ")", x.many(kinds), many[kinds]);
        for (int kinds = 16; kinds < 32; kinds++) due("many(" + kinds + ")", x.many(kinds), 2);
        for (int kinds : new int[] {-1, -32, 32, 33, 63, 64, Integer.MAX_VALUE, Integer.MIN_VALUE}) {
            due("many(" + kinds + ")", x.many(kinds), -1);
            due("nth(" + kinds + ", 0)", x.nth(kinds, 0), -1);
        }
        promise(23, "The k-th (0 .., the least number first) of these; NONE if there is none such");
        row("nth(0, k)", IntStream.range(0, 8).map(k -> x.nth(0, k)), 1, 2, 3, 4, 5, 6, 7, -1);
        row("nth(1, k)", IntStream.range(0, 5).map(k -> x.nth(1, k)), 3, 5, 6, 7, -1);
        row("nth(31, k)", IntStream.range(0, 3).map(k -> x.nth(31, k)), 3, 6, -1);
        for (int k : new int[] {-1, -2, 7, 128, Integer.MAX_VALUE, Integer.MIN_VALUE}) due("nth(0, " + k + ")", x.nth(0, k), -1);
        TurnCabinet all = of(seats(1, 1, 1, 1, 1, 1, 1));
        due("many() of seven", all.many(0), 127);
        due("the last of seven", all.nth(0, 126), 127);
        due("one more", all.nth(0, 127), -1);
        TurnCabinet none = new TurnCabinet();
        due("many() without PARTIES", none.many(0), 0);
        due("many(32) without PARTIES", none.many(32), -1);
        due("nth() without PARTIES", none.nth(0, 0), -1);
    }

    private static void enoughSeats() {
        promise(27, "The least SEATS (1 .. 999) of a PARTY of a COALITION with which that is a MAJORITY");
        due("1", of(seats(9, 2)).enough(3, 1), 1);
        due("999", of("need 999;" + seats(1)).enough(1, 0), 999);
        due("told: just what lacks", of("need 9;" + seats(5, 2)).enough(3, 1), 4);
        due("told: nothing lacks", of("need 9;" + seats(9, 2)).enough(3, 1), 1);
        promise(27, "(all others' SEATS as they are; need, if it is not told, by all SEATS then)");
        due("6 against 5", of(seats(1, 5)).enough(1, 0), 6);
        due("6 against 5, from above", of(seats(900, 5)).enough(1, 0), 6);
        due("7 against 6", of(seats(1, 6)).enough(1, 0), 7);
        due("with 3: 3 against 5", of(seats(1, 5, 3)).enough(5, 0), 3);
        due("alone", of(seats(7)).enough(1, 0), 1);
        promise(27, "NONE, too, if with none, or the PARTY is not in it");
        due("999 against 998", of(seats(1, 998)).enough(1, 0), 999);
        due("none against 999", of(seats(1, 999)).enough(1, 0), -1);
        TurnCabinet x = of(seats(4, 4, 4));
        due("not in it", x.enough(3, 2), -1);
        due("in it", x.enough(6, 2), 1);
        due("no such PARTY", x.enough(7, 3), -1);
        due("SEATS stay", x.party(2, 0), 4);
        due("no ACT", x.about(7), 0);
    }

    private static void spansAndMedian() {
        promise(28, "How far the greatest PLACE in a COALITION is from the least one");
        TurnCabinet x = of("party p seats 5 at 99;party q seats 2 at 0;party r seats 2 at 0;party s seats 2 at 50;");
        due("the lone one", x.span(1), 0);
        due("at one PLACE", x.span(6), 0);
        due("all the way", x.span(3), 99);
        due("with one between", x.span(11), 99);
        due("the later one is less far", x.span(10), 50);
        promise(29, "(of like ones the least first) the first with which those so far have half of all SEATS, or more");
        // q 2, r 4, s 6 of 11.
        due("more than half", x.median(), 3);
        x.seats(0, 6);
        due("just half, 6 of 12", x.median(), 3);
        x.seats(0, 7);
        due("less than half, 6 of 13", x.median(), 0);
        due("like ones: the least first", of("party p seats 1 at 5;party q seats 1 at 5;").median(), 0);
        due("like ones: not alone", of("party p seats 1 at 5;party q seats 1 at 5;party r seats 1 at 5;").median(), 1);
        due("the lone one's", of("party p seats 1 at 5;").median(), 0);
        due("NONE without PARTIES", new TurnCabinet().median(), -1);
        due("NONE with OFFICES alone", of(offices(1)).median(), -1);
    }

    private static void neededOnes() {
        promise(30, "How many MAJORITIES a PARTY is in that without it are none");
        TurnCabinet x = of(seats(999, 1, 1, 1, 1, 1, 1));
        due("all, with the greatest", x.needed(0), 64);
        due("none, with a small one", x.needed(6), 0);
        promise(31, "In how many orders of all PARTIES a PARTY is the one by which those so far become a MAJORITY");
        due("all 5040", x.pivot(0), 5040);
        due("none", x.pivot(6), 0);
        TurnCabinet one = of(seats(1));
        due("the only one: needed", one.needed(0), 1);
        due("the only one: pivot", one.pivot(0), 1);
        TurnCabinet last = of("need 7;" + seats(1, 1, 1, 1, 1, 1, 1));
        due("all are needed", last.needed(3), 1);
        due("the last in each order", last.pivot(3), 720);
        TurnCabinet first = of("need 1;" + seats(1, 1, 1));
        due("one is enough: needed", first.needed(1), 1);
        due("one is enough: the first in each order", first.pivot(1), 2);
        TurnCabinet none = of("need 4;" + seats(1, 1, 1));
        due("no MAJORITY: needed", none.needed(1), 0);
        due("no MAJORITY: pivot", none.pivot(1), 0);
        // Barred ones are counted as well.
        TurnCabinet barred = of(seats(2, 2, 2) + "bar p q;");
        due("barred: needed", barred.needed(0), 2);
        due("barred: pivot", barred.pivot(0), 2);
    }

    private static void joins() {
        promise(32, "The fewest PARTIES (of as few the least number, as bits; 0: none are needed) with which a COALITION together CAN be");
        TurnCabinet x = of(seats(3, 2, 2)); // 4 of 7
        row("joins", IntStream.range(1, 8).map(c -> x.joins(c)), 2, 1, 0, 1, 0, 0, 0);
        // 8 of 15: p with q and r or with s alone; q, r need p and s.
        TurnCabinet few = of("need 8;" + seats(2, 3, 3, 6));
        due("fewest ahead of the least number", few.joins(1), 8);
        due("two", of("need 8;" + seats(2, 3, 3, 6) + "bar p s;").joins(1), 6);
        due("two, the least number", of("need 6;" + seats(2, 2, 2, 2)).joins(1), 6);
        promise(32, "NONE, too, if there are none such");
        due("all are too few", of("need 9;" + seats(3, 2, 2)).joins(1), -1);
        due("all of all are too few", of("need 9;" + seats(3, 2, 2)).joins(7), -1);
        due("just all", of("need 7;" + seats(3, 2, 2)).joins(1), 6);
        TurnCabinet barred = of(seats(3, 2, 2) + "bar q r;");
        due("its own are barred", barred.joins(6), -1);
        due("its own and one more", barred.joins(7), -1);
        due("one of the barred", barred.joins(2), 1);
        due("barred from all that would do", of(seats(3, 2, 2) + "bar p q;bar p r;").joins(1), -1);
    }

    private static void dreams() {
        promise(33, "with the greatest PAY for a PARTY (in it or not), of like ones the least number; 0 if none CAN be; NONE if there is no such PARTY");
        TurnCabinet x = of(seats(2, 2, 2));
        row("of like PAY", IntStream.range(0, 4).map(p -> x.dream(p)), 3, 3, 3, -1);
        // r's PLACE is 9; MIDDLE of {p, q} 3, of {p, r} 5, of {q, r} 7, of all 5. p's PLACE is 1, q's 5.
        TurnCabinet y = of("care 1;" + THREE);
        row("by PLACES", IntStream.range(0, 3).map(p -> y.dream(p)), 3, 5, 6);
        TurnCabinet z = of("care 1;" + THREE + "bar q r;bar p r;");
        row("not in it", IntStream.range(0, 3).map(p -> z.dream(p)), 3, 3, 3);
        TurnCabinet none = of("need 999;" + seats(2, 2));
        row("the lone one, of like PAY", IntStream.range(0, 3).map(p -> of("need 2;" + seats(2, 2, 2)).dream(p)), 1, 1, 1);
        row("none CAN be", IntStream.range(0, 3).map(p -> none.dream(p)), 0, 0, -1);
        due("PAY below 0 all the same", of("care 9;party p seats 9 at 0;party q seats 1 at 99;").dream(1), 3);
        due("without PARTIES", new TurnCabinet().dream(0), -1);
    }

    // ---- FORMING

    private static void formed(TurnCabinet x, int... want) {
        row("formed", IntStream.range(0, 4).map(what -> x.formed(what)), want);
    }

    private static void tried(TurnCabinet x, int[]... want) {
        for (int i = 0; i < want.length; i++) {
            int n = i;
            row("tried " + n, IntStream.range(0, 3).map(what -> x.tried(n, what)), want[i]);
        }
    }

    private static void rounds() {
        term(2, "ROUND by ROUND (9 at most)");
        // PAY is 0 and WALK less n - 1 in the n-th ROUND.
        formed(of("tire 1;party p seats 5 at 0 walk 8;"), 1, 9, 9, 0);
        formed(of("tire 1;party p seats 5 at 0 walk 9;"), 0, 9, 9, 0);
        formed(of("tire 1;party p seats 5 at 0 walk 1;"), 1, 2, 2, 0);
        formed(of("tire 1;party p seats 5 at 0;"), 1, 1, 1, 0);
        formed(of("tire 99;party p seats 5 at 0 walk 792;"), 1, 9, 9, 0);
        formed(of("tire 99;party p seats 5 at 0 walk 793;"), 0, 9, 9, 0);
        formed(of("party p seats 5 at 0 walk 1;"), 0, 9, 9, 0);
        promise(35, "2: ROUNDS that were begun, 3: the FORMER of the last TRY. NONE for another what, without PARTIES; 3: without TRIES");
        formed(of("need 6;party p seats 5 at 0;"), 0, 0, 9, -1);
        formed(of(offices(2)), -1, -1, -1, -1);
        formed(new TurnCabinet(), -1, -1, -1, -1);
        due("another what", of(THREE).formed(4), -1);
        due("another what below 0", of(THREE).formed(-1), -1);
    }

    private static void formers() {
        term(2, "in each PARTIES by SEATS (the most first, of like ones the least) are FORMERS, one behind the other");
        term(2, "that was not tried in this ROUND");
        // q, r, p are FORMERS; {p, q}, {p, r}, {q, r} and all CAN be, and each walks out.
        String house = "party p seats 3 at 0 walk 1;party q seats 5 at 0 walk 1;party r seats 5 at 0 walk 1;";
        TurnCabinet x = of(house);
        formed(x, 0, 27, 9, 0);
        tried(x, new int[][] {{1, 3, 3}, {2, 5, 5}, {0, 7, 7}, {1, 3, 3}, {2, 5, 5}, {0, 7, 7}, {1, 3, 3}});
        term(2, "A FORMER makes TRIES (tries at most)");
        TurnCabinet two = of(house + "tries 2;");
        formed(two, 0, 36, 9, 2);
        tried(two, new int[][] {{1, 3, 3}, {1, 6, 6}, {2, 5, 5}, {2, 7, 7}, {1, 3, 3}});
        TurnCabinet nine = of(house + "tries 9;");
        formed(nine, 0, 36, 9, 2);
        tried(nine, new int[][] {{1, 3, 3}, {1, 6, 6}, {1, 7, 7}, {2, 5, 5}, {1, 3, 3}});
    }

    private static void tries() {
        term(2, "The first that does not fail ends it: FORMED");
        // By {q, r} q has most (10; by {p, q} 9), but r walks out (0 of 1); by {p, q} p and q have 9 each.
        String house = offices(2) + "party p seats 3 at 2;party q seats 5 at 4;party r seats 5 at 4 walk 1;worth q a 1;"
            + "worth p b 1;care 1;need 8;bar p r;";
        TurnCabinet x = of(house + "tries 2;");
        formed(x, 3, 2, 1, 1);
        tried(x, new int[][] {{1, 6, 4}, {1, 3, 0}, {-1, -1, -1}});
        // With one TRY each: r has none left in this ROUND, p is the last one.
        TurnCabinet y = of(house);
        formed(y, 3, 2, 1, 0);
        tried(y, new int[][] {{1, 6, 4}, {0, 3, 0}, {-1, -1, -1}});
        // SEATS change who the FORMERS are.
        y.seats(0, 6);
        formed(y, 3, 1, 1, 0);
        y.undo();
        formed(y, 3, 2, 1, 0);
    }

    private static void likeChoices() {
        term(2, "with the greatest PAY for it, of like ones the fewest PARTIES, then the least number");
        TurnCabinet x = of(seats(5, 3, 3, 2)); // 7 of 13: {p, q}, {p, r}, {p, s} ..
        formed(x, 3, 1, 1, 0);
        TurnCabinet y = of(seats(5, 3, 3, 2) + "bar p q;");
        formed(y, 5, 1, 1, 0);
        TurnCabinet z = of(seats(3, 2, 2, 6) + "need 7;bar p s;bar q s;bar r s;");
        // s alone is too few; p, q, r together are 7.
        formed(z, 7, 1, 1, 0);
        TurnCabinet few = of("need 3;" + seats(9, 9, 9));
        formed(few, 1, 1, 1, 0);
        // The greatest PAY goes ahead of the fewest PARTIES: p's PLACE is MIDDLE of all three.
        TurnCabinet pay = of("care 1;party p seats 9 at 5;party q seats 5 at 0;party r seats 5 at 10;");
        due("the first TRY's FORMER", pay.tried(0, 0), 0);
        due("the first TRY's COALITION", pay.tried(0, 1), 7);
        due("those who WALK OUT of it", pay.tried(0, 2), 6);
    }

    private static void walkOuts() {
        term(2, "A TRY fails, if some of the COALITION WALK OUT: those whose PAY is less than their WALK less tire times the ROUNDS ahead of this one");
        formed(of(offices(1) + "party p seats 5 at 0 walk 10;worth p a 1;"), 1, 1, 1, 0);
        formed(of(offices(1) + "party p seats 5 at 0 walk 11;worth p a 1;"), 0, 9, 9, 0);
        formed(of("tire 1;" + offices(1) + "party p seats 5 at 0 walk 11;worth p a 1;"), 1, 2, 2, 0);
        // PAY below 0 is less than a WALK of 0.
        formed(of("care 1;need 10;party p seats 5 at 0;party q seats 5 at 2;"), 0, 9, 9, 0);
        formed(of("care 1;tire 1;need 10;party p seats 5 at 0;party q seats 5 at 2;"), 3, 2, 2, 0);
        TurnCabinet x = of("need 6;party p seats 2 at 0 walk 1;party q seats 2 at 0;party r seats 2 at 0 walk 1;");
        tried(x, new int[][] {{0, 7, 5}, {0, 7, 5}});
    }

    private static void triesAsked() {
        promise(36, "2: who WALK OUT (bits; 0: none)");
        TurnCabinet x = of("tire 1;party p seats 5 at 0 walk 1;");
        tried(x, new int[][] {{0, 1, 1}, {0, 1, 0}, {-1, -1, -1}});
        promise(36, "NONE if there is none such, or for another what");
        for (int i : new int[] {-1, 2, 3, 566, 567, 1 << 30, Integer.MAX_VALUE, Integer.MIN_VALUE}) {
            for (int what = 0; what < 3; what++) due("tried(" + i + ", " + what + ")", x.tried(i, what), -1);
        }
        for (int what : new int[] {-1, 3, 4, Integer.MAX_VALUE, Integer.MIN_VALUE}) due("tried(0, " + what + ")", x.tried(0, what), -1);
        due("without PARTIES", new TurnCabinet().tried(0, 0), -1);
        due("without TRIES", of("need 6;party p seats 5 at 0;").tried(0, 0), -1);
        // As many TRIES as there can be: each ROUND seven FORMERS, nine each. v's are 64 and {p, q, v}, .. but for those
        // that others tried: 67, 69, 70, 73, 74, 76, 84 (81, 82 were t's), 88.
        StringBuilder seven = new StringBuilder("need 1;tries 9;");
        for (char c = 'p'; c < 'w'; c++) seven.append("party ").append(c).append(" seats 1 at 0 walk 1;");
        TurnCabinet most = of(seven.toString());
        formed(most, 0, 567, 9, 6);
        row("the last TRY", IntStream.range(0, 2).map(what -> most.tried(566, what)), 6, 88);
        due("one more", most.tried(567, 0), -1);
    }
}
