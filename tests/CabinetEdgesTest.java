import java.util.stream.IntStream;

/** The boundary cases that the document names: term 3 (NOW, LEAVE, CRISIS, UNDO) and promises 37 to 46. */
public final class CabinetEdgesTest extends Sentences {
    // All together: r has a, b, p has c, q has d (of like SEATS the least; all worths are 0).
    private static final String FOUR = offices(4) + "party p seats 4 at 0;party q seats 4 at 0;party r seats 9 at 0;";
    // One OFFICE each, and one for none of the three: PAY of p and q is 10.
    private static final String PAIR = offices(2) + "party p seats 5 at 0 walk 20;party q seats 5 at 0 walk 20;worth p a 1;"
        + "worth p b 1;worth q a 1;worth q b 1;";
    private static final int[] NO_INDEX = {-1, -2, 4, 7, 8, 32, 35, 64, 1 << 30, Integer.MAX_VALUE, Integer.MIN_VALUE};

    public static void main(String[] args) {
        nobodyAtFirst();
        installing();
        asking();
        leaving();
        leavingLast();
        takers();
        payingNow();
        crises();
        crisesOneByOne();
        trading();
        changingSeats();
        aboveNeed();
        kindsOfActs();
        actsKept();
        undoing();
        judged();
        cabinetsThatAreNone();
        refusedJudgements();
        endOf(37, 46);
    }

    /** NOW: the COALITION, then who holds each OFFICE. */
    private static void now(TurnCabinet x, int... want) {
        for (int i = 0; i < want.length; i++) due("now(" + (i - 1) + ")", x.now(i - 1), want[i]);
    }

    // ---- NOW

    private static void nobodyAtFirst() {
        term(3, "NOW: a COALITION in office, each OFFICE held by one of it (none at first: no COALITION, each OFFICE held by none)");
        face("---- NOW (acts: doing nothing, if refused)");
        TurnCabinet x = of(FOUR);
        now(x, 0, -1, -1, -1, -1, -1);
        due("party(2, 3)", x.party(2, 3), 0);
        due("leave(0)", x.leave(0), -1);
        due("payNow(0)", x.payNow(0), NO);
        due("crisis()", x.crisis(), 0);
        due("trade(0, 1)", x.trade(0, 1), NO);
        due("above()", x.above(), NO);
        due("undo()", x.undo(), -1);
        due("no ACTS", x.about(7), 0);
        now(x, 0, -1, -1, -1, -1, -1);
    }

    private static void installing() {
        promise(37, "how many PARTIES hold one; NONE if one can't be");
        TurnCabinet x = of(FOUR);
        for (int c : NO_COALITIONS) due("hold(" + c + ", 0)", x.hold(c, 0), -1);
        for (int way : new int[] {-1, -2, 3, 4, Integer.MAX_VALUE, Integer.MIN_VALUE}) due("hold(7, " + way + ")", x.hold(7, way), -1);
        due("no ACTS", x.about(7), 0);
        now(x, 0, -1);
        for (int way = 0; way < 3; way++) due("hold(7, " + way + ")", x.hold(7, way), 3);
        now(x, 7, 2, 2, 0, 1);
        due("three ACTS", x.about(7), 3);
        due("hold() of what is in office", x.hold(7, 2), 3);
        due("an ACT all the same", x.about(7), 4);
        due("hold(8, 0) then", x.hold(8, 0), -1);
        now(x, 7, 2, 2, 0, 1);
        due("hold(1, 0)", x.hold(1, 0), 1);
        now(x, 1, 0, 0, 0, 0);
        promise(37, "how many PARTIES hold one");
        due("one OFFICE for three", of(FOUR.replace("office b;office c;office d;", "")).hold(7, 1), 1);
        TurnCabinet none = of("party p seats 5 at 0;party q seats 5 at 0;");
        due("without OFFICES", none.hold(3, 1), 0);
        now(none, 3, -1);
        due("an ACT without OFFICES", none.about(7), 1);
        promise(37, "A COALITION is in office");
        TurnCabinet barred = of(FOUR + "bar p q;need 999;");
        due("one that CAN'T be, too", barred.hold(3, 0), 2);
        now(barred, 3, 0, 1, 0, 1);
        due("above() of it", barred.above(), 8 - 999);
        // By SHORT p picks b, q picks a; FORESEEN p picks a, as b will be left for it.
        TurnCabinet ways = of(offices(3) + "party p seats 4 at 0;party q seats 3 at 0;worth p a 5;worth p b 6;worth q a 9;worth q c 3;");
        ways.hold(3, 0);
        now(ways, 3, 1, 0, 0);
        ways.hold(3, 1);
        now(ways, 3, 0, 0, 1);
    }

    private static void asking() {
        promise(38, "NOW's COALITION (office NONE; 0: none), or who holds an OFFICE; NONE if none does, or there is none such");
        TurnCabinet x = of(FOUR);
        x.hold(4, 0);
        now(x, 4, 2, 2, 2, 2);
        for (int o : NO_INDEX) if (o != -1) due("now(" + o + ")", x.now(o), -1);
        x.leave(2);
        now(x, 0, -1, -1, -1, -1);
        due("now(4)", x.now(4), -1);
    }

    // ---- LEAVE

    private static void leaving() {
        promise(39, "how many OFFICES were free; NONE if it is not in NOW's COALITION");
        TurnCabinet x = of(FOUR);
        x.hold(5, 0);
        now(x, 5, 2, 2, 0, 2);
        for (int p : NO_INDEX) due("leave(" + p + ")", x.leave(p), -1);
        due("leave(1)", x.leave(1), -1);
        due("no ACT", x.about(7), 1);
        now(x, 5, 2, 2, 0, 2);
        due("leave(2)", x.leave(2), 3);
        now(x, 1, 0, 0, 0, 0);
        due("leave(2) again", x.leave(2), -1);
        due("an ACT", x.about(7), 2);
        TurnCabinet none = of(FOUR.replace("office b;office c;office d;", ""));
        none.hold(7, 0);
        due("leave() of one that holds none", none.leave(0), 0);
        now(none, 6, 2);
        due("an ACT, too", none.about(7), 2);
        none.undo();
        now(none, 7, 2);
        TurnCabinet without = of("party p seats 5 at 0;party q seats 5 at 0;");
        without.hold(3, 0);
        due("leave() without OFFICES", without.leave(0), 0);
        now(without, 2);
    }

    private static void leavingLast() {
        term(3, "(If none is left, NOW is none.)");
        TurnCabinet x = of(FOUR);
        x.hold(2, 0);
        due("leave() of the last one", x.leave(1), 4);
        now(x, 0, -1, -1, -1, -1);
        due("its OFFICES", x.party(1, 3), 0);
        due("payNow(1)", x.payNow(1), NO);
        due("above()", x.above(), NO);
        due("trade(0, 1)", x.trade(0, 1), NO);
        due("crisis()", x.crisis(), 0);
        due("leave(1)", x.leave(1), -1);
        due("two ACTS", x.about(7), 2);
        due("undo()", x.undo(), 1);
        now(x, 2, 1, 1, 1, 1);
    }

    private static void takers() {
        term(3, "of those that are left, the one with the greatest SEATS by its DIVISOR (by how many OFFICES it holds then, in place of "
            + "TURNS; like ones as above) takes the free one that is worth most to it (of like ones the least)");
        // p and q hold one each, 4 / 2: of like ones the least takes a, then q takes b (4 / 2, p has 4 / 3).
        TurnCabinet x = of(FOUR);
        x.hold(7, 0);
        due("leave(2)", x.leave(2), 2);
        now(x, 3, 0, 1, 0, 1);
        // 8 / 2 is like 4 / 1: the one with more SEATS, be it the later one.
        TurnCabinet more = of(offices(2) + "party p seats 4 at 0;party q seats 8 at 0;party r seats 9 at 0;");
        more.hold(7, 0);
        now(more, 7, 2, 1);
        more.leave(2);
        now(more, 3, 1, 1);
        // As fractions: 7 / 2 and 3 / 1 (both 3, were they cut).
        TurnCabinet fraction = of(offices(2) + "party p seats 3 at 0;party q seats 7 at 0;party r seats 9 at 0;");
        fraction.hold(7, 0);
        fraction.leave(2);
        now(fraction, 3, 1, 1);
        // By 10, 20, ..: 7 / 30 is less than 3 / 10.
        TurnCabinet told = of("divisors 10 20;" + offices(2) + "party p seats 3 at 0;party q seats 7 at 0;party r seats 9 at 0;");
        told.hold(7, 0);
        now(told, 7, 2, 1);
        told.leave(2);
        now(told, 3, 0, 1);
        // r's a, c, d are free; q takes what is worth most to it (d), p what is worth most of a and c (like ones: a).
        TurnCabinet worth = of(offices(4) + "party p seats 4 at 0;party q seats 5 at 0;party r seats 90 at 0;worth q d 1;worth p d 9;"
            + "worth r b 0;");
        worth.hold(4, 0);
        worth.hold(7, 0);
        now(worth, 7, 2, 2, 2, 2);
        due("leave() of the one with all", worth.leave(2), 4);
        // q 5: d; p 4: a (b, c are like it); q 5 / 2: b; p 4 / 2: c.
        now(worth, 3, 0, 1, 0, 1);
        // How many OFFICES it holds then, not how many TURNS it would have: p's SEATS are 90 now, it holds one.
        TurnCabinet grown = of(FOUR);
        grown.hold(7, 0);
        grown.seats(0, 90);
        now(grown, 7, 2, 2, 0, 1);
        due("leave(1) of FOUR", grown.leave(1), 1);
        now(grown, 5, 2, 2, 0, 0);
    }

    // ---- NOW's PAY, CRISIS

    private static void payingNow() {
        promise(40, "NOW's PAY (of a PARTY out of it, too); -1000000 if there is none such, or NOW is none");
        TurnCabinet x = of("care 2;divisors 1 2;" + offices(2) + "party p seats 2 at 0;party q seats 1 at 9;party r seats 1 at 50;worth p a 5;"
            + "worth p b 4;worth q a 3;worth q b 1;worth r a 7;");
        due("ahead of any NOW", x.payNow(0), NO);
        x.hold(3, 1);
        now(x, 3, 0, 1);
        // MIDDLE is 3.
        due("payNow(0)", x.payNow(0), 44);
        due("payNow(1)", x.payNow(1), -2);
        due("payNow(2), out of it", x.payNow(2), -94);
        for (int p : NO_INDEX) due("payNow(" + p + ")", x.payNow(p), NO);
        due("payNow(3)", x.payNow(3), NO);
        term(3, "by the OFFICES that it holds NOW and MIDDLE of NOW's COALITION");
        x.trade(0, 1);
        due("payNow(0) after trade()", x.payNow(0), 34);
        due("payNow(1) after trade()", x.payNow(1), 18);
        due("pay(3, 0) is by PICKS", x.pay(3, 0), 44);
        x.seats(1, 7);
        due("payNow(0) by MIDDLE 7", x.payNow(0), 26);
        due("payNow(1) by MIDDLE 7", x.payNow(1), 26);
        x.leave(0);
        due("payNow(0) of one that left", x.payNow(0), -18);
        due("payNow(1) with both", x.payNow(1), 40);
    }

    private static void crises() {
        promise(41, "CRISIS: how many PARTIES LEAVE (0: none; no ACT)");
        TurnCabinet x = of(PAIR);
        due("crisis() without NOW", x.crisis(), 0);
        due("no ACT without NOW", x.about(7), 0);
        x.hold(1, 0);
        due("PAY is WALK", x.payNow(0), 20);
        due("crisis() of as much as WALK", x.crisis(), 0);
        due("no ACT", x.about(7), 1);
        now(x, 1, 0, 0);
        term(3, "CRISIS: as long as there are PARTIES of NOW's COALITION whose NOW's PAY is less than their WALK, the least of these LEAVES");
        x.hold(3, 0);
        // Both have 10; p leaves, and by both OFFICES q has 20.
        due("crisis()", x.crisis(), 1);
        now(x, 2, 1, 1);
        due("one ACT", x.about(7), 3);
        due("crisis() again", x.crisis(), 0);
        TurnCabinet least = of(PAIR.replace("seats 5 at 0 walk 20;party q", "seats 5 at 0 walk 10;party q"));
        least.hold(3, 0);
        due("only q's PAY is less", least.crisis(), 1);
        now(least, 1, 0, 0);
        // Without WALK: by care one's PAY is below 0.
        TurnCabinet far = of("care 1;party p seats 9 at 0;party q seats 1 at 9;");
        far.hold(3, 0);
        due("PAY below 0", far.crisis(), 1);
        now(far, 1);
        TurnCabinet same = of("care 1;party p seats 9 at 4;party q seats 1 at 4;");
        same.hold(3, 0);
        due("PAY 0 and WALK 0", same.crisis(), 0);
    }

    private static void crisesOneByOne() {
        promise(41, "how many PARTIES LEAVE");
        StringBuilder seven = new StringBuilder(offices(8));
        for (char c = 'p'; c < 'w'; c++) seven.append("party ").append(c).append(" seats 1 at 0 walk 1;");
        TurnCabinet x = of(seven.toString());
        x.hold(127, 0);
        due("crisis() of all seven", x.crisis(), 7);
        now(x, 0, -1);
        due("one ACT", x.about(7), 2);
        due("undo()", x.undo(), 1);
        now(x, 127, 0, 1, 2, 3, 4, 5, 6, 0);
        // MIDDLE moves with each that LEAVES: of 0, 4, 8 it is 4; p (PAY -4) LEAVES, of 4, 8 it is 6: q (-2), then r stands.
        TurnCabinet y = of("care 1;party p seats 1 at 0;party q seats 1 at 4;party r seats 1 at 8;");
        y.hold(7, 0);
        due("crisis() by MIDDLES", y.crisis(), 2);
        now(y, 4);
        due("one ACT by MIDDLES", y.about(7), 2);
    }

    // ---- trade, seats, above

    private static void trading() {
        promise(42, "how much more both are worth together to who has them then (below 0: less)");
        TurnCabinet x = of(offices(4) + "party p seats 5 at 0;party q seats 5 at 0;worth p a 9;worth p b 1;worth q a 2;worth q b 3;"
            + "worth p c 7;worth p d 7;worth q c 7;worth q d 7;");
        x.hold(3, 0);
        now(x, 3, 0, 1, 1, 0);
        due("less", x.trade(0, 1), -9);
        now(x, 3, 1, 0, 1, 0);
        due("more, the other way round", x.trade(1, 0), 9);
        now(x, 3, 0, 1, 1, 0);
        due("as much", x.trade(2, 3), 0);
        now(x, 3, 0, 1, 0, 1);
        due("three ACTS more", x.about(7), 4);
        promise(42, "-1000000 if one can't be, or one PARTY holds both");
        for (int o : NO_INDEX) {
            due("trade(" + o + ", 0)", x.trade(o, 0), NO);
            due("trade(0, " + o + ")", x.trade(0, o), NO);
        }
        due("both p's", x.trade(0, 2), NO);
        due("both q's", x.trade(3, 1), NO);
        due("one with itself", x.trade(0, 0), NO);
        now(x, 3, 0, 1, 0, 1);
        due("no ACT", x.about(7), 4);
        due("without NOW", of(FOUR).trade(0, 1), NO);
    }

    private static void changingSeats() {
        promise(43, "PARTY's SEATS become n (1 .. 999): what they were; NONE if one can't be, or they are that");
        TurnCabinet x = of(FOUR);
        x.hold(7, 0);
        for (int n : new int[] {0, -1, 1000, 1001, 4, Integer.MAX_VALUE, Integer.MIN_VALUE}) due("seats(0, " + n + ")", x.seats(0, n), -1);
        for (int p : NO_INDEX) due("seats(" + p + ", 5)", x.seats(p, 5), -1);
        due("seats(3, 5)", x.seats(3, 5), -1);
        due("no ACT", x.about(7), 1);
        due("SEATS stay", x.about(6), 17);
        due("seats(0, 1)", x.seats(0, 1), 4);
        due("seats(0, 1) again", x.seats(0, 1), -1);
        due("seats(0, 999)", x.seats(0, 999), 1);
        due("party(0, 0)", x.party(0, 0), 999);
        due("two ACTS more", x.about(7), 3);
        promise(43, "(An ACT; OFFICES stay.)");
        now(x, 7, 2, 2, 0, 1);
        due("but TURNS follow", x.turn(7, 1), 0);
        due("undo()", x.undo(), 2);
        due("SEATS of before", x.party(0, 0), 1);
        TurnCabinet without = of("party p seats 5 at 0;");
        due("without NOW", without.seats(0, 6), 5);
        due("an ACT without NOW", without.about(7), 1);
        due("without PARTIES", new TurnCabinet().seats(0, 6), -1);
    }

    private static void aboveNeed() {
        promise(44, "How many SEATS NOW's COALITION is above need (as they are now; below 0: under it); -1000000 if NOW is none");
        TurnCabinet x = of(FOUR);
        due("without NOW", x.above(), NO);
        x.hold(5, 0);
        due("13 of 9", x.above(), 4);
        x.hold(4, 0);
        due("9 of 9", x.above(), 0);
        x.hold(3, 0);
        due("8 of 9", x.above(), -1);
        x.seats(2, 8);
        due("8 of 9 still", x.above(), -1);
        x.seats(2, 7);
        due("8 of 8", x.above(), 0);
        TurnCabinet told = of("need 12;" + FOUR);
        told.hold(4, 0);
        due("9 of 12", told.above(), -3);
        told.seats(2, 12);
        due("12 of 12", told.above(), 0);
        told.seats(0, 900);
        due("12 of 12, whatever others have", told.above(), 0);
    }

    // ---- ACTS

    private static void kindsOfActs() {
        term(3, "ACTS: hold(), leave(), a CRISIS by which one LEAVES (one ACT), trade(), a PARTY's SEATS become other ones");
        TurnCabinet x = of(PAIR);
        due("none", x.about(7), 0);
        x.hold(3, 0);
        due("hold()", x.about(7), 1);
        x.trade(0, 1);
        due("trade()", x.about(7), 2);
        x.seats(0, 6);
        due("seats()", x.about(7), 3);
        x.crisis();
        due("crisis()", x.about(7), 4);
        x.leave(1);
        due("leave()", x.about(7), 5);
        x.crisis();
        x.hold(4, 0);
        x.hold(3, 3);
        x.leave(0);
        x.trade(0, 1);
        x.seats(0, 6);
        x.judge(3, 0);
        x.feed(0, 0, 0, 0, 0);
        x.end(0);
        due("none of these", x.about(7), 5);
        int[][] before = {{2, 1, 1, 6}, {3, 1, 0, 6}, {3, 1, 0, 5}, {3, 0, 1, 5}, {0, -1, -1, 5}};
        for (int n = 0; n < 5; n++) {
            due("undo() " + n, x.undo(), 4 - n);
            now(x, before[n][0], before[n][1], before[n][2]);
            due("SEATS " + n, x.party(0, 0), before[n][3]);
        }
    }

    private static void actsKept() {
        term(3, "UNDO takes back the latest that was not; 12 are kept, the oldest go");
        TurnCabinet x = of(FOUR);
        for (int n = 1; n <= 12; n++) {
            x.hold(1 + n % 3, 0);
            due("ACTS", x.about(7), n);
        }
        for (int n = 11; n >= 1; n--) {
            due("undo()", x.undo(), n);
            due("now(-1)", x.now(-1), 1 + n % 3);
        }
        due("the twelfth undo()", x.undo(), 0);
        now(x, 0, -1, -1, -1, -1);
        due("undo() then", x.undo(), -1);
        // The 13th ACT: the first one can't be undone any more.
        TurnCabinet y = of(FOUR);
        for (int n = 1; n <= 13; n++) y.hold(1 + n % 3, 0);
        due("13 ACTS", y.about(7), 12);
        for (int n = 12; n >= 1; n--) {
            due("undo() of 13", y.undo(), n - 1);
            int[][] due = {{1, 0, 0, 0, 0}, {2, 1, 1, 1, 1}, {3, 0, 1, 0, 1}};
            now(y, due[n % 3]);
        }
        due("no undo() of the first one", y.undo(), -1);
        due("the first one stays", y.now(-1), 2);
        // Whose SEATS were changed goes along: 14 ACTS, the first two are gone.
        TurnCabinet seats = of(FOUR);
        for (int n = 1; n <= 14; n++) seats.seats(n % 3, 20 + n);
        for (int n = 14; n >= 3; n--) {
            due("undo() of SEATS", seats.undo(), n - 3);
            due("their PARTY", seats.party(n % 3, 0), n > 3 ? 17 + n : 4);
        }
        due("the first of 14 stays", seats.party(1, 0), 21);
        due("the second of 14 stays", seats.party(2, 0), 22);
        // Of as many as can be told: SEATS 20 to 119.
        TurnCabinet z = of(FOUR);
        for (int n = 20; n < 120; n++) z.seats(0, n);
        for (int n = 118; n >= 107; n--) {
            z.undo();
            due("SEATS of 100 ACTS", z.party(0, 0), n);
        }
        due("no more of 100", z.undo(), -1);
        due("SEATS then", z.party(0, 0), 107);
    }

    private static void undoing() {
        promise(45, "how many more can be; NONE if none can");
        TurnCabinet x = of(FOUR);
        due("none", x.undo(), -1);
        x.hold(7, 0);
        due("the only one", x.undo(), 0);
        due("none more", x.undo(), -1);
        now(x, 0, -1);
        // What was undone is gone; what comes behind it is taken back first.
        x.hold(1, 0);
        x.hold(2, 0);
        x.undo();
        x.hold(4, 0);
        due("behind an UNDO", x.undo(), 1);
        now(x, 1, 0);
        due("ahead of it", x.undo(), 0);
        now(x, 0, -1);
        // An UNDO makes room: 12 ACTS, two of them undone, two others.
        for (int n = 1; n <= 12; n++) x.seats(0, 10 + n);
        x.undo();
        x.undo();
        x.seats(0, 50);
        x.seats(0, 60);
        due("12 again", x.about(7), 12);
        for (int n = 0; n < 12; n++) x.undo();
        due("SEATS of the beginning", x.party(0, 0), 4);
        // A house() leaves none.
        x.seats(0, 5);
        x.house();
        due("after house()", x.undo(), -1);
    }

    // ---- judge

    private static int judge(TurnCabinet x, String told, int coalition, int what) {
        tell(x, told);
        return x.judge(coalition, what);
    }

    private static void judged() {
        promise(46, "a byte for each OFFICE: the PARTY that holds it");
        TurnCabinet x = of(offices(3) + "party p seats 5 at 0;party q seats 4 at 0;party r seats 1 at 0;worth p a 1;worth p b 5;worth p c 9;"
            + "worth q a 6;worth q b 2;worth q c 8;worth r a 99;worth r c 4;");
        promise(46, "0: how many two OFFICES SWAPS could begin with");
        due("a, b", judge(x, "\0\1\1", 3, 0), 1);
        due("none", judge(x, "\1\0\0", 3, 0), 0);
        due("of one PARTY", judge(x, "\0\0\0", 3, 0), 0);
        // p a, q b, q c: p would rather have b (5) or c (9) than a (1); q would rather have a (6) than b (2), not than c (8).
        due("in a greater one, too", judge(x, "\0\1\1", 7, 0), 1);
        promise(46, "1: what all OFFICES are worth to who holds them together");
        due("1 + 2 + 8", judge(x, "\0\1\1", 3, 1), 11);
        due("6 + 5 + 9", judge(x, "\1\0\0", 3, 1), 20);
        promise(46, "2: by how much that is less than the most it could be in this COALITION");
        due("11 of 20", judge(x, "\0\1\1", 3, 2), 9);
        due("20 of 20", judge(x, "\1\0\0", 3, 2), 0);
        due("20 of 113 in a greater one", judge(x, "\1\0\0", 7, 2), 93);
        due("all in the lone one", judge(x, "\0\0\0", 1, 2), 0);
        due("all, with another one", judge(x, "\0\0\0", 3, 2), 5);
        promise(46, "3: how many TURNS' counts are not kept (PARTIES that have not as many OFFICES as they have TURNS)");
        // TURNS p, q, p: with r, too.
        due("kept", judge(x, "\0\1\0", 3, 3), 0);
        due("kept otherwise", judge(x, "\1\0\0", 7, 3), 0);
        due("two are not", judge(x, "\1\1\0", 3, 3), 2);
        due("all three are not", judge(x, "\0\2\2", 7, 3), 3);
        due("one for r in place of q", judge(x, "\0\2\0", 7, 3), 2);
        due("the lone one's", judge(x, "\0\0\0", 1, 3), 0);
        due("no ACT", x.about(7), 0);
        now(x, 0, -1);
        TurnCabinet none = of("party p seats 5 at 0;");
        for (int what = 0; what < 4; what++) due("without OFFICES", none.judge(1, what), 0);
    }

    private static void cabinetsThatAreNone() {
        promise(46, "-2: not just a byte for each OFFICE, a PARTY that is not in it");
        TurnCabinet x = of(offices(3) + "party p seats 5 at 0;party q seats 4 at 0;party r seats 1 at 0;");
        String[] told = {"", "\0", "\0\0", "\0\0\0\0", "\0\0\0 ", "\0\0\2", "\2\0\0", "\0\0\3", "\0\0\7", "\0\0\10", "\0\0\40", "\0\0\u0080",
            "\0\0\u00ff", "000"};
        for (int what = 0; what < 4; what++) {
            for (String cabinet : told) {
                due("judge(3, " + what + ") of " + cabinet.chars().boxed().toList(), judge(x, cabinet, 3, what), -2);
                promise(46, "The TAPE (empty then) is a CABINET of a COALITION");
                due("about(8)", x.about(8), 0);
                promise(46, "-2: not just a byte for each OFFICE, a PARTY that is not in it");
            }
        }
        TurnCabinet none = of("party p seats 5 at 0;");
        due("one byte without OFFICES", judge(none, "\0", 1, 0), -2);
        TurnCabinet all = of(offices(8) + "party p seats 5 at 0;party q seats 5 at 0;");
        due("eight bytes", judge(all, "\0\1\0\1\0\1\0\1", 3, 3), 0);
        due("nine bytes", judge(all, "\0\1\0\1\0\1\0\1\0", 3, 3), -2);
        due("seven bytes", judge(all, "\0\1\0\1\0\1\0", 3, 3), -2);
        due("900 bytes", judge(all, "\0".repeat(900), 3, 3), -2);
    }

    private static void refusedJudgements() {
        promise(46, "NONE, and the TAPE stays: no COALITION, another what");
        TurnCabinet x = of(offices(3) + "party p seats 5 at 0;party q seats 4 at 0;party r seats 1 at 0;");
        tell(x, "\1\0\1");
        for (int c : NO_COALITIONS) due("judge(" + c + ", 0)", x.judge(c, 0), -1);
        for (int what : NO_INDEX) due("judge(3, " + what + ")", x.judge(3, what), -1);
        due("no COALITION and another what", x.judge(0, 4), -1);
        due("about(8)", x.about(8), 3);
        due("the CABINET is still told", x.judge(3, 3), 2);
        due("about(8) then", x.about(8), 0);
        tell(x, "\1\0");
        due("NONE ahead of -2", x.judge(0, 0), -1);
        due("about(8) ahead of -2", x.about(8), 2);
        due("-2", x.judge(3, 0), -2);
        due("without PARTIES", new TurnCabinet().judge(1, 0), -1);
    }
}
