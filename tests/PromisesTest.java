/** Each promise by answers that were found by hand: ordinary inputs, the edges that the document names, wrong inputs. */
public final class PromisesTest extends Asking {
    // x, y, z have 50, 30, 20 of 100 SEATS: only with x there is a MAJORITY.
    private static final String WORTHS = "worth x a 9;worth x b 5;worth x c 1;worth y a 8;worth y b 7;worth y c 2;"
        + "worth z a 3;worth z b 4;worth z c 6;";
    private static final String THREE = "office a;office b;office c;party x seats 50 at 10;party y seats 30 at 40;"
        + "party z seats 20 at 90;care 1;" + WORTHS
        + "stance x a 9;stance x b 0;stance x c 5;stance y a 1;stance y b 4;stance y c 5;stance z b 9;stance z c 2;";
    // By TURNS x, y, z, x what is FORESEEN is not SETTLED: x has a, c, z has b, and both would rather exchange a, b.
    private static final String FOUR = "office a;office b;office c;office d;party x seats 50 at 0;party y seats 40 at 10;"
        + "party z seats 30 at 20;worth x a 6;worth x b 8;worth x c 4;worth x d 2;worth y a 8;worth y b 2;worth y c 4;"
        + "worth y d 6;worth z a 8;worth z b 6;worth z c 4;worth z d 2;";

    public static void main(String[] args) {
        newObject();
        tape();
        houseAndFault();
        faults();
        tellsTheHouse();
        turns();
        picks();
        middleAndPay();
        policyAndGrief();
        envyAndKept();
        kinds();
        rivals();
        beaten();
        beatenByAll();
        seatsNeeded();
        joining();
        forming();
        formingInRounds();
        holding();
        leaving();
        crises();
        trades();
        changesOfSeats();
        undoing();
        judging();
        constants();
        end();
    }

    // Promise 1
    private static void newObject() {
        TurnCabinet x = new TurnCabinet();
        int[] told = {0, 0, 1, 0, 1, 0, 0, 0, 0, 1, 1, -1};
        for (int what = 0; what < told.length; what++) due("new: about(" + what + ")", x.about(what), told[what]);
        due("new: formed(0)", x.formed(0), -1);
        due("new: now(-1)", x.now(-1), 0);
        due("new: median", x.median(), -1);
    }

    // Promises 2, 3
    private static void tape() {
        TurnCabinet x = new TurnCabinet();
        due("feed", x.feed(-1, 0, 1, 2, 3), 20);
        due("end(21)", x.end(21), -1);
        due("end(-1)", x.end(-1), -1);
        due("about(8)", x.about(8), 20);
        due("end(20)", x.end(20), 20);
        due("end(15)", x.end(15), 15);
        for (int n = 1; n <= 44; n++) due("feed " + n, x.feed(0, 0, 0, 0, 0), 15 + 20 * n);
        due("feed over 900", x.feed(0, 0, 0, 0, 0), -1);
        due("about(8) after it", x.about(8), 895);
        due("end(880)", x.end(880), 880);
        due("feed up to 900", x.feed(0, 0, 0, 0, 0), 900);
        due("end(0)", x.end(0), 0);
        due("end(0) again", x.end(0), 0);
        due("end(MAX)", x.end(Integer.MAX_VALUE), -1);
        // The highest byte of each number comes first: "care 7;" among them.
        x.feed('c' << 24 | 'a' << 16 | 'r' << 8 | 'e', ' ' << 24 | '7' << 16 | ';' << 8 | '\n', 0, 0, 0);
        x.end(8);
        due("house() of care 7;", x.house(), 0);
        due("about(3)", x.about(3), 7);
    }

    // Promises 4, 5
    private static void houseAndFault() {
        TurnCabinet x = new TurnCabinet();
        due("fault(0) ahead of any", x.fault(0), 0);
        due("fault(1) ahead of any", x.fault(1), -1);
        due("house() of nothing", x.house(), 0);
        tell(x, THREE);
        due("house()", x.house(), 3);
        due("the TAPE is empty", x.about(8), 0);
        due("fault(0)", x.fault(0), 0);
        due("fault(1)", x.fault(1), -1);
        due("fault(2)", x.fault(2), -1);
        due("fault(-1)", x.fault(-1), -1);
        x.hold(3, 1);
        tell(x, "office a; care 9; party x seats 0 at 0;");
        due("house() at a FAULT", x.house(), -1);
        due("fault(0) then", x.fault(0), 4);
        due("fault(1) then", x.fault(1), 32);
        due("the TAPE is empty, too", x.about(8), 0);
        due("the HOUSE stays", x.about(0), 3);
        due("the care stays", x.about(3), 1);
        due("NOW stays", x.now(-1), 3);
        due("ACTS stay", x.about(7), 1);
        tell(x, "party q seats 7 at 0;");
        due("another house()", x.house(), 1);
        due("its fault(0)", x.fault(0), 0);
        due("NOW is none", x.now(-1), 0);
        due("no ACTS", x.about(7), 0);
        due("undo() of none", x.undo(), -1);
        due("what is not told", x.about(3), 0);
        due("no OFFICES", x.about(1), 0);
        due("hold() without OFFICES", x.hold(1, 0), 0);
        due("now(-1) without OFFICES", x.now(-1), 1);
        due("leave() without OFFICES", x.leave(0), 0);
        due("now(-1) then", x.now(-1), 0);
    }

    // Promise 5, term 1
    private static void faults() {
        String two = "office a;party x seats 5 at 1;";
        fault("", 0, -1);
        fault(" \n ", 0, -1);
        fault("need 5;care 0;tries 9;tire 99;divisors 99 1;", 0, -1);
        fault("need5;care0;tries9;tire99;divisors 99\n001;", 0, -1);
        fault("need 5 ; party abcdef seats 1 at 0 walk 0;", 0, -1);
        fault("party x seats 999 at 99 walk 999 ;", 0, -1);
        // 1
        fault("#", 1, 0);
        fault("need\t5;", 1, 4);
        fault("Need 5;", 1, 0);
        fault("need 5\u00e9;", 1, 6);
        fault("need 5;`", 1, 7);
        fault("need 5;{", 1, 7);
        fault("need 5;/", 1, 7);
        fault("need 5;:", 1, 7);
        fault("need 5;\0", 1, 7);
        fault("abcdefghi", 1, 0);
        fault("need 1000;", 1, 5);
        fault("need 5a;", 1, 5);
        fault("need 12care 1;", 1, 5);
        fault("office abcdefghi;", 1, 7);
        fault("office 1a;", 1, 7);
        // 2
        fault("abcdefgh", 2, 0);
        fault(";", 2, 0);
        fault("5", 2, 0);
        fault("seats 5;", 2, 0);
        fault("at 5;", 2, 0);
        fault("walk 5;", 2, 0);
        fault("need", 2, 4);
        fault("need ", 2, 5);
        fault("need 5", 2, 6);
        fault("need 5 5;", 2, 7);
        fault("need ;", 2, 5);
        fault("need a;", 2, 5);
        fault("need 5;need 5;", 2, 7);
        fault("care 5;care 99;", 2, 7);
        fault("tries 5;tries 5;", 2, 8);
        fault("tire 5;tire 5;", 2, 7);
        fault("divisors 1 1;divisors 1 1;", 2, 13);
        fault("divisors 1;", 2, 10);
        fault("office abcdefg;", 2, 7);
        fault("office walk;", 2, 7);
        fault("office at;", 2, 7);
        fault("office seats;", 2, 7);
        fault("office bar;", 2, 7);
        fault("office worth;", 2, 7);
        fault("office stance;", 2, 7);
        fault("office need;", 2, 7);
        fault("office 5;", 2, 7);
        fault("office a b;", 2, 9);
        fault("party x at 5 seats 5;", 2, 8);
        fault("party x seats 5;", 2, 15);
        fault("party x seats 5 at 5 walk;", 2, 25);
        fault("party x seats 5 at 5 seats 5;", 2, 21);
        fault("party x seats 5 at 5 walk 5 walk 5;", 2, 28);
        fault(two + "worth x a;", 2, 39);
        fault(two + "bar x ;", 2, 36);
        fault(two + "worth party a 5;", 2, 36);
        // 3
        fault("office a;office a;", 3, 16);
        fault("office a;party a seats 1 at 1;", 3, 15);
        fault(two + "office x;", 3, 37);
        fault(two + "party x seats 1 at 1;", 3, 36);
        fault(two + "worth y a 5;", 3, 36);
        fault(two + "worth a a 5;", 3, 36);
        fault(two + "worth x x 5;", 3, 38);
        fault(two + "worth x b 5;", 3, 38);
        fault(two + "worth x a 0;worth x a 0;", 3, 50);
        fault(two + "stance x a 0;stance x a 99;", 3, 52);
        fault(two + "worth x a 5;stance x a 5;", 0, -1);
        fault(two + "bar x x;", 3, 36);
        fault(two + "bar a x;", 3, 34);
        fault(two + "bar x a;", 3, 36);
        fault(two + "party y seats 1 at 1;bar x y;bar y x;bar x y;", 0, -1);
        fault("worth x a 5;", 3, 6);
        // 4
        fault("need 0;", 4, 5);
        fault("care 10;", 4, 5);
        fault("tries 0;", 4, 6);
        fault("tries 10;", 4, 6);
        fault("tire 100;", 4, 5);
        fault("divisors 0 1;", 4, 9);
        fault("divisors 100 1;", 4, 9);
        fault("divisors 1 0;", 4, 11);
        fault("divisors 1 100;", 4, 11);
        fault("party x seats 0 at 5;", 4, 14);
        fault("party x seats 5 at 100;", 4, 19);
        fault(two + "worth x a 100;", 4, 40);
        fault(two + "stance x a 10;", 4, 41);
        // 5
        String eight = "office a;office b;office c;office d;office e;office f;office g;office h;";
        fault(eight, 0, -1);
        fault(eight + "office a;", 5, 72);
        fault(eight + "office", 5, 72);
        StringBuilder seven = new StringBuilder();
        for (char c = 'a'; c <= 'g'; c++) seven.append("party ").append(c).append(" seats 1 at 1;");
        fault(seven.toString(), 0, -1);
        fault(seven + "party #", 5, 147);
    }

    // Promises 6, 7, 8
    private static void tellsTheHouse() {
        TurnCabinet x = of("need 60;care 2;tries 3;tire 15;divisors 10 20;" + THREE.replace("care 1;", "")
            + "party q seats 7 at 3 walk 120;bar q x;bar x z;bar q x;");
        int[] about = {4, 3, 60, 2, 3, 15, 107, 0, 0, 10, 20};
        for (int what = 0; what < about.length; what++) due("about(" + what + ")", x.about(what), about[what]);
        due("about(11)", x.about(11), -1);
        due("about(-1)", x.about(-1), -1);
        int[] last = {7, 3, 120, 0, 1};
        for (int what = 0; what < last.length; what++) due("party(3, " + what + ")", x.party(3, what), last[what]);
        due("party(0, 4)", x.party(0, 4), 12);
        due("party(1, 4)", x.party(1, 4), 0);
        due("party(2, 2)", x.party(2, 2), 0);
        due("party(0, 5)", x.party(0, 5), -1);
        due("party(0, -1)", x.party(0, -1), -1);
        due("party(4, 0)", x.party(4, 0), -1);
        due("party(-1, 0)", x.party(-1, 0), -1);
        due("worth(1, 1)", x.worth(1, 1), 7);
        due("worth(3, 2)", x.worth(3, 2), 0);
        due("worth(4, 0)", x.worth(4, 0), -1);
        due("worth(0, 3)", x.worth(0, 3), -1);
        due("worth(0, -1)", x.worth(0, -1), -1);
        due("need of 100", of(THREE).about(2), 51);
        due("need of 7", of("party q seats 7 at 0;").about(2), 4);
    }

    // Promises 9, 10
    private static void turns() {
        TurnCabinet x = of(THREE);
        due("turn(3, 0)", x.turn(3, 0), 0);
        due("turn(3, 1)", x.turn(3, 1), 1);
        due("turn(3, 2)", x.turn(3, 2), 0);
        due("turn(5, 1)", x.turn(5, 1), 0);
        due("turn(5, 2)", x.turn(5, 2), 2);
        due("turn(6, 1)", x.turn(6, 1), 2);
        due("turn(3, 3)", x.turn(3, 3), -1);
        due("turn(3, -1)", x.turn(3, -1), -1);
        due("turn(0, 0)", x.turn(0, 0), -1);
        due("turn(8, 0)", x.turn(8, 0), -1);
        due("turn(-1, 0)", x.turn(-1, 0), -1);
        // By 10, 20, 40: x 50 : 10, then x 50 : 30 is less than z 20 : 10.
        due("turnBy(5, 10, 20, 1)", x.turnBy(5, 10, 20, 1), 2);
        due("turnBy(5, 10, 20, 2)", x.turnBy(5, 10, 20, 2), 0);
        due("turnBy(5, 99, 1, 2)", x.turnBy(5, 99, 1, 2), 0);
        due("turnBy(5, 0, 1, 0)", x.turnBy(5, 0, 1, 0), -1);
        due("turnBy(5, 1, 0, 0)", x.turnBy(5, 1, 0, 0), -1);
        due("turnBy(5, 100, 1, 0)", x.turnBy(5, 100, 1, 0), -1);
        due("turnBy(5, 1, 100, 0)", x.turnBy(5, 1, 100, 0), -1);
        due("turnBy(5, 1, 1, 3)", x.turnBy(5, 1, 1, 3), -1);
        due("turnBy(8, 1, 1, 0)", x.turnBy(8, 1, 1, 0), -1);
        // 20 : 1 is like 40 : 2: the one with more SEATS; 20 : 1 twice: the least one.
        TurnCabinet like = of("office a;office b;office c;office d;party p seats 20 at 0;party q seats 40 at 0;party r seats 20 at 0;");
        int[] due = {1, 1, 0, 2};
        for (int i = 0; i < 4; i++) due("of like ones turn(7, " + i + ")", like.turn(7, i), due[i]);
        due("told divisors", of("divisors 10 20;" + THREE).turn(5, 1), 2);
    }

    // Promises 11, 12, 13, 14
    private static void picks() {
        TurnCabinet x = of(FOUR);
        int[][] gets = {{1, 0, 2, 0}, {0, 2, 0, 1}, {2, 0, 0, 1}};
        for (int way = 0; way < 3; way++) {
            for (int o = 0; o < 4; o++) due("gets(7, " + way + ", " + o + ")", x.gets(7, way, o), gets[way][o]);
        }
        due("gets(7, 3, 0)", x.gets(7, 3, 0), -1);
        due("gets(7, -1, 0)", x.gets(7, -1, 0), -1);
        due("gets(7, 1, 4)", x.gets(7, 1, 4), -1);
        due("gets(7, 1, -1)", x.gets(7, 1, -1), -1);
        due("gets(8, 1, 0)", x.gets(8, 1, 0), -1);
        due("has(7, 0, 0)", x.has(7, 0, 0), 10);
        due("has(7, 1, 0)", x.has(7, 1, 0), 10);
        due("has(7, 2, 0)", x.has(7, 2, 0), 12);
        due("has(7, 2, 2)", x.has(7, 2, 2), 8);
        due("has(3, 1, 2)", x.has(3, 1, 2), 0);
        due("has(3, 1, 3)", x.has(3, 1, 3), -1);
        due("has(3, 1, -1)", x.has(3, 1, -1), -1);
        due("has(3, 3, 2)", x.has(3, 3, 2), -1);
        due("has(0, 1, 2)", x.has(0, 1, 2), -1);
        due("swaps(7)", x.swaps(7), 1);
        due("swaps(1)", x.swaps(1), 0);
        due("swaps(0)", x.swaps(0), -1);
        int[] first = {10, 10, 6, 6};
        for (int o = 0; o < 4; o++) due("instead(7, 0, " + o + ")", x.instead(7, 0, o), first[o]);
        due("instead(7, 1, 0)", x.instead(7, 1, 0), -1);
        due("instead(7, 1, 1)", x.instead(7, 1, 1), 2);
        due("instead(7, 1, 3)", x.instead(7, 1, 3), 6);
        due("instead(7, 3, 2)", x.instead(7, 3, 2), 10);
        due("instead(7, 3, 3)", x.instead(7, 3, 3), -1);
        due("instead(7, 4, 2)", x.instead(7, 4, 2), -1);
        due("instead(7, -1, 2)", x.instead(7, -1, 2), -1);
        due("instead(7, 0, 4)", x.instead(7, 0, 4), -1);
        due("instead(8, 0, 0)", x.instead(8, 0, 0), -1);
        TurnCabinet same = of("office a;office b;party p seats 2 at 0;party q seats 2 at 0;worth p a 5;worth p b 5;");
        due("SHORT of like ones", same.gets(3, 0, 0), 0);
        due("FORESEEN of like ones", same.gets(3, 1, 0), 0);
        // With most to have: 8 OFFICES of 99 for one, and seven PARTIES.
        StringBuilder most = new StringBuilder();
        for (char c = 'a'; c <= 'h'; c++) most.append("office ").append(c).append(';');
        for (char c = 'p'; c <= 'v'; c++) most.append("party ").append(c).append(" seats 9 at 0;");
        for (char c = 'a'; c <= 'h'; c++) most.append("worth p ").append(c).append(" 99;worth v ").append(c).append(" 99;");
        TurnCabinet full = of(most.toString());
        due("all of 99", full.has(1, 1, 0), 792);
        due("half of 99", full.has(65, 1, 6), 396);
        due("two of 99", full.has(127, 1, 0), 198);
        due("one of 99", full.has(127, 1, 6), 99);
        due("instead with seven", full.instead(127, 0, 7), 198);
    }

    // Promises 15, 16
    private static void middleAndPay() {
        TurnCabinet x = of(THREE);
        int[] middle = {-1, 10, 40, 21, 90, 32, 60, 35, -1};
        for (int c = 0; c < 9; c++) due("middle(" + c + ")", x.middle(c), middle[c]);
        due("pay(3, 0)", x.pay(3, 0), 89);
        due("pay(3, 1)", x.pay(3, 1), 51);
        due("pay(3, 2)", x.pay(3, 2), -69);
        due("pay(5, 0)", x.pay(5, 0), 118);
        due("pay(6, 0)", x.pay(6, 0), -50);
        due("pay(6, 1)", x.pay(6, 1), 130);
        due("pay(6, 3)", x.pay(6, 3), NO);
        due("pay(6, -1)", x.pay(6, -1), NO);
        due("pay(0, 0)", x.pay(0, 0), NO);
        due("pay(8, 0)", x.pay(8, 0), NO);
        // PAY is by what is FORESEEN, not by what is SETTLED.
        due("pay of FOUR", of(FOUR).pay(7, 0), 100);
    }

    // Promises 17, 18
    private static void policyAndGrief() {
        TurnCabinet x = of(THREE);
        due("policy(3, 1, 0)", x.policy(3, 1, 0), 9);
        due("policy(3, 1, 1)", x.policy(3, 1, 1), 4);
        due("policy(5, 1, 2)", x.policy(5, 1, 2), 2);
        due("policy(5, 3, 2)", x.policy(5, 3, 2), -1);
        due("policy(5, 1, 3)", x.policy(5, 1, 3), -1);
        due("policy(0, 1, 2)", x.policy(0, 1, 2), -1);
        int[][] grief = {{20, 64, 65}, {3, 98, 63}};
        for (int p = 0; p < 3; p++) {
            due("grief(3, 1, " + p + ")", x.grief(3, 1, p), grief[0][p]);
            due("grief(5, 1, " + p + ")", x.grief(5, 1, p), grief[1][p]);
        }
        due("grief(5, 1, 3)", x.grief(5, 1, 3), -1);
        due("grief(5, -1, 0)", x.grief(5, -1, 0), -1);
        due("grief(9, 1, 0)", x.grief(9, 1, 0), -1);
        TurnCabinet y = of(FOUR + "stance x a 1;stance y a 2;stance z a 4;");
        int[] ways = {2, 1, 4};
        int[] griefs = {16, 24, 0};
        for (int way = 0; way < 3; way++) {
            due("policy(7, " + way + ", 0)", y.policy(7, way, 0), ways[way]);
            due("grief(7, " + way + ", 2)", y.grief(7, way, 2), griefs[way]);
        }
    }

    // Promises 19, 20
    private static void envyAndKept() {
        TurnCabinet x = of(THREE);
        due("envy(3, 1)", x.envy(3, 1), 1);
        due("envy(5, 1)", x.envy(5, 1), 1);
        due("envy(7, 1)", x.envy(7, 1), 3);
        due("envy(1, 1)", x.envy(1, 1), 0);
        due("envy(7, 3)", x.envy(7, 3), -1);
        due("envy(0, 1)", x.envy(0, 1), -1);
        // FORESEEN y has d (6; x's a, c are 12), z has b (6; x's 12). SETTLED x has b, c: y (6; 6), z (8; 10).
        TurnCabinet y = of(FOUR);
        due("envy(7, 1) of FOUR", y.envy(7, 1), 2);
        due("envy(7, 2) of FOUR", y.envy(7, 2), 2);
        due("kept(3, 0)", x.kept(3, 0), 17);
        due("kept(3, 1)", x.kept(3, 1), 7);
        due("kept(5, 0)", x.kept(5, 0), 20);
        due("kept(5, 1)", x.kept(5, 1), 6);
        due("kept(7, 1): z has no TURN", x.kept(7, 1), 7);
        due("kept(3, 2)", x.kept(3, 2), -1);
        due("kept(3, -1)", x.kept(3, -1), -1);
        due("kept(0, 0)", x.kept(0, 0), -1);
        // The document leaves this one open; NOTES.md tells how it was read.
        for (int what = 0; what < 2; what++) due("kept(1, " + what + ") without OFFICES", of("party p seats 5 at 0;").kept(1, what), 0);
        // Together most: p both of 9 and 8 to it can't be, it has one TURN; at least: 5 and 4 rather than 9 and 1.
        TurnCabinet z = of("office a;office b;party p seats 5 at 0;party q seats 5 at 0;worth p a 9;worth p b 5;worth q a 4;worth q b 1;");
        due("kept together", z.kept(3, 0), 10);
        due("kept at least", z.kept(3, 1), 4);
    }

    // Promises 21, 22, 23
    private static void kinds() {
        TurnCabinet x = of(THREE);
        int[] kinds = {-1, 10, 10, 15, 10, 23, 10, 11, -1};
        for (int c = 0; c < 9; c++) due("kind(" + c + ")", x.kind(c), kinds[c]);
        due("many(0)", x.many(0), 7);
        due("many(1)", x.many(1), 3);
        due("many(8)", x.many(8), 6);
        due("many(16)", x.many(16), 1);
        due("many(4)", x.many(4), 2);
        due("many(31)", x.many(31), 0);
        due("many(32)", x.many(32), -1);
        due("many(-1)", x.many(-1), -1);
        due("nth(8, 3)", x.nth(8, 3), 4);
        due("nth(0, 0)", x.nth(0, 0), 1);
        due("nth(0, 6)", x.nth(0, 6), 7);
        due("nth(16, 0)", x.nth(16, 0), 5);
        due("nth(1, 1)", x.nth(1, 1), 5);
        due("nth(1, 3)", x.nth(1, 3), -1);
        due("nth(1, -1)", x.nth(1, -1), -1);
        due("nth(32, 0)", x.nth(32, 0), -1);
        due("nth(-1, 0)", x.nth(-1, 0), -1);
        TurnCabinet barred = of(THREE + "bar x z;");
        due("barred kind(5)", barred.kind(5), 5);
        due("barred kind(7)", barred.kind(7), 9);
        due("barred kind(3): its RIVAL can't be", barred.kind(3), 31);
        // A PARTY at the least or the greatest PLACE does not part them.
        TurnCabinet edge = of("party p seats 5 at 3;party q seats 5 at 3;party r seats 5 at 9;party s seats 5 at 9;party t seats 5 at 8;");
        due("connected with one at its edge", edge.kind(1 | 16) & 8, 8);
        due("parted", edge.kind(1 | 4) & 8, 0);
        due("not parted by like ones", edge.kind(1 | 4 | 16) & 8, 8);
    }

    // Promises 24, 33, 34
    private static void rivals() {
        TurnCabinet x = of(THREE);
        // {y} alone has 170, but x and z have none, and more by {x, z}; against {z} alone x and y have more by {x, y}.
        int[] rivals = {-1, 0, 5, 5, 3, 0, 0, 5, -1};
        for (int c = 0; c < 9; c++) due("rival(" + c + ")", x.rival(c), rivals[c]);
        due("dream(0)", x.dream(0), 5);
        due("dream(1)", x.dream(1), 7);
        due("dream(2)", x.dream(2), 5);
        due("dream(3)", x.dream(3), -1);
        due("dream(-1)", x.dream(-1), -1);
        due("dream without any that CAN be", of("need 999;party p seats 9 at 0;").dream(0), 0);
        due("drift(3, 0)", x.drift(3, 0), 1);
        due("drift(3, 1)", x.drift(3, 1), 5);
        due("drift(4, 0)", x.drift(4, 0), 2);
        due("drift(4, 1)", x.drift(4, 1), 5);
        due("drift(1, 0)", x.drift(1, 0), 0);
        due("drift(1, 1)", x.drift(1, 1), 1);
        due("drift(3, 2)", x.drift(3, 2), -1);
        due("drift(3, -1)", x.drift(3, -1), -1);
        due("drift(0, 0)", x.drift(0, 0), -1);
        due("drift(8, 0)", x.drift(8, 0), -1);
        // PAY of x, y, z by {x, y}: 24, -4, -2; by {x, z}: -4, -6, 20; by {y, z}: -8, -2, 16; by all: -6, -4, 18.
        TurnCabinet round = of("care 2;office a;party x seats 3 at 8;party y seats 3 at 3;party z seats 4 at 6;"
            + "worth x a 3;worth z a 2;");
        int[] next = {-1, 6, 5, 6, 3, 3, 5, 5};
        for (int c = 0; c < 8; c++) due("round: rival(" + c + ")", round.rival(c), next[c]);
        due("round: drift(3, 0)", round.drift(3, 0), 2);
        due("round: drift(3, 1)", round.drift(3, 1), 0);
        due("round: drift(1, 0)", round.drift(1, 0), 3);
        due("round: drift(1, 1)", round.drift(1, 1), 0);
        due("round: none HOLDS", round.many(16), 0);
        // Only all together CAN be: 6, -2, -4 (x has c, y has a, each 1) rather than 2, -8, -8.
        TurnCabinet all = of("care 2;need 8;office a;office b;office c;party x seats 3 at 1;party y seats 3 at 9;"
            + "party z seats 3 at 1;worth x c 1;worth y a 1;");
        due("rival: all together", all.rival(3), 7);
        due("rival of the only one", all.rival(7), 0);
        due("dream: all together", all.dream(2), 7);
        due("drift: to all together", all.drift(3, 1), 7);
    }

    // Promises 25, 26
    private static void beaten() {
        TurnCabinet x = of(THREE);
        due("beats(5, 3)", x.beats(5, 3), 1);
        due("beats(3, 5)", x.beats(3, 5), 0);
        due("beats(5, 7)", x.beats(5, 7), 1);
        due("beats(3, 7)", x.beats(3, 7), 0);
        due("beats(3, 3)", x.beats(3, 3), 0);
        due("beats(0, 3)", x.beats(0, 3), -1);
        due("beats(3, 8)", x.beats(3, 8), -1);
        due("unbeaten(-1)", x.unbeaten(-1), 1);
        due("unbeaten(0)", x.unbeaten(0), 5);
        due("unbeaten(1)", x.unbeaten(1), -1);
        due("unbeaten(-2)", x.unbeaten(-2), -1);
        // The one that would beat the others can't be.
        TurnCabinet barred = of(THREE + "bar x z;");
        due("barred beats(5, 3)", barred.beats(5, 3), 1);
        due("barred unbeaten(-1)", barred.unbeaten(-1), 1);
        due("barred unbeaten(0)", barred.unbeaten(0), 3);
    }

    // Promise 26: GRIEF of x, y, z by {x, y}: 9, 0, 8; by {x, z}: 0, 0, 8; by {y, z}: 13, 0, 0; by all: 4, 0, 0.
    private static void beatenByAll() {
        TurnCabinet x = of("office a;office b;office c;party x seats 2 at 5;party y seats 3 at 8;party z seats 2 at 7;"
            + "worth x a 3;worth x b 2;worth y c 3;worth z b 4;worth z c 2;stance x b 2;stance y a 3;");
        due("beats(7, 3) by just what is needed", x.beats(7, 3), 1);
        due("beats(5, 3)", x.beats(5, 3), 0);
        due("beats(6, 3)", x.beats(6, 3), 0);
        int[] unbeaten = {5, 6, 7, -1};
        for (int k = 0; k < 4; k++) due("unbeaten(" + k + ")", x.unbeaten(k), unbeaten[k]);
        due("unbeaten(-1)", x.unbeaten(-1), 3);
    }

    // Promises 27, 28, 29, 30, 31
    private static void seatsNeeded() {
        TurnCabinet x = of(THREE);
        due("enough(3, 1)", x.enough(3, 1), 1);
        due("enough(6, 1)", x.enough(6, 1), 31);
        due("enough(4, 2)", x.enough(4, 2), 81);
        due("enough(4, 1)", x.enough(4, 1), -1);
        due("enough(4, 3)", x.enough(4, 3), -1);
        due("enough(0, 0)", x.enough(0, 0), -1);
        due("enough by a need that is told", of("need 60;" + THREE).enough(6, 1), 40);
        due("enough of 999", of("need 999;" + THREE).enough(4, 2), 999);
        due("enough by none", of("party p seats 999 at 0;party q seats 1 at 0;").enough(2, 1), -1);
        due("SEATS stay", x.party(1, 0), 30);
        due("span(3)", x.span(3), 30);
        due("span(7)", x.span(7), 80);
        due("span(2)", x.span(2), 0);
        due("span(0)", x.span(0), -1);
        due("span(8)", x.span(8), -1);
        due("median of half", x.median(), 0);
        due("median", of("party p seats 50 at 9;party q seats 30 at 4;party r seats 20 at 4;party s seats 1 at 5;").median(), 3);
        due("median of like ones", of("party p seats 2 at 9;party q seats 2 at 4;party r seats 2 at 4;").median(), 2);
        int[] needed = {3, 1, 1};
        int[] pivot = {4, 1, 1};
        for (int p = 0; p < 3; p++) {
            due("needed(" + p + ")", x.needed(p), needed[p]);
            due("pivot(" + p + ")", x.pivot(p), pivot[p]);
        }
        due("needed(3)", x.needed(3), -1);
        due("pivot(3)", x.pivot(3), -1);
        due("needed(-1)", x.needed(-1), -1);
        due("pivot(-1)", x.pivot(-1), -1);
        TurnCabinet none = of("need 999;party p seats 9 at 0;");
        due("needed without a MAJORITY", none.needed(0), 0);
        due("pivot without a MAJORITY", none.pivot(0), 0);
        StringBuilder seven = new StringBuilder();
        for (char c = 'a'; c <= 'g'; c++) seven.append("party ").append(c).append(" seats 1 at 1;");
        due("pivot of seven", of(seven.toString()).pivot(6), 720);
        due("needed of seven", of(seven.toString()).needed(6), 20);
    }

    // Promise 32
    private static void joining() {
        TurnCabinet x = of(THREE);
        int[] joins = {-1, 2, 1, 0, 1, 0, 1, 0, -1};
        for (int c = 0; c < 9; c++) due("joins(" + c + ")", x.joins(c), joins[c]);
        TurnCabinet barred = of(THREE + "bar y z;");
        due("joins of barred ones", barred.joins(6), -1);
        due("joins where none can", of("need 999;" + THREE).joins(1), -1);
        TurnCabinet few = of("party p seats 3 at 0;party q seats 2 at 0;party r seats 2 at 0;party s seats 4 at 0;");
        due("the fewest", few.joins(1), 8);
        due("of as few the least", few.joins(2), 8);
        due("two are needed", of("need 9;party p seats 3 at 0;party q seats 3 at 0;party r seats 3 at 0;party s seats 9 at 0;bar p s;").joins(1), 6);
    }

    // Promises 35, 36
    private static void forming() {
        TurnCabinet x = of(THREE);
        int[] formed = {5, 1, 1, 0, -1};
        for (int what = 0; what < 5; what++) due("formed(" + what + ")", x.formed(what), formed[what]);
        int[] tried = {0, 5, 0, -1};
        for (int what = 0; what < 4; what++) due("tried(0, " + what + ")", x.tried(0, what), tried[what]);
        due("tried(1, 0)", x.tried(1, 0), -1);
        due("tried(-1, 0)", x.tried(-1, 0), -1);
        due("formed(-1)", x.formed(-1), -1);
        TurnCabinet none = of("need 999;party p seats 9 at 0;");
        int[] without = {0, 0, 9, -1};
        for (int what = 0; what < 4; what++) due("none: formed(" + what + ")", none.formed(what), without[what]);
        TurnCabinet empty = new TurnCabinet();
        due("without PARTIES", empty.formed(2), -1);
        due("tried without PARTIES", empty.tried(0, 0), -1);
    }

    private static void formingInRounds() {
        // x wants 100 (it has 118 by {x, z}), z wants 32 (it has 2): 30 less are enough, by two ROUNDS of 15.
        String walks = THREE.replace("at 10;", "at 10 walk 100;").replace("at 90;", "at 90 walk 32;") + "tire 15;";
        TurnCabinet x = of(walks);
        // ROUND 1: x tries {x, z}: z walks out. y tries all (65; by {x, y} 51): x (75) and z (-55) walk out. For z there
        // is none left that was not tried. ROUND 2: z wants 17, x 85: the same. ROUND 3: z wants 2.
        int[] formed = {5, 5, 3, 0};
        for (int what = 0; what < 4; what++) due("walks: formed(" + what + ")", x.formed(what), formed[what]);
        int[][] tries = {{0, 5, 4}, {1, 7, 5}, {0, 5, 4}, {1, 7, 5}, {0, 5, 0}};
        for (int i = 0; i < 5; i++) {
            for (int what = 0; what < 3; what++) due("walks: tried(" + i + ", " + what + ")", x.tried(i, what), tries[i][what]);
        }
        due("walks: tried(5, 0)", x.tried(5, 0), -1);
        // With two TRIES x goes on with {x, y} (89), by which it walks out itself in ROUND 1.
        TurnCabinet two = of(walks + "tries 2;");
        int[][] more = {{0, 5, 4}, {0, 3, 1}, {1, 7, 5}, {0, 5, 4}, {0, 3, 0}};
        for (int i = 0; i < 5; i++) {
            for (int what = 0; what < 3; what++) due("two: tried(" + i + ", " + what + ")", two.tried(i, what), more[i][what]);
        }
        due("two: formed(0)", two.formed(0), 3);
        due("two: formed(1)", two.formed(1), 5);
        due("two: formed(2)", two.formed(2), 2);
        // Nobody tires: nine ROUNDS of what fails.
        TurnCabinet never = of(walks.replace("tire 15;", ""));
        due("never: formed(0)", never.formed(0), 0);
        due("never: formed(1)", never.formed(1), 18);
        due("never: formed(2)", never.formed(2), 9);
        due("never: formed(3)", never.formed(3), 1);
        due("never: tried(17, 1)", never.tried(17, 1), 7);
        due("never: tried(18, 1)", never.tried(18, 1), -1);
        // Of like PAY the fewest PARTIES, then the least number; FORMERS of like SEATS: the least first.
        TurnCabinet like = of("party p seats 5 at 0;party q seats 5 at 0;party r seats 5 at 0 walk 1;tries 9;");
        int[] due = {3, 1, 1, 0};
        for (int what = 0; what < 4; what++) due("like: formed(" + what + ")", like.formed(what), due[what]);
        // SEATS make FORMERS, and what is FORMED follows them.
        like.seats(2, 6);
        int[] then = {3, 4, 1, 0};
        for (int what = 0; what < 4; what++) due("then: formed(" + what + ")", like.formed(what), then[what]);
        due("then: tried(0, 1)", like.tried(0, 1), 5);
        due("then: tried(1, 1)", like.tried(1, 1), 6);
        due("then: tried(2, 1)", like.tried(2, 1), 7);
    }

    // Promises 37, 38, 40, 44, 6
    private static void holding() {
        TurnCabinet x = of(THREE);
        due("now(0) without NOW", x.now(0), -1);
        due("payNow(0) without NOW", x.payNow(0), NO);
        due("above() without NOW", x.above(), NO);
        due("hold(8, 0)", x.hold(8, 0), -1);
        due("hold(0, 0)", x.hold(0, 0), -1);
        due("hold(3, 3)", x.hold(3, 3), -1);
        due("hold(3, -1)", x.hold(3, -1), -1);
        due("no ACT", x.about(7), 0);
        due("hold(7, 1)", x.hold(7, 1), 2);
        due("now(-1)", x.now(-1), 7);
        due("hold(3, 1)", x.hold(3, 1), 2);
        int[] now = {0, 1, 0, -1};
        for (int o = 0; o < 4; o++) due("now(" + o + ")", x.now(o), now[o]);
        due("now(-2)", x.now(-2), -1);
        due("party(0, 3)", x.party(0, 3), 2);
        due("party(2, 3)", x.party(2, 3), 0);
        due("payNow(0)", x.payNow(0), 89);
        due("payNow(2)", x.payNow(2), -69);
        due("payNow(3)", x.payNow(3), NO);
        due("payNow(-1)", x.payNow(-1), NO);
        due("above()", x.above(), 29);
        due("two ACTS", x.about(7), 2);
        due("hold(4, 2)", x.hold(4, 2), 1);
        due("above() below 0", x.above(), -31);
        TurnCabinet y = of(FOUR);
        for (int way = 0; way < 3; way++) {
            y.hold(7, way);
            for (int o = 0; o < 4; o++) due("held by " + way + ": " + o, y.now(o), y.gets(7, way, o));
        }
    }

    // Promise 39
    private static void leaving() {
        TurnCabinet x = of(THREE);
        due("leave(0) without NOW", x.leave(0), -1);
        x.hold(3, 1);
        due("leave(2)", x.leave(2), -1);
        due("leave(3)", x.leave(3), -1);
        due("leave(-1)", x.leave(-1), -1);
        due("no ACT", x.about(7), 1);
        due("leave(0)", x.leave(0), 2);
        due("now(-1)", x.now(-1), 2);
        due("now(0)", x.now(0), 1);
        due("now(2)", x.now(2), 1);
        due("leave(1)", x.leave(1), 3);
        due("now(-1) of none", x.now(-1), 0);
        due("now(0) of none", x.now(0), -1);
        due("party(1, 3) of none", x.party(1, 3), 0);
        due("about(7)", x.about(7), 3);
        // x goes: a, c are free. y holds d, z holds b: y 40 : 2 takes a (8), then z 30 : 2 is more than y 40 : 3: c.
        TurnCabinet y = of(FOUR);
        y.hold(7, 1);
        due("leave(0) of FOUR", y.leave(0), 2);
        int[] now = {1, 2, 2, 1};
        for (int o = 0; o < 4; o++) due("then now(" + o + ")", y.now(o), now[o]);
        // One that holds none leaves: nothing is free. Of like worths the least OFFICE is taken.
        TurnCabinet z = of("office a;office b;party p seats 9 at 0;party q seats 1 at 0;");
        z.hold(3, 0);
        due("leave(1) with none", z.leave(1), 0);
        due("p stays", z.now(1), 0);
        // Of like SEATS by DIVISORS (8 : 2, 4 : 1) the one with more SEATS.
        TurnCabinet like = of("office a;office b;party p seats 4 at 0;party q seats 8 at 0;party r seats 9 at 0;");
        like.hold(7, 0);
        due("like: leave(2)", like.leave(2), 1);
        due("like: now(0)", like.now(0), 1);
    }

    // Promise 41
    private static void crises() {
        TurnCabinet x = of(THREE.replace("at 10;", "at 10 walk 75;").replace("at 40;", "at 40 walk 66;"));
        due("crisis() without NOW", x.crisis(), 0);
        // {x, y, z}: x has 75 (enough), y 65 (less than 66), z -55 (less than 0): y leaves. Then x takes all: x 50 : 3 is
        // less than z 20 : 1, which takes b (4): x has 100 - 22, z 40 - 58: z leaves. x has all (150).
        x.hold(7, 1);
        due("crisis()", x.crisis(), 2);
        due("now(-1)", x.now(-1), 1);
        due("now(1)", x.now(1), 0);
        due("one ACT", x.about(7), 2);
        due("crisis() of none", x.crisis(), 0);
        due("no ACT", x.about(7), 2);
        due("undo()", x.undo(), 1);
        due("now(-1) again", x.now(-1), 7);
        due("now(1) again", x.now(1), 1);
        TurnCabinet all = of("office a;party p seats 5 at 0 walk 1;party q seats 5 at 0 walk 1;");
        all.hold(3, 0);
        due("all leave", all.crisis(), 2);
        due("NOW is none", all.now(-1), 0);
        due("again", all.crisis(), 0);
        StringBuilder seven = new StringBuilder("office o;");
        for (char c = 'a'; c <= 'g'; c++) seven.append("party ").append(c).append(" seats 1 at 1 walk 999;");
        TurnCabinet many = of(seven.toString());
        many.hold(127, 0);
        due("seven leave", many.crisis(), 7);
        due("undo() of seven", many.undo(), 1);
        due("all are in office again", many.now(-1), 127);
        TurnCabinet like = of("office a;party p seats 5 at 0 walk 10;worth p a 1;");
        like.hold(1, 0);
        due("as much as it wants", like.crisis(), 0);
    }

    // Promise 42
    private static void trades() {
        TurnCabinet x = of(THREE);
        due("trade() without NOW", x.trade(0, 1), NO);
        x.hold(3, 1);
        due("trade(0, 2) of one PARTY", x.trade(0, 2), NO);
        due("trade(0, 0)", x.trade(0, 0), NO);
        due("trade(0, 3)", x.trade(0, 3), NO);
        due("trade(-1, 1)", x.trade(-1, 1), NO);
        due("no ACT", x.about(7), 1);
        due("trade(0, 1)", x.trade(0, 1), -3);
        due("now(0)", x.now(0), 1);
        due("now(1)", x.now(1), 0);
        due("now(2)", x.now(2), 0);
        due("payNow(0)", x.payNow(0), 49);
        due("an ACT", x.about(7), 2);
        due("trade(1, 0)", x.trade(1, 0), 3);
        due("now(0) again", x.now(0), 0);
    }

    // Promise 43
    private static void changesOfSeats() {
        TurnCabinet x = of(THREE);
        x.hold(3, 1);
        due("seats(1, 30)", x.seats(1, 30), -1);
        due("seats(1, 0)", x.seats(1, 0), -1);
        due("seats(1, 1000)", x.seats(1, 1000), -1);
        due("seats(1, -5)", x.seats(1, -5), -1);
        due("seats(3, 5)", x.seats(3, 5), -1);
        due("seats(-1, 5)", x.seats(-1, 5), -1);
        due("no ACT", x.about(7), 1);
        due("rival(7) ahead", x.rival(7), 5);
        due("formed(0) ahead", x.formed(0), 5);
        due("seats(0, 3)", x.seats(0, 3), 50);
        due("party(0, 0)", x.party(0, 0), 3);
        due("about(6)", x.about(6), 53);
        due("about(2)", x.about(2), 27);
        due("an ACT", x.about(7), 2);
        due("OFFICES stay", x.now(0), 0);
        due("above()", x.above(), 6);
        due("payNow(0): (30 + 1200) / 33 is 37", x.payNow(0), 73);
        due("turn(3, 0)", x.turn(3, 0), 1);
        due("has(3, 1, 0)", x.has(3, 1, 0), 0);
        due("kind(2)", x.kind(2) & 7, 7);
        due("median()", x.median(), 1);
        due("needed(0)", x.needed(0), 0);
        due("beats(5, 3): by the SEATS of x and z that are 23 now", x.beats(5, 3), 0);
        due("undo()", x.undo(), 1);
        due("party(0, 0) again", x.party(0, 0), 50);
        due("rival(7) again", x.rival(7), 5);
        due("formed(0) again", x.formed(0), 5);
        due("kind(2) again", x.kind(2), 10);
        due("a told need stays", of("need 60;" + THREE).about(2), 60);
        due("seats(0, 999)", x.seats(0, 999), 50);
        due("seats(0, 1)", x.seats(0, 1), 999);
    }

    // Promise 45
    private static void undoing() {
        TurnCabinet x = of(THREE);
        due("undo() of none", x.undo(), -1);
        for (int n = 1; n <= 14; n++) {
            x.seats(2, 20 + n);
            due("about(7) after " + n, x.about(7), Math.min(n, 12));
        }
        for (int n = 11; n >= 0; n--) {
            due("undo()", x.undo(), n);
            due("party(2, 0)", x.party(2, 0), 22 + n);
        }
        due("undo() of those that went", x.undo(), -1);
        due("party(2, 0) stays", x.party(2, 0), 22);
        x.hold(3, 1);
        x.trade(0, 1);
        x.seats(0, 60);
        x.leave(1);
        x.hold(4, 0);
        int[] now = {1, 3, 3, 3, 0};
        int[] seats = {60, 60, 50, 50, 50};
        int[] office = {0, 1, 1, 0, -1};
        for (int n = 0; n < 5; n++) {
            due("undo() " + n, x.undo(), 4 - n);
            due("now(-1) " + n, x.now(-1), now[n]);
            due("party(0, 0) " + n, x.party(0, 0), seats[n]);
            due("now(0) " + n, x.now(0), office[n]);
        }
        x.hold(3, 1);
        x.hold(5, 1);
        x.undo();
        due("an ACT behind an UNDO", x.hold(6, 1), 2);
        due("undo() of it", x.undo(), 1);
        due("now(-1)", x.now(-1), 3);
    }

    // Promise 46
    private static void judging() {
        TurnCabinet x = of(FOUR);
        // x a, z b, x c, y d: 6 + 6 + 4 + 6; the most are 8 + 8 + 4 + 6.
        int[] told = {1, 22, 4, 0};
        for (int what = 0; what < 4; what++) {
            tell(x, "\0\2\0\1");
            due("judge(7, " + what + ")", x.judge(7, what), told[what]);
            due("the TAPE is empty", x.about(8), 0);
        }
        // z a, y b, y c, x d: x and y would both rather exchange b, d (8 and 6 for 2 and 2), or c, d.
        int[] other = {2, 16, 10, 2};
        for (int what = 0; what < 4; what++) {
            tell(x, "\2\1\1\0");
            due("the other judge(7, " + what + ")", x.judge(7, what), other[what]);
        }
        tell(x, "\0\2\0\1");
        due("judge(7, 4)", x.judge(7, 4), -1);
        due("judge(7, -1)", x.judge(7, -1), -1);
        due("judge(0, 0)", x.judge(0, 0), -1);
        due("judge(8, 0)", x.judge(8, 0), -1);
        due("the TAPE stays", x.about(8), 4);
        due("judge(3, 0): z is not in it", x.judge(3, 0), -2);
        due("the TAPE is empty, too", x.about(8), 0);
        tell(x, "\0\0\0");
        due("too few bytes", x.judge(7, 1), -2);
        tell(x, "\0\0\0\0\0");
        due("too many bytes", x.judge(7, 1), -2);
        tell(x, "\0\0\0\3");
        due("no PARTY", x.judge(7, 1), -2);
        tell(x, "\0\0\0\u0080");
        due("a high byte", x.judge(7, 1), -2);
        tell(x, "\0\0\0\40");
        due("a byte that is 32 above a PARTY", x.judge(7, 1), -2);
        tell(x, "\0\0\0\0");
        due("one PARTY's most", x.judge(1, 2), 0);
        TurnCabinet none = of("party p seats 5 at 0;");
        due("no OFFICES", none.judge(1, 3), 0);
        // y has all, and none has as many as it has TURNS.
        tell(x, "\1\1\1\1");
        due("counts", x.judge(7, 3), 3);
    }

    private static void constants() {
        due("NONE", TurnCabinet.NONE, -1);
    }
}
