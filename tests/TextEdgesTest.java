/** The boundary cases that the document names: term 1 (the text of a HOUSE) and promises 1 to 8. */
public final class TextEdgesTest extends Sentences {
    private static final String[] LANGUAGE = {"divisors", "need", "care", "tries", "tire", "office", "party", "seats", "at",
        "walk", "worth", "stance", "bar"};
    private static final String PARTY = "party p seats 1 at 1;"; // 21 bytes
    private static final String TWO = "office a;" + PARTY; // 30 bytes
    private static final int[] FAR = {-1, -2, 7, 8, 31, 64, 255, 256, 1 << 30, Integer.MAX_VALUE, Integer.MIN_VALUE};

    public static void main(String[] args) {
        lengths();
        words();
        numbers();
        blanks();
        endsOfTokens();
        names();
        onceEach();
        only();
        offices();
        parties();
        tables("worth", 99);
        tables("stance", 9);
        bars();
        placesOfFaults();
        likePlaces();
        whatCannotStand();
        namesThatCannotBe();
        numbersThatCannotBe();
        oneTooMany();
        newObject();
        feeding();
        ending();
        telling();
        faulty();
        emptyHouse();
        faultsAsked();
        partiesAsked();
        worthsAsked();
        aboutAsked();
        endOf(1, 8);
    }

    private static void good(String text) {
        fault(text, 0, -1);
    }

    private static String parties(int n) {
        StringBuilder text = new StringBuilder();
        for (int i = 0; i < n; i++) text.append(PARTY.replace(" p ", " " + (char) ('p' + i) + " "));
        return text.toString();
    }

    /** A text of 900 bytes: blanks between these. */
    private static String filled(String start, String end) {
        return start + " ".repeat(900 - start.length() - end.length()) + end;
    }

    /** The numbers that can be between these texts. */
    private static void range(String before, int least, int most, String after) {
        good(before + least + after);
        good(before + most + after);
        if (least > 0) fault(before + (least - 1) + after, 4, before.length());
        fault(before + (most + 1) + after, most < 999 ? 4 : 1, before.length());
        if (most < 999) fault(before + 999 + after, 4, before.length());
    }

    // ---- term 1

    private static void lengths() {
        term(1, "A HOUSE is a text of at most 900 bytes: {line}");
        TurnCabinet x = of(filled(PARTY, "care 7;"));
        due("about(0) of 900 bytes", x.about(0), 1);
        due("about(3) by the last of 900 bytes", x.about(3), 7);
        fault(filled(PARTY, "care 7"), 2, 900);
        fault(filled(PARTY, "#"), 1, 899);
        fault(filled(PARTY, "care 7;party p"), 3, 899);
        good("");
        good(" ");
        good(" \n \n\n");
    }

    private static void words() {
        term(1, "words (a .. z, 8 at most)");
        good("office az;office za;");
        fault("office `;", 1, 7);
        fault("office {;", 1, 7);
        fault("office a`;", 1, 8);
        fault("office z{;", 1, 8);
        fault("office A;", 1, 7);
        fault("office zZ;", 1, 8);
        good("divisors 1 1;");
        fault("abcdefgh", 2, 0);
        fault("office abcdefgh;", 2, 7);
        fault("abcdefghi", 1, 0);
        fault("divisorss 1 1;", 1, 0);
        fault("needneedneedneed 5;", 1, 0);
        fault("office " + "a".repeat(300), 1, 7);
    }

    private static void numbers() {
        term(1, "numbers (1 to 3 digits)");
        good("need 1;");
        good("need 12;");
        good("need 123;");
        fault("need 1234;", 1, 5);
        fault("need 0001;", 1, 5);
        fault("need 4294967297;", 1, 5);
        fault("need " + "9".repeat(300) + ";", 1, 5);
        due("001", of("need 001;").about(2), 1);
        due("090", of("tire 090;").about(5), 90);
        due("000", of("care 000;").about(3), 0);
        fault("need /;", 1, 5);
        fault("need :;", 1, 5);
        fault("need 1/;", 1, 6);
        fault("need 1:;", 1, 6);
        fault("need -1;", 1, 5);
        term(1, "the sign ;");
        fault("need 1,", 1, 6);
        fault("need 1:", 1, 6);
        fault("need 1<", 1, 6);
    }

    private static void blanks() {
        term(1, "Blanks (32, 10) part them or not");
        good("need5;care7;tries3;tire0;divisors9 9;");
        good("\n need \n 5 \n ; \n");
        good("office a;party p seats5 at0 walk0;worth p a0;");
        fault("divisors 11;", 2, 11);
        fault("officea;", 2, 0);
        for (int b = 0; b < 256; b++) {
            boolean token = b >= 'a' && b <= 'z' || b >= '0' && b <= '9' || b == ';';
            if (token) continue;
            boolean blank = b == 32 || b == 10;
            fault("care" + (char) b + "7;", blank ? 0 : 1, blank ? -1 : 4);
        }
    }

    private static void endsOfTokens() {
        term(1, "each is as long as can be");
        fault("needcare 5;", 2, 0);
        good("office ab;office a;office abc;");
        fault("party p seats 12 3 at 0;", 2, 17);
        due("123", of("party p seats 123 at 0;").party(0, 0), 123);
        term(1, "no letter directly behind a digit");
        fault("need 5a;", 1, 5);
        fault("need 555z;", 1, 5);
        fault("need 5care 1;", 1, 5);
        fault("party p seats 5at 0;", 1, 14);
        fault("need 5 a;", 2, 7);
        fault("office 5a;", 1, 7);
        fault("office a5;", 2, 8);
        term(1, "(what is none of these, a longer word, more digits, a number with a letter behind it is no TOKEN, at its first byte)");
        fault("care 1;\u0080", 1, 7);
        fault("care 1;\u00ff", 1, 7);
        fault("care 1; abcdefghij", 1, 8);
        fault("care 1; 1234", 1, 8);
        fault("care 1; 123a", 1, 8);
        fault("care 1; 1a2", 1, 8);
        fault("care 1; 1;", 2, 8);
    }

    private static void names() {
        term(1, "NAMES: words of 6 letters at most but those of the language (divisors, need, care, tries, tire, office, party, "
            + "seats, at, walk, worth, stance, bar)");
        for (String word : LANGUAGE) {
            fault("office " + word + ";", 2, 7);
            fault("party " + word + " seats 1 at 1;", 2, 6);
            fault(TWO + "worth " + word + " a 1;", 2, 36);
            fault(TWO + "stance p " + word + " 1;", 2, 39);
            fault(TWO + "bar p " + word + ";", 2, 36);
        }
        good("office abcdef;");
        fault("office abcdefg;", 2, 7);
        good("party abcdef seats 1 at 1;");
        fault("party abcdefg seats 1 at 1;", 2, 6);
        fault(TWO + "worth abcdefg a 1;", 2, 36);
        good("office needs;office nee;office car;office att;office t;office bars;office tired;office walks;");
    }

    private static void onceEach() {
        term(1, "Once each, at most: divisors");
        String[] lines = {"divisors 2 3;", "need 5;", "care 5;", "tries 5;", "tire 5;"};
        for (String line : lines) {
            int length = line.length();
            good(line);
            fault(line + line, 2, length);
            fault(line + TWO + line, 2, length + TWO.length());
            fault(line + line.substring(0, line.indexOf(' ')), 2, length);
            fault(line + line.replaceAll("[0-9]+", "0"), 2, length);
        }
        good(String.join("", lines));
        good(lines[4] + lines[3] + lines[2] + lines[1] + lines[0]);
        TurnCabinet x = of("need 5;");
        tell(x, "need 6;");
        due("once in another HOUSE", x.house(), 0);
        due("its need", x.about(2), 6);
    }

    private static void only() {
        term(1, "divisors (the first one and the step, 1 .. 99 each; 1, 1 without)");
        range("divisors ", 1, 99, " 1;");
        range("divisors 1 ", 1, 99, ";");
        due("the first one", of("divisors 99 1;").about(9), 99);
        due("the step", of("divisors 1 99;").about(10), 99);
        due("the first one without", of("need 5;").about(9), 1);
        due("the step without", of("need 5;").about(10), 1);
        term(1, "need (1 .. 999; without, half of all seats (cut) and 1)");
        range("need ", 1, 999, ";");
        due("need of 1", of("need 1;" + parties(3)).about(2), 1);
        due("need of 999", of("need 999;" + PARTY).about(2), 999);
        int[] halves = {1, 1, 2, 2, 3, 3, 4, 4};
        for (int n = 0; n < 8; n++) due("need by " + n + " SEATS", of(parties(n)).about(2), halves[n]);
        term(1, "care (0 .. 9; 0 without)");
        range("care ", 0, 9, ";");
        due("care of 9", of("care 9;").about(3), 9);
        due("care without", of("need 5;").about(3), 0);
        term(1, "tries (1 .. 9; 1 without)");
        range("tries ", 1, 9, ";");
        due("tries of 9", of("tries 9;").about(4), 9);
        due("tries without", of("need 5;").about(4), 1);
        term(1, "tire (0 .. 99; 0 without)");
        range("tire ", 0, 99, ";");
        due("tire of 99", of("tire 99;").about(5), 99);
        due("tire without", of("need 5;").about(5), 0);
    }

    private static void offices() {
        term(1, "office: an OFFICE (8 at most)");
        for (int n = 0; n <= 8; n++) due(n + " OFFICES", of(offices(n)).about(1), n);
        fault(offices(9), 5, 72);
        good(offices(8) + parties(7));
    }

    private static void parties() {
        term(1, "party: a PARTY (7 at most): its SEATS (1 .. 999), its PLACE (0 .. 99), its WALK (0 .. 999; 0 without)");
        for (int n = 0; n <= 7; n++) due(n + " PARTIES", of(parties(n)).about(0), n);
        fault(parties(8), 5, 147);
        range("party p seats ", 1, 999, " at 1;");
        range("party p seats 1 at ", 0, 99, ";");
        range("party p seats 1 at 1 walk ", 0, 999, ";");
        TurnCabinet x = of("party p seats 999 at 99 walk 999;party q seats 1 at 0 walk 0;party r seats 2 at 3;");
        int[][] told = {{999, 99, 999}, {1, 0, 0}, {2, 3, 0}};
        for (int p = 0; p < 3; p++) {
            for (int what = 0; what < 3; what++) due("party(" + p + ", " + what + ")", x.party(p, what), told[p][what]);
        }
    }

    private static void tables(String word, int most) {
        if (word.equals("worth")) term(1, "worth: of a PARTY an OFFICE (told ahead, both) is worth 0 .. 99 (0 without; once for both)");
        else term(1, "stance: on an OFFICE's matters a PARTY's STANCE is 0 .. 9 (likewise)");
        String line = word + " p a ";
        int l = line.length();
        range(TWO + line, 0, most, ";");
        fault("office a;" + line + "1;" + PARTY, 3, 9 + l - 4);
        fault(PARTY + line + "1;office a;", 3, 21 + l - 2);
        fault(line + "1;", 3, l - 4);
        fault(TWO + word + " a p 1;", 3, 30 + l - 4);
        fault(TWO + line + "0;" + line + "0;", 3, 30 + l + 2 + l - 2);
        fault(TWO + line + "1;" + line + "100;", 3, 30 + l + 2 + l - 2);
        good(offices(2) + parties(2) + word + " p a 1;" + word + " p b 1;" + word + " q a 1;" + word + " q b 1;");
        good(TWO + "worth p a 1;stance p a 1;");
        good(offices(8) + parties(7) + word + " v h 1;" + word + " v a 1;" + word + " p h 1;");
        TurnCabinet x = of(offices(8) + parties(7) + word + " v h " + most + ";" + word + " p a 1;");
        boolean worth = word.equals("worth");
        // Of one PARTY's COALITION the POLICY on an OFFICE is its own STANCE.
        due("the greatest", worth ? x.worth(6, 7) : x.policy(64, 1, 7), most);
        due("the least", worth ? x.worth(0, 0) : x.policy(1, 1, 0), 1);
        due("without", worth ? x.worth(6, 0) : x.policy(64, 1, 0), 0);
        due("the other's", worth ? x.policy(1, 1, 0) : x.worth(0, 0), 0);
    }

    private static void bars() {
        term(1, "bar: two PARTIES (told ahead, unlike ones) don't sit together (also told again)");
        String pq = parties(2); // 42 bytes
        good(pq + "bar p q;");
        good(pq + "bar p q;bar p q;bar q p;");
        fault(pq + "bar p p;", 3, 48);
        fault(pq + "bar p r;", 3, 48);
        fault(pq + "bar r p;", 3, 46);
        fault("bar p q;" + pq, 3, 4);
        fault(PARTY + "bar p q;" + PARTY.replace(" p ", " q "), 3, 27);
        fault(TWO + "bar a p;", 3, 34);
        fault(TWO + "bar p a;", 3, 36);
        TurnCabinet x = of(parties(7) + "bar v p;bar p v;bar q r;bar p q;");
        int[] bars = {66, 5, 2, 0, 0, 0, 1};
        for (int p = 0; p < 7; p++) due("party(" + p + ", 4)", x.party(p, 4), bars[p]);
    }

    private static void placesOfFaults() {
        term(1, "FAULTS, the first by its place (bytes from 0; the end: the text's length)");
        fault("care 10;#", 4, 5);
        fault("#care 10;", 1, 0);
        fault("care 10;care 1;", 4, 5);
        fault("need 5;care 10;need 6;", 4, 12);
        fault(TWO + "worth q a 100;", 3, 36);
        fault("office seats 5 at #", 2, 7);
        String[] lines = {"divisors 1 1 ;", "need 1 ;", "care 1 ;", "tries 1 ;", "tire 1 ;", "office b ;",
            "party r seats 1 at 1 walk 1 ;", "worth p a 1 ;", "stance p a 1 ;", "bar p q ;"};
        String before = offices(1) + parties(2);
        for (String line : lines) {
            good(before + line);
            // The end stands where a TOKEN must: with blanks ahead of it, and without.
            for (int at = line.indexOf(' '); at > 0; at = line.indexOf(' ', at + 1)) {
                fault(before + line.substring(0, at), 2, before.length() + at);
                fault(before + line.substring(0, at) + " \n ", 2, before.length() + at + 3);
            }
        }
    }

    private static void likePlaces() {
        term(1, "at one place the least: 1 no TOKEN");
        fault("office abcdefghi;", 1, 7);
        fault("need abcdefghi;", 1, 5);
        fault("need 1000;", 1, 5);
        fault("need 0000;", 1, 5);
        fault("office 1000;", 1, 7);
        fault("party p 12a", 1, 8);
        // Where another TOKEN must stand it's not asked what a NAME or a number would be.
        fault("office 0;", 2, 7);
        fault("office 999;", 2, 7);
        fault("need p;", 2, 5);
        fault(TWO + "party q p 5;", 2, 38);
        fault(offices(8) + "need office;", 2, 77);
        fault(parties(7) + "need 5 party", 2, 154);
        fault(TWO + "worth p a p;", 2, 40);
    }

    private static void whatCannotStand() {
        term(1, "2 one that can't stand there (a second line of those that come once, at its word; a word of the language, one of more "
            + "than 6 letters where a NAME must stand)");
        for (String start : new String[] {"x", "0", "5", "999", ";", "seats", "at", "walk", "needs", "abcdefgh"}) {
            fault(start, 2, 0);
            fault("need 5;" + start, 2, 7);
        }
        fault("need 5;;", 2, 7);
        fault("divisors 1;", 2, 10);
        fault("divisors ;", 2, 9);
        fault("divisors 1 1 1;", 2, 13);
        fault("divisors one 1;", 2, 9);
        fault("need need 5;", 2, 5);
        fault("need;", 2, 4);
        fault("need 5 5;", 2, 7);
        fault("need 5 care 5;", 2, 7);
        fault("office;", 2, 6);
        fault("office a b;", 2, 9);
        fault("office a 5;", 2, 9);
        fault("party;", 2, 5);
        fault("party p;", 2, 7);
        fault("party p at 1 seats 1;", 2, 8);
        fault("party p seats;", 2, 13);
        fault("party p seats at 1;", 2, 14);
        fault("party p seats 1;", 2, 15);
        fault("party p seats 1 walk 1;", 2, 16);
        fault("party p seats 1 seats 1;", 2, 16);
        fault("party p seats 1 at;", 2, 18);
        fault("party p seats 1 at at;", 2, 19);
        fault("party p seats 1 at 1 1;", 2, 21);
        fault("party p seats 1 at 1 at 1;", 2, 21);
        fault("party p seats 1 at 1 walk;", 2, 25);
        fault("party p seats 1 at 1 walk walk;", 2, 26);
        fault("party p seats 1 at 1 walk 1 walk 1;", 2, 28);
        fault("party p seats 1 at 1 walk 1 1;", 2, 28);
        fault(TWO + "worth ;", 2, 36);
        fault(TWO + "worth 1 a 1;", 2, 36);
        fault(TWO + "worth p ;", 2, 38);
        fault(TWO + "worth p 1;", 2, 38);
        fault(TWO + "worth p a;", 2, 39);
        fault(TWO + "worth p a 1 1;", 2, 42);
        fault(TWO + "stance p a 1 1;", 2, 43);
        fault(TWO + "bar p;", 2, 35);
        fault(TWO + "bar p 1;", 2, 36);
        fault(parties(2) + "bar p q 1;", 2, 50);
        fault(parties(2) + "bar p q r;", 2, 50);
    }

    private static void namesThatCannotBe() {
        term(1, "3 a NAME told already (OFFICES, PARTIES are of one kind), that is no PARTY, no OFFICE where one must stand, a worth, "
            + "a stance told already (at the OFFICE), a PARTY barred from itself (at the second NAME)");
        fault("office a;office a;", 3, 16);
        fault(offices(7) + "office a;", 3, 70);
        fault("office a;party a seats 1 at 1;", 3, 15);
        fault("office a;party a", 3, 15);
        fault(PARTY + PARTY, 3, 27);
        fault(parties(6) + PARTY, 3, 132);
        fault(PARTY + "office p;", 3, 28);
        good("office a;office aa;office aaa;office aaaa;office aaaaa;office aaaaaa;");
        fault(TWO + "worth q a 1;", 3, 36);
        fault(TWO + "worth a a 1;", 3, 36);
        fault(TWO + "worth p p 1;", 3, 38);
        fault(TWO + "worth p b 1;", 3, 38);
        fault(TWO + "stance q a 1;", 3, 37);
        fault(TWO + "stance a a 1;", 3, 37);
        fault(TWO + "stance p p 1;", 3, 39);
        fault(TWO + "stance p b 1;", 3, 39);
        fault(TWO + "worth p a 1;worth p a", 3, 50);
        fault(TWO + "stance p a 1;stance p a", 3, 52);
        fault(TWO + "bar p p", 3, 36);
    }

    private static void numbersThatCannotBe() {
        term(1, "4 a number that can't be");
        // At the number, whatever comes behind it; the ranges are tried with each line above.
        fault("need 0", 4, 5);
        fault("need 00;", 4, 5);
        fault("need 000", 4, 5);
        fault("care 010;", 4, 5);
        fault("divisors 0", 4, 9);
        fault("divisors 0 0;", 4, 9);
        fault("divisors 1 0", 4, 11);
        fault("divisors 100 #", 4, 9);
        fault("party p seats 0 at 100 walk 1000;", 4, 14);
        fault("party p seats 1 at 100 walk 1000;", 4, 19);
        fault("party p seats 1 at 99 walk 1000;", 1, 27);
        fault(TWO + "worth p a 100", 4, 40);
        fault(TWO + "worth q a 100", 3, 36);
        fault(TWO + "stance p a 10", 4, 41);
    }

    private static void oneTooMany() {
        term(1, "5 one too many (an office, a party: at the line's word)");
        fault(offices(8) + "office", 5, 72);
        fault(offices(8) + "office #", 5, 72);
        fault(offices(8) + "office a;", 5, 72);
        fault(offices(8) + " office i;", 5, 73);
        fault(parties(7) + "party", 5, 147);
        fault(parties(7) + "party p seats 0 at 100;", 5, 147);
        good(parties(7) + offices(8) + "need 5;");
        fault(offices(8) + "#office", 1, 72);
    }

    // ---- promises 1 to 8

    private static void newObject() {
        promise(1, "No PARTIES, no OFFICES.");
        TurnCabinet x = new TurnCabinet();
        int[] about = {0, 0, 1, 0, 1, 0, 0, 0, 0, 1, 1};
        for (int what = 0; what < about.length; what++) due("about(" + what + ")", x.about(what), about[what]);
        due("party(0, 0)", x.party(0, 0), -1);
        due("worth(0, 0)", x.worth(0, 0), -1);
        due("many(0)", x.many(0), 0);
        due("now(-1)", x.now(-1), 0);
        due("median()", x.median(), -1);
        due("house() of nothing", x.house(), 0);
    }

    private static void feeding() {
        promise(2, "Twenty bytes come behind those on the TAPE, of each number the highest first: how many there are");
        TurnCabinet x = new TurnCabinet();
        due("feed()", x.feed('c' << 24 | 'a' << 16 | 'r' << 8 | 'e', ' ' << 24 | '7' << 16 | ';' << 8 | 't',
            'i' << 24 | 'r' << 16 | 'e' << 8 | ' ', '4' << 24 | '2' << 16 | ';' << 8 | 'n', 'e' << 24 | 'e' << 16 | 'd' << 8 | '3'), 20);
        due("feed() behind them", x.feed('3' << 24 | ';' << 16 | ' ' << 8 | ' ', 0x20202020, 0x20202020, 0x0a0a0a0a, 0x20202020), 40);
        due("house()", x.house(), 0);
        due("care", x.about(3), 7);
        due("tire", x.about(5), 42);
        due("need", x.about(2), 33);
        due("feed() of numbers below 0", x.feed(-1, Integer.MIN_VALUE, -1, -1, -1), 20);
        due("house() of them", x.house(), -1);
        due("its place", x.fault(1), 0);
        promise(2, "NONE, and nothing comes, if there would be more than 900");
        TurnCabinet y = new TurnCabinet();
        tell(y, filled(PARTY, "care 7;"));
        due("about(8) of 900", y.about(8), 900);
        due("feed() at 900", y.feed(1, 2, 3, 4, 5), -1);
        due("about(8) then", y.about(8), 900);
        due("house() of what was there", y.house(), 1);
        due("its last line", y.about(3), 7);
        for (int n = 20; n <= 900; n += 20) due("feed() up to " + n, y.feed(0, 0, 0, 0, 0), n);
        y.end(881);
        due("feed() at 881", y.feed(0, 0, 0, 0, 0), -1);
        due("about(8) still", y.about(8), 881);
        y.end(880);
        due("feed() at 880", y.feed(0, 0, 0, 0, 0), 900);
    }

    private static void ending() {
        promise(3, "The TAPE has its first n bytes: n");
        TurnCabinet x = new TurnCabinet();
        due("end(0) of a new one", x.end(0), 0);
        tell(x, "care 7;care 8;");
        due("end() of all", x.end(14), 14);
        due("end(7)", x.end(7), 7);
        due("about(8)", x.about(8), 7);
        due("house()", x.house(), 0);
        due("care", x.about(3), 7);
        tell(x, "need 5;");
        due("end(0)", x.end(0), 0);
        tell(x, "care 8;");
        due("house() behind end(0)", x.house(), 0);
        due("care then", x.about(3), 8);
        promise(3, "NONE, doing nothing, if it has not so many, or n is below 0");
        due("end(1) of none", x.end(1), -1);
        tell(x, "care 9;");
        for (int n : new int[] {8, 20, 900, 901, -1, -7, Integer.MAX_VALUE, Integer.MIN_VALUE}) due("end(" + n + ")", x.end(n), -1);
        due("about(8) all the same", x.about(8), 7);
        due("house() all the same", x.house(), 0);
        due("care all the same", x.about(3), 9);
    }

    private static void telling() {
        promise(4, "The TAPE (empty then, also at a FAULT) is the HOUSE (NOW is none, no ACTS are kept): how many PARTIES");
        TurnCabinet x = of("need 9;care 9;tries 9;tire 9;divisors 9 9;" + offices(2) + parties(3)
            + "worth p a 9;stance p a 9;bar p q;worth q b 9;");
        due("about(8)", x.about(8), 0);
        x.hold(5, 1);
        x.seats(0, 500);
        due("ACTS ahead", x.about(7), 2);
        tell(x, offices(3) + parties(2));
        due("house()", x.house(), 2);
        int[] about = {2, 3, 2, 0, 1, 0, 2, 0, 0, 1, 1};
        for (int what = 0; what < about.length; what++) due("about(" + what + ")", x.about(what), about[what]);
        due("NOW is none", x.now(-1), 0);
        due("no OFFICE is held", x.now(0), -1);
        due("no ACTS", x.undo(), -1);
        due("SEATS as told", x.party(0, 0), 1);
        due("no worth of the one ahead", x.worth(0, 0), 0);
        due("no STANCE of the one ahead", x.policy(1, 1, 0), 0);
        due("no bar of the one ahead", x.party(0, 4), 0);
        due("{p, q} is FREE", x.kind(3) & 2, 2);
        String all = "need 3;care 2;tries 3;tire 4;divisors 5 6;" + offices(8) + parties(7) + "worth p a 9;worth v h 9;stance p a 8;"
            + "stance v h 8;bar p q;";
        for (int n = 0; n < 3; n++) {
            tell(x, all);
            due("house() of the same text again", x.house(), 7);
        }
    }

    private static void faulty() {
        promise(4, "NONE: a FAULT (all else stays)");
        String house = "need 3;care 2;tries 3;tire 4;divisors 5 6;" + offices(2) + parties(3) + "worth p a 9;stance p a 8;bar p q;";
        TurnCabinet x = of(house);
        x.hold(5, 1);
        x.seats(0, 500);
        tell(x, "need 8;care 8;tries 8;tire 8;divisors 8 8;" + offices(5) + parties(7)
            + "worth p a 1;worth q a 1;stance p a 1;bar p r;bar q r;#");
        due("house()", x.house(), -1);
        int[] about = {3, 2, 3, 2, 3, 4, 502, 2, 0, 5, 6};
        for (int what = 0; what < about.length; what++) due("about(" + what + ")", x.about(what), about[what]);
        due("NOW", x.now(-1), 5);
        due("SEATS", x.party(0, 0), 500);
        due("worth", x.worth(0, 0), 9);
        due("worth without", x.worth(1, 0), 0);
        due("STANCE", x.policy(1, 1, 0), 8);
        due("bars", x.party(0, 4), 2);
        due("undo()", x.undo(), 1);
        due("SEATS of before", x.party(0, 0), 1);
        // What the text with a FAULT told does not come into the next one either.
        tell(x, offices(5) + parties(7));
        due("the next house()", x.house(), 7);
        due("its worth", x.worth(1, 0), 0);
        due("its bars", x.party(2, 4), 0);
        due("its need", x.about(2), 4);
        tell(x, "worth p a 1;");
        due("NAMES of the HOUSE ahead are none", x.house(), -1);
        due("their FAULT", x.fault(0), 3);
    }

    private static void emptyHouse() {
        promise(4, "how many PARTIES");
        TurnCabinet x = of(TWO);
        due("house() of an empty TAPE", x.house(), 0);
        due("about(0)", x.about(0), 0);
        due("about(1)", x.about(1), 0);
        due("party(0, 0)", x.party(0, 0), -1);
        tell(x, offices(8));
        due("house() of OFFICES alone", x.house(), 0);
        due("about(1)", x.about(1), 8);
        due("many(0)", x.many(0), 0);
        due("turn(1, 0)", x.turn(1, 0), -1);
    }

    private static void faultsAsked() {
        promise(5, "Of the latest house() what 0: its FAULT (0: without; ahead of any, too), 1: its place (NONE likewise)");
        TurnCabinet x = new TurnCabinet();
        due("fault(0) ahead of any", x.fault(0), 0);
        due("fault(1) ahead of any", x.fault(1), -1);
        tell(x, "need 0;");
        due("fault(0) ahead of house()", x.fault(0), 0);
        x.house();
        due("fault(0)", x.fault(0), 4);
        due("fault(1)", x.fault(1), 5);
        tell(x, "#");
        x.house();
        due("fault(0) of the latest", x.fault(0), 1);
        due("fault(1) of the latest: 0", x.fault(1), 0);
        tell(x, TWO);
        due("fault(0) until house()", x.fault(0), 1);
        x.house();
        due("fault(0) without", x.fault(0), 0);
        due("fault(1) without", x.fault(1), -1);
        promise(5, "NONE for another what");
        for (int what : FAR) due("fault(" + what + ")", x.fault(what), -1);
        due("fault(2)", x.fault(2), -1);
    }

    private static void partiesAsked() {
        promise(6, "Of a PARTY what 0: SEATS (as now), 1: PLACE, 2: WALK, 3: how many OFFICES it holds NOW, 4: PARTIES that are barred "
            + "from it (bits)");
        TurnCabinet x = of(offices(3) + "party p seats 5 at 0 walk 9;party q seats 5 at 7;bar q p;");
        due("OFFICES ahead of any NOW", x.party(0, 3), 0);
        x.hold(3, 0);
        due("OFFICES of p", x.party(0, 3), 2);
        due("OFFICES of q", x.party(1, 3), 1);
        x.leave(0);
        due("OFFICES of one that left", x.party(0, 3), 0);
        due("OFFICES of the last one", x.party(1, 3), 3);
        x.leave(1);
        due("OFFICES when NOW is none", x.party(1, 3), 0);
        x.seats(0, 6);
        due("SEATS as now", x.party(0, 0), 6);
        due("those barred from p", x.party(0, 4), 2);
        due("those barred from q", x.party(1, 4), 1);
        promise(6, "NONE if there is none such, or for another what");
        for (int p : FAR) due("party(" + p + ", 0)", x.party(p, 0), -1);
        due("party(2, 3)", x.party(2, 3), -1);
        for (int what : FAR) due("party(0, " + what + ")", x.party(0, what), -1);
        due("party(0, 5)", x.party(0, 5), -1);
    }

    private static void worthsAsked() {
        promise(7, "NONE if there is none such");
        TurnCabinet x = of(offices(7) + parties(6) + "worth u g 99;");
        due("worth(5, 6)", x.worth(5, 6), 99);
        due("worth(6, 6)", x.worth(6, 6), -1);
        due("worth(5, 7)", x.worth(5, 7), -1);
        for (int n : FAR) {
            due("worth(" + n + ", 0)", x.worth(n, 0), -1);
            due("worth(0, " + n + ")", x.worth(0, n), -1);
        }
    }

    private static void aboutAsked() {
        promise(8, "2: need (as it is now)");
        TurnCabinet x = of(parties(3));
        due("need", x.about(2), 2);
        x.seats(0, 2);
        due("need by 4 SEATS", x.about(2), 3);
        due("all SEATS", x.about(6), 4);
        x.undo();
        due("need after undo()", x.about(2), 2);
        TurnCabinet told = of("need 7;" + parties(3));
        told.seats(0, 99);
        due("a need that is told", told.about(2), 7);
        promise(8, "7: ACTS that can be undone, 8: bytes on the TAPE");
        x.feed(0, 0, 0, 0, 0);
        due("bytes", x.about(8), 20);
        due("no ACTS", x.about(7), 0);
        for (int n = 2; n < 16; n++) {
            x.seats(0, n);
            due("ACTS after " + (n - 1), x.about(7), Math.min(12, n - 1));
        }
        promise(8, "NONE for another what");
        for (int what : FAR) if (what < 0 || what > 10) due("about(" + what + ")", x.about(what), -1);
        due("about(11)", x.about(11), -1);
    }
}
