/** A cabinet by turns: who picks which office, which coalitions stand, and what becomes of one in office. */
public final class TurnCabinet {
    public static final int NONE = -1;

    private static final int REFUSED = -1000000;
    private static final int UNFIT = -2;
    private static final int MOST_BYTES = 900;
    private static final int FED_BYTES = 20;
    private static final int MOST_PARTIES = 7;
    private static final int MOST_OFFICES = 8;
    private static final int PARTY_SETS = 128;
    private static final int OFFICE_SETS = 256;
    private static final int MOST_SEATS = 999;
    private static final int MOST_DIVISOR = 99;
    private static final int MOST_ROUNDS = 9;
    private static final int MOST_TRIES = 567;
    private static final int MOST_ACTS = 12;
    // Each SWAP adds two at least to what all OFFICES are worth together, which is 792 at most.
    private static final int MOST_SWAPS = 400;
    private static final int SHORT = 0;
    private static final int FORESEEN = 1;
    private static final int SETTLED = 2;
    private static final int MAJORITY = 1;
    private static final int FREE = 2;
    private static final int MINIMAL = 4;
    private static final int CONNECTED = 8;
    private static final int HOLDS = 16;
    private static final int ALL_KINDS = 31;

    private final Tape tape;
    private final House house;
    private final Reader reader;
    private final Picks picks;
    private final Shares shares;
    private final Coalitions coalitions;
    private final Forming forming;
    private final Cabinet cabinet;

    public TurnCabinet() {
        tape = new Tape();
        house = new House();
        reader = new Reader(tape);
        picks = new Picks(house);
        shares = new Shares(house);
        coalitions = new Coalitions(house, picks);
        forming = new Forming(house, coalitions);
        cabinet = new Cabinet(house);
    }

    // ---- the TAPE and the HOUSE

    public int feed(int a, int b, int c, int d, int e) {
        if (tape.length() + FED_BYTES > MOST_BYTES) return NONE;
        tape.append(a);
        tape.append(b);
        tape.append(c);
        tape.append(d);
        tape.append(e);
        return tape.length();
    }

    public int end(int n) {
        if (n < 0 || n > tape.length()) return NONE;
        tape.cutTo(n);
        return n;
    }

    public int house() {
        reader.begin();
        for (int lines = 0; lines < MOST_BYTES && reader.isOpen(); lines++) {
            reader.readLine();
        }
        tape.cutTo(0);
        if (reader.fault != 0) return NONE;
        house.become(reader.draft);
        cabinet.reset();
        return house.parties;
    }

    public int fault(int what) {
        if (what == 0) return reader.fault;
        if (what == 1) return reader.place;
        return NONE;
    }

    public int party(int party, int what) {
        if (!house.hasParty(party)) return NONE;
        switch (what) {
            case 0: return house.seatsOf(party);
            case 1: return house.placeOf(party);
            case 2: return house.walkOf(party);
            case 3: return cabinet.officesOf(party);
            case 4: return house.barredFrom(party);
            default: return NONE;
        }
    }

    public int worth(int party, int office) {
        if (!house.hasParty(party) || !house.hasOffice(office)) return NONE;
        return house.worthTo(party, office);
    }

    public int about(int what) {
        switch (what) {
            case 0: return house.parties;
            case 1: return house.offices;
            case 2: return house.needNow();
            case 3: return house.care;
            case 4: return house.tries;
            case 5: return house.tire;
            case 6: return house.seatsIn(house.everyone());
            case 7: return cabinet.acts;
            case 8: return tape.length();
            case 9: return house.first;
            case 10: return house.step;
            default: return NONE;
        }
    }

    // ---- turns, picks, pay

    public int turn(int coalition, int i) {
        return turnBy(coalition, house.first, house.step, i);
    }

    public int turnBy(int coalition, int first, int step, int i) {
        if (!house.hasCoalition(coalition) || i < 0 || i >= house.offices) return NONE;
        if (!isDivisor(first) || !isDivisor(step)) return NONE;
        return Slots.get(picks.turnsOf(coalition, first, step), i);
    }

    public int gets(int coalition, int way, int office) {
        if (!house.hasCoalition(coalition) || !isWay(way) || !house.hasOffice(office)) return NONE;
        return Slots.get(coalitions.picked(coalition, way), office);
    }

    public int has(int coalition, int way, int party) {
        if (!house.hasCoalition(coalition) || !isWay(way) || !house.hasParty(party)) return NONE;
        if (!isIn(party, coalition)) return 0;
        return house.worthOfHeld(party, coalitions.picked(coalition, way), party);
    }

    public int swaps(int coalition) {
        if (!house.hasCoalition(coalition)) return NONE;
        return picks.countSwaps(coalitions.picked(coalition, FORESEEN));
    }

    public int instead(int coalition, int i, int office) {
        if (!house.hasCoalition(coalition) || i < 0 || i >= house.offices) return NONE;
        if (!house.hasOffice(office)) return NONE;
        int turns = picks.turnsOf(coalition, house.first, house.step);
        picks.lookAhead(turns);
        return picks.ifPicked(turns, i, office);
    }

    public int middle(int coalition) {
        if (!house.hasCoalition(coalition)) return NONE;
        return house.middleOf(coalition);
    }

    public int pay(int coalition, int party) {
        if (!house.hasCoalition(coalition) || !house.hasParty(party)) return REFUSED;
        coalitions.learn(coalition);
        return coalitions.payOf(coalition, party);
    }

    public int policy(int coalition, int way, int office) {
        if (!house.hasCoalition(coalition) || !isWay(way) || !house.hasOffice(office)) return NONE;
        int holder = Slots.get(coalitions.picked(coalition, way), office);
        return house.stanceOf(holder, office);
    }

    public int grief(int coalition, int way, int party) {
        if (!house.hasCoalition(coalition) || !isWay(way) || !house.hasParty(party)) return NONE;
        return house.griefBy(party, coalitions.picked(coalition, way));
    }

    public int envy(int coalition, int way) {
        if (!house.hasCoalition(coalition) || !isWay(way)) return NONE;
        return house.countEnvy(coalition, coalitions.picked(coalition, way));
    }

    public int kept(int coalition, int what) {
        if (!house.hasCoalition(coalition) || what < 0 || what > 1) return NONE;
        int turns = picks.turnsOf(coalition, house.first, house.step);
        return shares.greatest(Slots.countsOf(turns, house.offices), what == 1);
    }

    // ---- coalitions

    public int kind(int coalition) {
        if (!house.hasCoalition(coalition)) return NONE;
        coalitions.learnThoseThatCan();
        return coalitions.kindOf(coalition);
    }

    public int many(int kinds) {
        if (kinds < 0 || kinds > ALL_KINDS) return NONE;
        coalitions.learnThoseThatCan();
        return coalitions.countOf(kinds);
    }

    public int nth(int kinds, int k) {
        if (kinds < 0 || kinds > ALL_KINDS || k < 0) return NONE;
        coalitions.learnThoseThatCan();
        return coalitions.findOf(kinds, k);
    }

    public int rival(int coalition) {
        if (!house.hasCoalition(coalition)) return NONE;
        coalitions.learn(coalition);
        coalitions.learnThoseThatCan();
        return coalitions.rivalOf(coalition);
    }

    public int beats(int one, int other) {
        if (!house.hasCoalition(one) || !house.hasCoalition(other)) return NONE;
        coalitions.learn(one);
        coalitions.learn(other);
        return coalitions.isBetter(one, other) ? 1 : 0;
    }

    public int unbeaten(int k) {
        if (k < NONE) return NONE;
        coalitions.learnThoseThatCan();
        return k == NONE ? coalitions.countUnbeaten() : coalitions.findUnbeaten(k);
    }

    public int enough(int coalition, int party) {
        if (!house.hasCoalition(coalition) || !house.hasParty(party)) return NONE;
        return isIn(party, coalition) ? house.seatsToLead(coalition, party) : NONE;
    }

    public int span(int coalition) {
        if (!house.hasCoalition(coalition)) return NONE;
        return house.greatestPlace(coalition) - house.leastPlace(coalition);
    }

    public int median() {
        return house.medianParty();
    }

    public int needed(int party) {
        if (!house.hasParty(party)) return NONE;
        coalitions.freshen();
        return coalitions.countNeeding(party);
    }

    public int pivot(int party) {
        if (!house.hasParty(party)) return NONE;
        coalitions.freshen();
        return coalitions.countPivots(party);
    }

    public int joins(int coalition) {
        if (!house.hasCoalition(coalition)) return NONE;
        coalitions.freshen();
        return coalitions.fewestToJoin(coalition);
    }

    public int dream(int party) {
        if (!house.hasParty(party)) return NONE;
        coalitions.learnThoseThatCan();
        return coalitions.bestPaying(party);
    }

    public int drift(int coalition, int what) {
        if (!house.hasCoalition(coalition) || what < 0 || what > 1) return NONE;
        coalitions.learn(coalition);
        coalitions.learnThoseThatCan();
        return coalitions.driftFrom(coalition, what == 1);
    }

    // ---- forming

    public int formed(int what) {
        if (house.parties == 0) return NONE;
        coalitions.learnThoseThatCan();
        forming.run();
        switch (what) {
            case 0: return forming.result;
            case 1: return forming.count;
            case 2: return forming.rounds;
            case 3: return forming.formerOf(forming.count - 1);
            default: return NONE;
        }
    }

    public int tried(int i, int what) {
        coalitions.learnThoseThatCan();
        forming.run();
        switch (what) {
            case 0: return forming.formerOf(i);
            case 1: return forming.coalitionOf(i);
            case 2: return forming.walkersOf(i);
            default: return NONE;
        }
    }

    // ---- NOW

    public int hold(int coalition, int way) {
        if (!house.hasCoalition(coalition) || !isWay(way)) return NONE;
        return cabinet.install(coalition, coalitions.picked(coalition, way));
    }

    public int now(int office) {
        return office == NONE ? cabinet.coalition : cabinet.holderOf(office);
    }

    public int leave(int party) {
        if (!cabinet.includes(party)) return NONE;
        cabinet.remember(NONE);
        return cabinet.letGo(party);
    }

    public int payNow(int party) {
        if (!house.hasParty(party) || cabinet.coalition == 0) return REFUSED;
        return cabinet.payOf(party);
    }

    public int crisis() {
        return cabinet.letUnpaidGo();
    }

    public int trade(int a, int b) {
        int holderOfA = cabinet.holderOf(a);
        int holderOfB = cabinet.holderOf(b);
        if (holderOfA == NONE || holderOfB == NONE || holderOfA == holderOfB) return REFUSED;
        return cabinet.exchange(a, b);
    }

    public int seats(int party, int n) {
        if (!house.hasParty(party) || n < 1 || n > MOST_SEATS) return NONE;
        int before = house.seatsOf(party);
        if (before == n) return NONE;
        cabinet.remember(party);
        house.giveSeats(party, n);
        return before;
    }

    public int above() {
        if (cabinet.coalition == 0) return REFUSED;
        return house.seatsIn(cabinet.coalition) - house.needNow();
    }

    public int undo() {
        return cabinet.acts > 0 ? cabinet.takeBack() : NONE;
    }

    public int judge(int coalition, int what) {
        if (!house.hasCoalition(coalition) || what < 0 || what > 3) return NONE;
        int holders = toldCabinet(coalition);
        tape.cutTo(0);
        if (holders == NONE) return UNFIT;
        switch (what) {
            case 0: return picks.countFirstSwaps(holders);
            case 1: return house.worthOfAll(holders);
            case 2: return house.greatestWorth(coalition) - house.worthOfAll(holders);
            default: return countUnkept(coalition, holders);
        }
    }

    private int toldCabinet(int coalition) {
        if (tape.length() != house.offices) return NONE;
        int holders = 0;
        for (int office = 0; office < house.offices; office++) {
            int party = tape.byteAt(office);
            if (!house.hasParty(party) || !isIn(party, coalition)) return NONE;
            holders = Slots.with(holders, office, party);
        }
        return holders;
    }

    private int countUnkept(int coalition, int holders) {
        int turns = picks.turnsOf(coalition, house.first, house.step);
        int due = Slots.countsOf(turns, house.offices);
        int held = Slots.countsOf(holders, house.offices);
        int unkept = 0;
        for (int party = 0; party < house.parties; party++) {
            if (Slots.count(due, party) != Slots.count(held, party)) unkept++;
        }
        return unkept;
    }

    private static boolean isWay(int way) {
        return way >= SHORT && way <= SETTLED;
    }

    private static boolean isDivisor(int n) {
        return n >= 1 && n <= MOST_DIVISOR;
    }

    private static boolean isIn(int member, int set) {
        return (set >>> member & 1) == 1;
    }

    /**
     * Rows of small numbers in one int, so that TURNS, holders and counts need no room of their own:
     * slots are eight numbers 0 .. 7 (a PARTY by TURN or by OFFICE), counts are seven numbers 0 .. 15 (by PARTY).
     */
    static final class Slots {
        private Slots() {
        }

        static int get(int slots, int i) {
            return slots >>> 3 * (i & 7) & 7;
        }

        static int with(int slots, int i, int value) {
            int shift = 3 * (i & 7);
            return slots & ~(7 << shift) | (value & 7) << shift;
        }

        static int exchanged(int slots, int a, int b) {
            return with(with(slots, a, get(slots, b)), b, get(slots, a));
        }

        /** Of the first n slots those that bear a value, as bits. */
        static int placesOf(int slots, int n, int value) {
            int places = 0;
            for (int i = 0; i < n; i++) {
                if (get(slots, i) == value) places |= 1 << i;
            }
            return places;
        }

        static int count(int counts, int party) {
            return counts >>> 4 * (party & 7) & 15;
        }

        static int oneMore(int counts, int party) {
            return counts + (1 << 4 * (party & 7));
        }

        static int countsOf(int slots, int n) {
            int counts = 0;
            for (int i = 0; i < n; i++) {
                counts = oneMore(counts, get(slots, i));
            }
            return counts;
        }
    }

    /** The bytes that were fed and not used yet. */
    static final class Tape {
        private final byte[] bytes = new byte[MOST_BYTES];
        private int size;

        int length() {
            return size;
        }

        int byteAt(int i) {
            return i >= 0 && i < size && i < MOST_BYTES ? bytes[i] & 255 : NONE;
        }

        void append(int number) {
            for (int shift = 24; shift >= 0; shift -= 8) {
                if (size >= 0 && size < MOST_BYTES) {
                    bytes[size] = (byte) (number >>> shift);
                    size++;
                }
            }
        }

        void cutTo(int n) {
            if (n >= 0 && n <= size) size = n;
        }
    }

    /** What a text tells, with SEATS as they are now. Rows have eight places, so that a masked index always fits. */
    static final class House {
        private int parties;
        private int offices;
        private int first;
        private int step;
        private int needTold;
        private int care;
        private int tries;
        private int tire;
        // What others keep by a text is old with another edition, what they keep by SEATS with another version.
        private int edition;
        private int version;
        private final int[] seats = new int[8];
        private final int[] places = new int[8];
        private final int[] walks = new int[8];
        private final int[] bars = new int[8];
        private final int[] worths = new int[64];
        private final int[] stances = new int[64];

        House() {
            first = 1;
            step = 1;
            tries = 1;
        }

        void clear() {
            parties = 0;
            offices = 0;
            first = 1;
            step = 1;
            needTold = 0;
            care = 0;
            tries = 1;
            tire = 0;
            for (int i = 0; i < 8; i++) {
                bars[i] = 0;
            }
            for (int i = 0; i < 64; i++) {
                worths[i] = 0;
                stances[i] = 0;
            }
        }

        void become(House other) {
            parties = other.parties;
            offices = other.offices;
            first = other.first;
            step = other.step;
            needTold = other.needTold;
            care = other.care;
            tries = other.tries;
            tire = other.tire;
            for (int i = 0; i < 8; i++) {
                seats[i] = other.seats[i];
                places[i] = other.places[i];
                walks[i] = other.walks[i];
                bars[i] = other.bars[i];
            }
            for (int i = 0; i < 64; i++) {
                worths[i] = other.worths[i];
                stances[i] = other.stances[i];
            }
            edition++;
            version++;
        }

        boolean hasParty(int party) {
            return party >= 0 && party < parties;
        }

        boolean hasOffice(int office) {
            return office >= 0 && office < offices;
        }

        boolean hasCoalition(int coalition) {
            return coalition > 0 && coalition <= everyone();
        }

        int everyone() {
            return (1 << parties) - 1;
        }

        int seatsOf(int party) {
            return seats[party & 7];
        }

        int placeOf(int party) {
            return places[party & 7];
        }

        int walkOf(int party) {
            return walks[party & 7];
        }

        int barredFrom(int party) {
            return bars[party & 7];
        }

        int worthTo(int party, int office) {
            return worths[8 * (party & 7) + (office & 7)];
        }

        int stanceOf(int party, int office) {
            return stances[8 * (party & 7) + (office & 7)];
        }

        void giveSeats(int party, int n) {
            seats[party & 7] = n;
            version++;
        }

        int seatsIn(int coalition) {
            int sum = 0;
            for (int p = 0; p < parties; p++) {
                if (isIn(p, coalition)) sum += seatsOf(p);
            }
            return sum;
        }

        int needOf(int allSeats) {
            return needTold > 0 ? needTold : allSeats / 2 + 1;
        }

        int needNow() {
            return needOf(seatsIn(everyone()));
        }

        /** Who is next: the one with the greatest SEATS by its DIVISOR, by what each had. */
        int nextBy(int coalition, int counts, int firstDivisor, int divisorStep) {
            int next = NONE;
            int nextSeats = 0;
            int nextDivisor = 1;
            for (int p = 0; p < parties; p++) {
                if (!isIn(p, coalition)) continue;
                int own = seatsOf(p);
                int divisor = firstDivisor + divisorStep * Slots.count(counts, p);
                int ahead = own * nextDivisor - nextSeats * divisor;
                if (ahead > 0 || ahead == 0 && own > nextSeats) {
                    next = p;
                    nextSeats = own;
                    nextDivisor = divisor;
                }
            }
            return next;
        }

        /** Of a set of OFFICES the one that is worth most to a PARTY. */
        int dearest(int party, int left) {
            int dearest = NONE;
            int most = NONE;
            for (int o = 0; o < offices; o++) {
                if (isIn(o, left) && worthTo(party, o) > most) {
                    dearest = o;
                    most = worthTo(party, o);
                }
            }
            return dearest;
        }

        int middleOf(int coalition) {
            int weighed = 0;
            int sum = 0;
            for (int p = 0; p < parties; p++) {
                if (!isIn(p, coalition)) continue;
                weighed += seatsOf(p) * placeOf(p);
                sum += seatsOf(p);
            }
            return sum > 0 ? weighed / sum : 0;
        }

        /** What the OFFICES of a holder are worth to a PARTY together. */
        int worthOfHeld(int holder, int holders, int party) {
            int sum = 0;
            for (int o = 0; o < offices; o++) {
                if (Slots.get(holders, o) == holder) sum += worthTo(party, o);
            }
            return sum;
        }

        int worthOfAll(int holders) {
            int sum = 0;
            for (int o = 0; o < offices; o++) {
                sum += worthTo(Slots.get(holders, o), o);
            }
            return sum;
        }

        int greatestWorth(int coalition) {
            int sum = 0;
            for (int o = 0; o < offices; o++) {
                int most = 0;
                for (int p = 0; p < parties; p++) {
                    if (isIn(p, coalition)) most = Math.max(most, worthTo(p, o));
                }
                sum += most;
            }
            return sum;
        }

        int payBy(int worthOfOwn, int party, int middle) {
            return 10 * worthOfOwn - care * Math.abs(placeOf(party) - middle);
        }

        int griefBy(int party, int holders) {
            int sum = 0;
            for (int o = 0; o < offices; o++) {
                int done = stanceOf(Slots.get(holders, o), o);
                sum += Math.abs(stanceOf(party, o) - done) * worthTo(party, o);
            }
            return sum;
        }

        int countEnvy(int coalition, int holders) {
            int pairs = 0;
            for (int p = 0; p < parties; p++) {
                if (!isIn(p, coalition)) continue;
                int own = worthOfHeld(p, holders, p);
                for (int other = 0; other < parties; other++) {
                    if (other != p && worthOfHeld(other, holders, p) > own) pairs++;
                }
            }
            return pairs;
        }

        int leastPlace(int coalition) {
            int least = MOST_SEATS;
            for (int p = 0; p < parties; p++) {
                if (isIn(p, coalition)) least = Math.min(least, placeOf(p));
            }
            return least;
        }

        int greatestPlace(int coalition) {
            int greatest = NONE;
            for (int p = 0; p < parties; p++) {
                if (isIn(p, coalition)) greatest = Math.max(greatest, placeOf(p));
            }
            return greatest;
        }

        boolean isConnected(int coalition) {
            int least = leastPlace(coalition);
            int greatest = greatestPlace(coalition);
            for (int p = 0; p < parties; p++) {
                if (!isIn(p, coalition) && placeOf(p) > least && placeOf(p) < greatest) return false;
            }
            return true;
        }

        int seatsToLead(int coalition, int party) {
            int together = seatsIn(coalition) - seatsOf(party);
            int all = seatsIn(everyone()) - seatsOf(party);
            for (int n = 1; n <= MOST_SEATS; n++) {
                if (together + n >= needOf(all + n)) return n;
            }
            return NONE;
        }

        int medianParty() {
            int all = seatsIn(everyone());
            int soFar = 0;
            int done = 0;
            for (int n = 0; n < parties; n++) {
                int next = nextByPlace(done);
                done |= 1 << next;
                soFar += seatsOf(next);
                if (2 * soFar >= all) return next;
            }
            return NONE;
        }

        private int nextByPlace(int done) {
            int next = NONE;
            for (int p = 0; p < parties; p++) {
                if (!isIn(p, done) && (next == NONE || placeOf(p) < placeOf(next))) next = p;
            }
            return next;
        }
    }

    /** Reads the TAPE into a draft, up to the first FAULT. */
    static final class Reader {
        private static final int END = 0;
        private static final int WORD = 1;
        private static final int NUMBER = 2;
        private static final int SIGN = 3;
        private static final int WRONG = 4;
        private static final int LONGEST_WORD = 8;
        private static final int LONGEST_NAME = 6;
        private static final int MOST_DIGITS = 3;
        private static final String LANGUAGE = "divisors need care tries tire office party seats at walk worth stance bar ";
        private static final int DIVISORS = 0;
        private static final int NEED = 1;
        private static final int CARE = 2;
        private static final int TRIES = 3;
        private static final int TIRE = 4;
        private static final int OFFICE = 5;
        private static final int PARTY = 6;
        private static final int SEATS = 7;
        private static final int AT = 8;
        private static final int WALK = 9;
        private static final int WORTH = 10;
        private static final int STANCE = 11;
        private static final int BAR = 12;
        private static final int WORDS = 13;
        private static final int NO_TOKEN = 1;
        private static final int MISPLACED = 2;
        private static final int BAD_NAME = 3;
        private static final int BAD_NUMBER = 4;
        private static final int TOO_MANY = 5;

        private final Tape tape;
        private final House draft = new House();
        private final long[] language = new long[WORDS];
        private final long[] partyNames = new long[8];
        private final long[] officeNames = new long[8];
        private final int[] worthsTold = new int[8];
        private final int[] stancesTold = new int[8];
        private int linesTold;
        private int fault;
        private int place = NONE;
        private int at;
        private int start;
        private int kind;
        private int value;
        private long letters;
        private int word = NONE;

        Reader(Tape tape) {
            this.tape = tape;
            int n = 0;
            for (int i = 0; i < LANGUAGE.length() && n < WORDS; i++) {
                char c = LANGUAGE.charAt(i);
                if (c == ' ') n++;
                else language[n] = withLetter(language[n], c);
            }
        }

        // Lines are asked for one by one from outside, so that calls stay few deep.
        void begin() {
            draft.clear();
            for (int i = 0; i < 8; i++) {
                worthsTold[i] = 0;
                stancesTold[i] = 0;
            }
            linesTold = 0;
            fault = 0;
            place = NONE;
            at = 0;
            advance();
        }

        boolean isOpen() {
            return fault == 0 && kind != END;
        }

        // The first FAULT stays: behind it no TOKEN is read, and what the draft gets does not count.
        private void fail(int what) {
            if (fault != 0) return;
            fault = what;
            place = start;
        }

        private void failToken() {
            fail(kind == WRONG ? NO_TOKEN : MISPLACED);
        }

        // ---- lines

        void readLine() {
            switch (word) {
                case DIVISORS: readDivisors(); break;
                case NEED: draft.needTold = readOnlyNumber(1, 999); break;
                case CARE: draft.care = readOnlyNumber(0, 9); break;
                case TRIES: draft.tries = readOnlyNumber(1, 9); break;
                case TIRE: draft.tire = readOnlyNumber(0, 99); break;
                case OFFICE: readOffice(); break;
                case PARTY: readParty(); break;
                case WORTH: readTable(worthsTold, draft.worths, 99); break;
                case STANCE: readTable(stancesTold, draft.stances, 9); break;
                case BAR: readBar(); break;
                default: failToken();
            }
            advance();
        }

        private void checkOnce() {
            if (isIn(word, linesTold)) fail(MISPLACED);
            linesTold |= 1 << word;
        }

        private int readOnlyNumber(int least, int most) {
            checkOnce();
            int n = readNumber(least, most);
            readSign();
            return n;
        }

        private void readDivisors() {
            checkOnce();
            draft.first = readNumber(1, MOST_DIVISOR);
            draft.step = readNumber(1, MOST_DIVISOR);
            readSign();
        }

        private void readOffice() {
            if (draft.offices >= MOST_OFFICES) fail(TOO_MANY);
            long name = readName();
            checkNew(name);
            readSign();
            if (fault != 0) return;
            officeNames[draft.offices & 7] = name;
            draft.offices++;
        }

        private void readParty() {
            if (draft.parties >= MOST_PARTIES) fail(TOO_MANY);
            long name = readName();
            checkNew(name);
            readWord(SEATS);
            int seats = readNumber(1, MOST_SEATS);
            readWord(AT);
            int where = readNumber(0, 99);
            advance();
            int walk = 0;
            if (word == WALK) {
                walk = readNumber(0, 999);
                advance();
            }
            if (kind != SIGN) failToken();
            if (fault != 0) return;
            int party = draft.parties & 7;
            partyNames[party] = name;
            draft.seats[party] = seats;
            draft.places[party] = where;
            draft.walks[party] = walk;
            draft.parties++;
        }

        private void readTable(int[] told, int[] values, int most) {
            int party = known(partyNames, draft.parties, readName());
            int office = known(officeNames, draft.offices, readName());
            if (isIn(office, told[party])) fail(BAD_NAME);
            int n = readNumber(0, most);
            readSign();
            if (fault != 0) return;
            told[party] |= 1 << office;
            values[8 * party + office] = n;
        }

        private void readBar() {
            int one = known(partyNames, draft.parties, readName());
            int other = known(partyNames, draft.parties, readName());
            if (one == other) fail(BAD_NAME);
            readSign();
            if (fault != 0) return;
            draft.bars[one] |= 1 << other;
            draft.bars[other] |= 1 << one;
        }

        // ---- parts of lines

        private int readNumber(int least, int most) {
            advance();
            if (kind != NUMBER) failToken();
            else if (value < least || value > most) fail(BAD_NUMBER);
            return value;
        }

        private void readSign() {
            advance();
            if (kind != SIGN) failToken();
        }

        private void readWord(int due) {
            advance();
            if (word != due) failToken();
        }

        private void checkNew(long name) {
            if (find(partyNames, draft.parties, name) != NONE) fail(BAD_NAME);
            if (find(officeNames, draft.offices, name) != NONE) fail(BAD_NAME);
        }

        /** Which of the names it is; at a FAULT 7, so that rows of eight can be asked by it all the same. */
        private int known(long[] names, int n, long name) {
            int i = find(names, n, name);
            if (i == NONE) fail(BAD_NAME);
            return i & 7;
        }

        private long readName() {
            advance();
            if (kind != WORD || word != NONE || at - start > LONGEST_NAME) failToken();
            return letters;
        }

        private static int find(long[] names, int n, long name) {
            for (int i = 0; i < n && i < names.length; i++) {
                if (names[i] == name) return i;
            }
            return NONE;
        }

        // ---- TOKENS

        private void advance() {
            if (fault != 0) return;
            while (at < tape.length() && isBlank(tape.byteAt(at))) {
                at++;
            }
            start = at;
            word = NONE;
            int b = tape.byteAt(at);
            if (b == NONE) {
                kind = END;
            } else if (isLetter(b)) {
                takeWord();
            } else if (isDigit(b)) {
                takeNumber();
            } else {
                kind = b == ';' ? SIGN : WRONG;
                at++;
            }
        }

        private void takeWord() {
            letters = 0;
            while (at < tape.length() && isLetter(tape.byteAt(at))) {
                letters = withLetter(letters, tape.byteAt(at));
                at++;
            }
            kind = at - start <= LONGEST_WORD ? WORD : WRONG;
            if (kind == WORD) word = find(language, language.length, letters);
        }

        private void takeNumber() {
            value = 0;
            while (at < tape.length() && isDigit(tape.byteAt(at))) {
                value = value * 10 + (tape.byteAt(at) - '0');
                at++;
            }
            kind = at - start <= MOST_DIGITS && !isLetter(tape.byteAt(at)) ? NUMBER : WRONG;
        }

        // Words of the LONGEST_WORD fit into a long by five bits a letter; what longer ones become is not asked.
        private static long withLetter(long letters, int letter) {
            return 32 * letters + (letter - 'a' + 1);
        }

        private static boolean isBlank(int b) {
            return b == 32 || b == 10;
        }

        private static boolean isLetter(int b) {
            return b >= 'a' && b <= 'z';
        }

        private static boolean isDigit(int b) {
            return b >= '0' && b <= '9';
        }
    }

    /** TURNS, and the OFFICES picked by them. */
    static final class Picks {
        private final House house;
        // By what is left: which OFFICE is picked FORESEEN, and what each PARTY has by that one and the later ones.
        private final int[] choices = new int[OFFICE_SETS];
        private final long[] gains = new long[OFFICE_SETS];
        private final int[] lanes = new int[8];
        private int laneBits;
        private int knownTurns = NONE;
        private int knownEdition;

        Picks(House house) {
            this.house = house;
        }

        int turnsOf(int coalition, int first, int step) {
            int turns = 0;
            int counts = 0;
            for (int i = 0; i < house.offices; i++) {
                int next = house.nextBy(coalition, counts, first, step);
                turns = Slots.with(turns, i, next);
                counts = Slots.oneMore(counts, next);
            }
            return turns;
        }

        int pickShort(int turns) {
            int holders = 0;
            int left = allOffices();
            for (int i = 0; i < house.offices; i++) {
                int party = Slots.get(turns, i);
                int office = house.dearest(party, left);
                holders = Slots.with(holders, office, party);
                left &= ~(1 << office);
            }
            return holders;
        }

        /** Who gets what by TURNS that were looked ahead from. */
        int pickForeseen(int turns) {
            int holders = 0;
            int left = allOffices();
            for (int i = 0; i < house.offices; i++) {
                int office = choices[left & 255];
                holders = Slots.with(holders, office, Slots.get(turns, i));
                left &= ~(1 << office);
            }
            return holders;
        }

        int ifPicked(int turns, int i, int office) {
            int party = Slots.get(turns, i);
            int have = 0;
            int left = allOffices();
            for (int n = 0; n < i && n < MOST_OFFICES; n++) {
                int picked = choices[left & 255];
                if (Slots.get(turns, n) == party) have += house.worthTo(party, picked);
                left &= ~(1 << picked);
            }
            if (!isIn(office, left)) return NONE;
            int later = (int) laneOf(gains[left & ~(1 << office) & 255], party);
            return have + house.worthTo(party, office) + later;
        }

        private int allOffices() {
            return (1 << house.offices) - 1;
        }

        // What is left tells whose TURN it is, and what one had ahead does not change what is best for it: so
        // each set of OFFICES is looked at once, smaller ones first.
        void lookAhead(int turns) {
            if (knownTurns == turns && knownEdition == house.edition) return;
            knownTurns = turns;
            knownEdition = house.edition;
            layLanes(turns);
            gains[0] = 0;
            for (int left = 1; left <= allOffices() && left < OFFICE_SETS; left++) {
                choose(left, Slots.get(turns, house.offices - Integer.bitCount(left)));
            }
        }

        // All PARTIES' gains by a set stand in one long. One PARTY's are 792 at most (ten bits); of seven that
        // have TURNS none has more than two OFFICES (198), so that seven lanes of nine bits will do.
        private void layLanes(int turns) {
            int met = 0;
            for (int i = 0; i < house.offices; i++) {
                int party = Slots.get(turns, i);
                if (!isIn(party, met)) lanes[party] = Integer.bitCount(met);
                met |= 1 << party;
            }
            laneBits = Integer.bitCount(met) < MOST_PARTIES ? 10 : 9;
        }

        private long laneOf(long gain, int party) {
            return gain >>> laneBits * lanes[party & 7] & (1 << laneBits) - 1;
        }

        private void choose(int left, int party) {
            int choice = 0;
            long most = NONE;
            for (int o = 0; o < house.offices; o++) {
                if (!isIn(o, left)) continue;
                long gain = house.worthTo(party, o) + laneOf(gains[left & ~(1 << o) & 255], party);
                if (gain > most) {
                    choice = o;
                    most = gain;
                }
            }
            long own = house.worthTo(party, choice);
            choices[left & 255] = choice;
            gains[left & 255] = gains[left & ~(1 << choice) & 255] + (own << laneBits * lanes[party & 7]);
        }

        // ---- SWAPS

        int settle(int holders) {
            int settled = holders;
            for (int n = 0; n < MOST_SWAPS; n++) {
                int pair = firstSwap(settled);
                if (pair == NONE) return settled;
                settled = Slots.exchanged(settled, pair >>> 3, pair & 7);
            }
            return settled;
        }

        int countSwaps(int holders) {
            int settled = holders;
            for (int n = 0; n < MOST_SWAPS; n++) {
                int pair = firstSwap(settled);
                if (pair == NONE) return n;
                settled = Slots.exchanged(settled, pair >>> 3, pair & 7);
            }
            return MOST_SWAPS;
        }

        int countFirstSwaps(int holders) {
            int pairs = 0;
            for (int a = 0; a < house.offices; a++) {
                for (int b = a + 1; b < house.offices; b++) {
                    if (helpsBoth(holders, a, b)) pairs++;
                }
            }
            return pairs;
        }

        /** The first two OFFICES of a SWAP, as eight times the one and the other. */
        private int firstSwap(int holders) {
            for (int a = 0; a < house.offices; a++) {
                for (int b = a + 1; b < house.offices; b++) {
                    if (helpsBoth(holders, a, b)) return 8 * a + b;
                }
            }
            return NONE;
        }

        private boolean helpsBoth(int holders, int a, int b) {
            int one = Slots.get(holders, a);
            int other = Slots.get(holders, b);
            return one != other && house.worthTo(one, b) > house.worthTo(one, a)
                && house.worthTo(other, a) > house.worthTo(other, b);
        }
    }

    /** The best of all ways to give OFFICES by which TURNS are KEPT. */
    static final class Shares {
        private static final int UNLIMITED = 1000000;

        private final House house;
        private final int[] best = new int[OFFICE_SETS];
        private final int[] worthOfSet = new int[OFFICE_SETS];

        Shares(House house) {
            this.house = house;
        }

        /** The most together, or the most that each has at least. */
        int greatest(int counts, boolean least) {
            // Without OFFICES nobody has TURNS, and what nobody has is told as 0.
            if (house.offices == 0) return 0;
            int all = (1 << house.offices) - 1;
            int given = 0;
            best[0] = least ? UNLIMITED : 0;
            for (int p = 0; p < house.parties; p++) {
                int own = Slots.count(counts, p);
                if (own == 0) continue;
                sumWorths(p, all);
                given += own;
                for (int set = 1; set <= all && set < OFFICE_SETS; set++) {
                    if (Integer.bitCount(set) == given) best[set] = bestWith(set, own, least);
                }
            }
            return best[all & 255];
        }

        private void sumWorths(int party, int all) {
            worthOfSet[0] = 0;
            for (int set = 1; set <= all && set < OFFICE_SETS; set++) {
                int office = Integer.numberOfTrailingZeros(set);
                worthOfSet[set] = worthOfSet[set & set - 1] + house.worthTo(party, office);
            }
        }

        // The PARTY that is next gets so many of a set, those ahead of it have had the rest of it.
        private int bestWith(int set, int own, boolean least) {
            int most = 0;
            int part = set;
            for (int n = 0; n < OFFICE_SETS && part > 0; n++) {
                if (Integer.bitCount(part) == own) {
                    int ahead = best[set & ~part & 255];
                    int mine = worthOfSet[part & 255];
                    most = Math.max(most, least ? Math.min(ahead, mine) : ahead + mine);
                }
                part = part - 1 & set;
            }
            return most;
        }
    }

    /** What all COALITIONS are to one another. What is found out is kept as long as SEATS stay. */
    static final class Coalitions {
        private static final int[] ORDERS = {1, 1, 2, 6, 24, 120, 720, 5040};
        private static final int UNKNOWN = 0;
        private static final int BEATEN = 1;
        private static final int UNBEATEN = 2;

        private final House house;
        private final Picks picks;
        private final int[] seatsIn = new int[PARTY_SETS];
        private final boolean[] free = new boolean[PARTY_SETS];
        private final boolean[] learnt = new boolean[PARTY_SETS];
        // The TURNS by which OFFICES were FORESEEN last, and who gets them by these.
        private final int[] turns = new int[PARTY_SETS];
        private final int[] foreseen = new int[PARTY_SETS];
        private final int[] pays = new int[8 * PARTY_SETS];
        private final int[] griefs = new int[8 * PARTY_SETS];
        private final int[] rivals = new int[PARTY_SETS];
        private final int[] standing = new int[PARTY_SETS];
        private final boolean[] visited = new boolean[PARTY_SETS];
        private int need;
        private int knownEdition = NONE;
        private int knownVersion = NONE;

        Coalitions(House house, Picks picks) {
            this.house = house;
            this.picks = picks;
        }

        // ---- what is known

        void freshen() {
            if (knownVersion == house.version) return;
            if (knownEdition != house.edition) forgetPicks();
            knownVersion = house.version;
            knownEdition = house.edition;
            need = house.needNow();
            free[0] = true;
            seatsIn[0] = 0;
            for (int c = 1; c <= house.everyone() && c < PARTY_SETS; c++) {
                int others = c & c - 1;
                int least = Integer.numberOfTrailingZeros(c);
                seatsIn[c] = seatsIn[others] + house.seatsOf(least);
                free[c] = free[others] && (house.barredFrom(least) & c) == 0;
                learnt[c] = false;
                rivals[c] = NONE;
                standing[c] = UNKNOWN;
            }
        }

        private void forgetPicks() {
            for (int c = 0; c < PARTY_SETS; c++) {
                turns[c] = NONE;
            }
        }

        void learnThoseThatCan() {
            freshen();
            for (int c = 1; c <= house.everyone(); c++) {
                if (canBe(c)) learn(c);
            }
        }

        void learn(int coalition) {
            freshen();
            int c = coalition & 127;
            if (learnt[c]) return;
            learnt[c] = true;
            foreseePicks(c);
            int middle = house.middleOf(c);
            for (int p = 0; p < house.parties && p < 8; p++) {
                int own = isIn(p, c) ? house.worthOfHeld(p, foreseen[c], p) : 0;
                pays[8 * c + p] = house.payBy(own, p, middle);
                griefs[8 * c + p] = house.griefBy(p, foreseen[c]);
            }
        }

        // By the same TURNS the same OFFICES are FORESEEN, in this COALITION or another one: looking
        // for such TURNS is far less than looking ahead again.
        private void foreseePicks(int c) {
            int due = picks.turnsOf(c, house.first, house.step);
            if (turns[c & 127] == due) return;
            int like = NONE;
            for (int other = 1; other < PARTY_SETS && like == NONE; other++) {
                if (turns[other] == due) like = other;
            }
            turns[c & 127] = due;
            if (like != NONE) {
                foreseen[c & 127] = foreseen[like & 127];
                return;
            }
            picks.lookAhead(due);
            foreseen[c & 127] = picks.pickForeseen(due);
        }

        int picked(int coalition, int way) {
            learn(coalition);
            int c = coalition & 127;
            if (way == SHORT) return picks.pickShort(turns[c]);
            return way == FORESEEN ? foreseen[c] : picks.settle(foreseen[c]);
        }

        int payOf(int coalition, int party) {
            return pays[8 * (coalition & 127) + (party & 7)];
        }

        // ---- kinds

        private boolean leads(int coalition) {
            return seatsIn[coalition & 127] >= need;
        }

        boolean canBe(int coalition) {
            return leads(coalition) && free[coalition & 127];
        }

        private boolean leadsWithout(int coalition, int party) {
            return leads(coalition & ~(1 << party));
        }

        private boolean isMinimal(int coalition) {
            if (!leads(coalition)) return false;
            for (int p = 0; p < house.parties; p++) {
                if (isIn(p, coalition) && leadsWithout(coalition, p)) return false;
            }
            return true;
        }

        int kindOf(int coalition) {
            int kinds = 0;
            if (leads(coalition)) kinds |= MAJORITY;
            if (free[coalition & 127]) kinds |= FREE;
            if (isMinimal(coalition)) kinds |= MINIMAL;
            if (house.isConnected(coalition)) kinds |= CONNECTED;
            if (canBe(coalition) && rivalOf(coalition) == 0) kinds |= HOLDS;
            return kinds;
        }

        int countOf(int kinds) {
            int count = 0;
            for (int c = 1; c <= house.everyone(); c++) {
                if ((kindOf(c) & kinds) == kinds) count++;
            }
            return count;
        }

        int findOf(int kinds, int k) {
            int count = 0;
            for (int c = 1; c <= house.everyone(); c++) {
                if ((kindOf(c) & kinds) != kinds) continue;
                if (count == k) return c;
                count++;
            }
            return NONE;
        }

        // ---- RIVALS (those that CAN be, and the one that is asked for, are learnt)

        int rivalOf(int coalition) {
            int c = coalition & 127;
            if (rivals[c] == NONE) rivals[c] = firstRival(c);
            return rivals[c];
        }

        private int firstRival(int coalition) {
            for (int other = 1; other <= house.everyone(); other++) {
                if (other != coalition && canBe(other) && paysMore(other, coalition)) return other;
            }
            return 0;
        }

        private boolean paysMore(int coalition, int than) {
            for (int p = 0; p < house.parties; p++) {
                if (isIn(p, coalition) && payOf(coalition, p) <= payOf(than, p)) return false;
            }
            return true;
        }

        /** DRIFT: where it ends (0: it goes round), or how many steps it has. */
        int driftFrom(int coalition, boolean end) {
            for (int c = 0; c < PARTY_SETS; c++) {
                visited[c] = false;
            }
            int here = coalition & 127;
            int next = rivalOf(here);
            int steps = 0;
            visited[here] = true;
            while (next != 0 && !visited[next & 127] && steps < PARTY_SETS) {
                here = next & 127;
                visited[here] = true;
                next = rivalOf(here);
                steps++;
            }
            if (!end) return steps;
            return next == 0 ? here : 0;
        }

        int bestPaying(int party) {
            int best = 0;
            for (int c = 1; c <= house.everyone(); c++) {
                if (canBe(c) && (best == 0 || payOf(c, party) > payOf(best, party))) best = c;
            }
            return best;
        }

        // ---- BEATEN by GRIEF (both are learnt)

        boolean isBetter(int one, int other) {
            int sum = 0;
            for (int p = 0; p < house.parties && p < 8; p++) {
                if (griefs[8 * (one & 127) + p] < griefs[8 * (other & 127) + p]) sum += house.seatsOf(p);
            }
            return sum >= need;
        }

        private boolean isUnbeaten(int coalition) {
            int c = coalition & 127;
            if (standing[c] == UNKNOWN) standing[c] = canBe(c) && !isBeaten(c) ? UNBEATEN : BEATEN;
            return standing[c] == UNBEATEN;
        }

        private boolean isBeaten(int coalition) {
            for (int other = 1; other <= house.everyone(); other++) {
                if (canBe(other) && isBetter(other, coalition)) return true;
            }
            return false;
        }

        int countUnbeaten() {
            int count = 0;
            for (int c = 1; c <= house.everyone(); c++) {
                if (isUnbeaten(c)) count++;
            }
            return count;
        }

        int findUnbeaten(int k) {
            int count = 0;
            for (int c = 1; c <= house.everyone(); c++) {
                if (!isUnbeaten(c)) continue;
                if (count == k) return c;
                count++;
            }
            return NONE;
        }

        // ---- who is needed

        int countNeeding(int party) {
            int count = 0;
            for (int c = 1; c <= house.everyone(); c++) {
                if (isIn(party, c) && leads(c) && !leadsWithout(c, party)) count++;
            }
            return count;
        }

        int countPivots(int party) {
            int count = 0;
            for (int c = 1; c <= house.everyone(); c++) {
                if (!isIn(party, c) || !leads(c) || leadsWithout(c, party)) continue;
                int ahead = Integer.bitCount(c) - 1;
                int behind = house.parties - 1 - ahead;
                count += ORDERS[ahead & 7] * ORDERS[behind & 7];
            }
            return count;
        }

        int fewestToJoin(int coalition) {
            if (canBe(coalition)) return 0;
            int fewest = NONE;
            for (int c = 1; c <= house.everyone(); c++) {
                if ((c & coalition) != 0 || !canBe(c | coalition)) continue;
                if (fewest == NONE || Integer.bitCount(c) < Integer.bitCount(fewest)) fewest = c;
            }
            return fewest;
        }
    }

    /** FORMING, kept as long as SEATS stay: each TRY as its COALITION, who WALKS OUT and its FORMER in one int. */
    static final class Forming {
        private final House house;
        private final Coalitions coalitions;
        private final int[] tries = new int[MOST_TRIES];
        private final boolean[] spent = new boolean[PARTY_SETS];
        private int count;
        private int rounds;
        private int result;
        private int knownVersion = NONE;

        Forming(House house, Coalitions coalitions) {
            this.house = house;
            this.coalitions = coalitions;
        }

        /** Goes through all ROUNDS; the COALITIONS that CAN be are learnt ahead. */
        void run() {
            if (knownVersion == house.version) return;
            knownVersion = house.version;
            count = 0;
            rounds = 0;
            result = 0;
            for (int round = 0; round < MOST_ROUNDS && result == 0; round++) {
                rounds++;
                goRound(round);
            }
        }

        private void goRound(int round) {
            for (int c = 0; c < PARTY_SETS; c++) {
                spent[c] = false;
            }
            int done = 0;
            for (int n = 0; n < house.parties && result == 0; n++) {
                int former = nextFormer(done);
                done |= 1 << former;
                letForm(former, round);
            }
        }

        private int nextFormer(int done) {
            int next = NONE;
            for (int p = 0; p < house.parties; p++) {
                if (!isIn(p, done) && (next == NONE || house.seatsOf(p) > house.seatsOf(next))) next = p;
            }
            return next;
        }

        private void letForm(int former, int round) {
            for (int n = 0; n < house.tries && result == 0; n++) {
                int c = choice(former);
                if (c == 0) return;
                int walkers = walkersFrom(c, house.tire * round);
                spent[c & 127] = true;
                keep(former, c, walkers);
                if (walkers == 0) result = c;
            }
        }

        private int choice(int former) {
            int best = 0;
            for (int c = 1; c <= house.everyone() && c < PARTY_SETS; c++) {
                if (!isIn(former, c) || spent[c] || !coalitions.canBe(c)) continue;
                if (best == 0 || isLiked(former, c, best)) best = c;
            }
            return best;
        }

        private boolean isLiked(int former, int coalition, int than) {
            int more = coalitions.payOf(coalition, former) - coalitions.payOf(than, former);
            return more > 0 || more == 0 && Integer.bitCount(coalition) < Integer.bitCount(than);
        }

        private int walkersFrom(int coalition, int tired) {
            int walkers = 0;
            for (int p = 0; p < house.parties; p++) {
                if (isIn(p, coalition) && coalitions.payOf(coalition, p) < house.walkOf(p) - tired) walkers |= 1 << p;
            }
            return walkers;
        }

        private void keep(int former, int coalition, int walkers) {
            if (count < 0 || count >= MOST_TRIES) return;
            tries[count] = former << 14 | walkers << 7 | coalition;
            count++;
        }

        private boolean wasMade(int i) {
            return i >= 0 && i < count && i < MOST_TRIES;
        }

        int formerOf(int i) {
            return wasMade(i) ? tries[i] >>> 14 : NONE;
        }

        int coalitionOf(int i) {
            return wasMade(i) ? tries[i] & 127 : NONE;
        }

        int walkersOf(int i) {
            return wasMade(i) ? tries[i] >>> 7 & 127 : NONE;
        }
    }

    /** NOW, and what was ahead of the latest ACTS. */
    static final class Cabinet {
        private final House house;
        private final int[] earlierCoalitions = new int[MOST_ACTS];
        private final int[] earlierHolders = new int[MOST_ACTS];
        private final int[] changedParties = new int[MOST_ACTS];
        private final int[] earlierSeats = new int[MOST_ACTS];
        private int coalition;
        private int holders;
        private int acts;

        Cabinet(House house) {
            this.house = house;
        }

        void reset() {
            coalition = 0;
            holders = 0;
            acts = 0;
        }

        boolean includes(int party) {
            return house.hasParty(party) && isIn(party, coalition);
        }

        int holderOf(int office) {
            return coalition != 0 && house.hasOffice(office) ? Slots.get(holders, office) : NONE;
        }

        int officesOf(int party) {
            return Integer.bitCount(heldBy(party));
        }

        private int heldBy(int party) {
            return coalition == 0 ? 0 : Slots.placesOf(holders, house.offices, party);
        }

        int payOf(int party) {
            int own = house.worthOfHeld(party, holders, party);
            return house.payBy(own, party, house.middleOf(coalition));
        }

        // ---- ACTS

        int install(int newCoalition, int newHolders) {
            remember(NONE);
            coalition = newCoalition;
            holders = newHolders;
            int holding = 0;
            for (int p = 0; p < house.parties; p++) {
                if (heldBy(p) != 0) holding++;
            }
            return holding;
        }

        int exchange(int a, int b) {
            int before = house.worthOfAll(holders);
            remember(NONE);
            holders = Slots.exchanged(holders, a, b);
            return house.worthOfAll(holders) - before;
        }

        int letUnpaidGo() {
            int gone = 0;
            for (int n = 0; n < MOST_PARTIES; n++) {
                int party = firstUnpaid();
                if (party == NONE) return gone;
                if (gone == 0) remember(NONE);
                letGo(party);
                gone++;
            }
            return gone;
        }

        private int firstUnpaid() {
            for (int p = 0; p < house.parties; p++) {
                if (isIn(p, coalition) && payOf(p) < house.walkOf(p)) return p;
            }
            return NONE;
        }

        /** LEAVE without keeping the ACT: how many OFFICES were free. */
        int letGo(int party) {
            int left = heldBy(party);
            int wereFree = Integer.bitCount(left);
            coalition &= ~(1 << party);
            for (int n = 0; n < wereFree && coalition != 0; n++) {
                int taker = house.nextBy(coalition, countsHeld(left), house.first, house.step);
                int office = house.dearest(taker, left);
                holders = Slots.with(holders, office, taker);
                left &= ~(1 << office);
            }
            return wereFree;
        }

        // The one that left still stands at the OFFICES that are free; nobody asks how many it holds.
        private int countsHeld(int left) {
            int counts = 0;
            for (int o = 0; o < house.offices; o++) {
                if (!isIn(o, left)) counts = Slots.oneMore(counts, Slots.get(holders, o));
            }
            return counts;
        }

        // ---- UNDO

        /** Keeps what is, ahead of an ACT that changes the SEATS of a PARTY, or of none. */
        void remember(int party) {
            if (acts >= MOST_ACTS) dropOldest();
            int i = acts;
            if (i < 0 || i >= MOST_ACTS) return;
            earlierCoalitions[i] = coalition;
            earlierHolders[i] = holders;
            changedParties[i] = party;
            earlierSeats[i] = party == NONE ? 0 : house.seatsOf(party);
            acts++;
        }

        private void dropOldest() {
            for (int i = 1; i < MOST_ACTS; i++) {
                earlierCoalitions[i - 1] = earlierCoalitions[i];
                earlierHolders[i - 1] = earlierHolders[i];
                changedParties[i - 1] = changedParties[i];
                earlierSeats[i - 1] = earlierSeats[i];
            }
            acts = MOST_ACTS - 1;
        }

        int takeBack() {
            int i = acts - 1;
            if (i < 0 || i >= MOST_ACTS) return NONE;
            acts = i;
            coalition = earlierCoalitions[i];
            holders = earlierHolders[i];
            if (changedParties[i] != NONE) house.giveSeats(changedParties[i], earlierSeats[i]);
            return acts;
        }
    }
}
