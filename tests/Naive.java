import java.util.ArrayList;
import java.util.Arrays;
import java.util.HashMap;
import java.util.HashSet;
import java.util.LinkedHashSet;
import java.util.List;
import java.util.Map;
import java.util.Set;
import java.util.TreeSet;
import java.util.regex.Matcher;
import java.util.regex.Pattern;

/** The document once more, as slowly and plainly as it can be said: what RandomRunsTest holds the program against. */
final class Naive {
    static final int NONE = -1;
    static final int NO = -1000000;
    static final Set<String> LANGUAGE = Set.of("divisors", "need", "care", "tries", "tire", "office", "party",
        "seats", "at", "walk", "worth", "stance", "bar");

    static final class House {
        List<String> parties = new ArrayList<>();
        List<String> offices = new ArrayList<>();
        Map<String, Integer> only = new HashMap<>();
        List<int[]> of = new ArrayList<>(); // SEATS, PLACE, WALK
        Map<String, Integer> worths = new HashMap<>();
        Map<String, Integer> stances = new HashMap<>();
        Set<String> bars = new HashSet<>();

        int only(String word, int without) {
            return only.getOrDefault(word, without);
        }
    }

    static final class Fault extends RuntimeException {
        final int what;
        final int place;

        Fault(int what, int place) {
            super(null, null, false, false);
            this.what = what;
            this.place = place;
        }
    }

    record Token(String text, int place) {
        boolean isWord() {
            return text.matches("[a-z]+");
        }

        boolean isNumber() {
            return text.matches("[0-9]+");
        }
    }

    StringBuilder tape = new StringBuilder();
    House h = new House();
    int fault = 0;
    int place = NONE;
    int nowCoalition = 0;
    Integer[] holder = new Integer[0];
    List<Object[]> acts = new ArrayList<>();
    Map<Integer, int[]> foreseen = new HashMap<>();
    // Only in a large HOUSE is it kept how it ends by what is left; in others each order of OFFICES is looked at.
    boolean large = false;
    Map<String, int[]> endings = new HashMap<>();

    // ---- the text

    int feed(int a, int b, int c, int d, int e) {
        if (tape.length() + 20 > 900) return NONE;
        for (int n : new int[] {a, b, c, d, e}) {
            tape.append((char) (n >>> 24)).append((char) (n >>> 16 & 255));
            tape.append((char) (n >>> 8 & 255)).append((char) (n & 255));
        }
        return tape.length();
    }

    int end(int n) {
        if (n < 0 || n > tape.length()) return NONE;
        tape.setLength(n);
        return n;
    }

    static final Pattern TOKEN = Pattern.compile("[a-z]+|[0-9]+[a-z]?|;|.", Pattern.DOTALL);

    static Token token(String text, int[] at) {
        while (at[0] < text.length() && (text.charAt(at[0]) == ' ' || text.charAt(at[0]) == '\n')) at[0]++;
        if (at[0] == text.length()) return new Token("", at[0]);
        Matcher m = TOKEN.matcher(text);
        m.find(at[0]);
        String found = m.group();
        if (!found.matches("[a-z]{1,8}|[0-9]{1,3}|;")) throw new Fault(1, at[0]);
        Token token = new Token(found, at[0]);
        at[0] = m.end();
        return token;
    }

    static int number(String text, int[] at, int least, int most) {
        Token t = token(text, at);
        if (!t.isNumber()) throw new Fault(2, t.place);
        int n = Integer.parseInt(t.text);
        if (n < least || n > most) throw new Fault(4, t.place);
        return n;
    }

    static void sign(String text, int[] at, String sign) {
        Token t = token(text, at);
        if (!t.text.equals(sign)) throw new Fault(2, t.place);
    }

    static Token name(String text, int[] at) {
        Token t = token(text, at);
        if (!t.isWord() || t.text.length() > 6 || LANGUAGE.contains(t.text)) throw new Fault(2, t.place);
        return t;
    }

    static Token oneOf(List<String> names, String text, int[] at) {
        Token t = name(text, at);
        if (!names.contains(t.text)) throw new Fault(3, t.place);
        return t;
    }

    static Token newName(House h, String text, int[] at) {
        Token t = name(text, at);
        if (h.offices.contains(t.text) || h.parties.contains(t.text)) throw new Fault(3, t.place);
        return t;
    }

    static House parse(String text) {
        House h = new House();
        int[] at = {0};
        while (true) {
            Token line = token(text, at);
            if (line.text.isEmpty()) return h;
            String word = line.text;
            if (Set.of("divisors", "need", "care", "tries", "tire").contains(word)) {
                if (h.only.containsKey(word)) throw new Fault(2, line.place);
                int least = word.equals("care") || word.equals("tire") ? 0 : 1;
                int most = switch (word) {
                    case "divisors", "tire" -> 99;
                    case "need" -> 999;
                    default -> 9;
                };
                h.only.put(word, number(text, at, least, most));
                if (word.equals("divisors")) h.only.put("step", number(text, at, 1, 99));
            } else if (word.equals("office")) {
                if (h.offices.size() == 8) throw new Fault(5, line.place);
                h.offices.add(newName(h, text, at).text);
            } else if (word.equals("party")) {
                if (h.parties.size() == 7) throw new Fault(5, line.place);
                String name = newName(h, text, at).text;
                sign(text, at, "seats");
                int seats = number(text, at, 1, 999);
                sign(text, at, "at");
                int where = number(text, at, 0, 99);
                int[] ahead = at.clone();
                int walk = 0;
                if (token(text, ahead).text.equals("walk")) {
                    at = ahead;
                    walk = number(text, at, 0, 999);
                }
                h.parties.add(name);
                h.of.add(new int[] {seats, where, walk});
            } else if (word.equals("worth") || word.equals("stance")) {
                Map<String, Integer> told = word.equals("worth") ? h.worths : h.stances;
                Token party = oneOf(h.parties, text, at);
                Token office = oneOf(h.offices, text, at);
                String key = h.parties.indexOf(party.text) + " " + h.offices.indexOf(office.text);
                if (told.containsKey(key)) throw new Fault(3, office.place);
                told.put(key, number(text, at, 0, word.equals("worth") ? 99 : 9));
            } else if (word.equals("bar")) {
                Token one = oneOf(h.parties, text, at);
                Token other = oneOf(h.parties, text, at);
                if (one.text.equals(other.text)) throw new Fault(3, other.place);
                int p = h.parties.indexOf(one.text);
                int q = h.parties.indexOf(other.text);
                h.bars.add(p + " " + q);
                h.bars.add(q + " " + p);
            } else {
                throw new Fault(2, line.place);
            }
            sign(text, at, ";");
        }
    }

    int house() {
        String text = tape.toString();
        tape.setLength(0);
        try {
            h = parse(text);
        } catch (Fault f) {
            fault = f.what;
            place = f.place;
            return NONE;
        }
        fault = 0;
        place = NONE;
        nowCoalition = 0;
        acts.clear();
        foreseen.clear();
        endings.clear();
        return n();
    }

    int fault(int what) {
        return what == 0 ? fault : what == 1 ? place : NONE;
    }

    // ---- the HOUSE

    int n() {
        return h.parties.size();
    }

    int o() {
        return h.offices.size();
    }

    boolean isParty(int p) {
        return p >= 0 && p < n();
    }

    boolean isOffice(int o) {
        return o >= 0 && o < o();
    }

    boolean isCoalition(int c) {
        return c >= 1 && c < 1 << n();
    }

    static boolean in(int p, int c) {
        return (c & 1 << p) != 0;
    }

    List<Integer> members(int c) {
        List<Integer> members = new ArrayList<>();
        for (int p = 0; p < n(); p++) if (in(p, c)) members.add(p);
        return members;
    }

    List<Integer> all() {
        List<Integer> all = new ArrayList<>();
        for (int c = 1; c < 1 << n(); c++) all.add(c);
        return all;
    }

    int seatsOf(int p) {
        return h.of.get(p)[0];
    }

    int placeOf(int p) {
        return h.of.get(p)[1];
    }

    int walkOf(int p) {
        return h.of.get(p)[2];
    }

    int w(int p, int o) {
        return h.worths.getOrDefault(p + " " + o, 0);
    }

    int s(int p, int o) {
        return h.stances.getOrDefault(p + " " + o, 0);
    }

    int sum(int c) {
        return members(c).stream().mapToInt(this::seatsOf).sum();
    }

    int need() {
        return h.only("need", sum((1 << n()) - 1) / 2 + 1);
    }

    boolean barred(int p, int q) {
        return h.bars.contains(p + " " + q);
    }

    int party(int p, int what) {
        if (!isParty(p)) return NONE;
        if (what >= 0 && what < 3) return h.of.get(p)[what];
        if (what == 3) return held(p).size();
        if (what != 4) return NONE;
        int bits = 0;
        for (int q = 0; q < n(); q++) if (barred(p, q)) bits |= 1 << q;
        return bits;
    }

    int worth(int p, int o) {
        return isParty(p) && isOffice(o) ? w(p, o) : NONE;
    }

    int about(int what) {
        int[] all = {n(), o(), need(), h.only("care", 0), h.only("tries", 1), h.only("tire", 0), sum((1 << n()) - 1),
            acts.size(), tape.length(), h.only("divisors", 1), h.only("step", 1)};
        return what >= 0 && what < all.length ? all[what] : NONE;
    }

    // ---- TURNS and PICKS

    /** Whose SEATS by its DIVISOR are greatest. */
    int next(int c, int[] had, int first, int step) {
        int best = NONE;
        for (int p : members(c)) {
            if (best == NONE) {
                best = p;
                continue;
            }
            long mine = (long) seatsOf(p) * (first + step * had[best]);
            long others = (long) seatsOf(best) * (first + step * had[p]);
            if (mine > others || mine == others && seatsOf(p) > seatsOf(best)) best = p;
        }
        return best;
    }

    int[] turns(int c, int first, int step) {
        int[] turns = new int[o()];
        int[] had = new int[8];
        for (int i = 0; i < o(); i++) {
            turns[i] = next(c, had, first, step);
            had[turns[i]]++;
        }
        return turns;
    }

    int[] turns(int c) {
        return turns(c, h.only("divisors", 1), h.only("step", 1));
    }

    int turn(int c, int i) {
        return isCoalition(c) && isOffice(i) ? turns(c)[i] : NONE;
    }

    int turnBy(int c, int first, int step, int i) {
        if (!isCoalition(c) || !isOffice(i) || first < 1 || first > 99 || step < 1 || step > 99) return NONE;
        return turns(c, first, step)[i];
    }

    int[] none() {
        int[] none = new int[o()];
        Arrays.fill(none, NONE);
        return none;
    }

    int value(int p, int[] holders, int of) {
        int sum = 0;
        for (int o = 0; o < holders.length; o++) if (holders[o] == of) sum += w(p, o);
        return sum;
    }

    int[] shortPicks(int[] turns) {
        int[] holders = none();
        for (int p : turns) {
            int best = NONE;
            for (int o = 0; o < o(); o++) {
                if (holders[o] == NONE && (best == NONE || w(p, o) > w(p, best))) best = o;
            }
            holders[best] = p;
        }
        return holders;
    }

    /** How it ends, the first i TURNS being done. */
    int[] foresee(int[] turns, int i, int[] holders) {
        if (!large) return lookAhead(turns, i, holders);
        String key = Arrays.toString(turns);
        for (int holder : holders) key += holder == NONE ? "?" : "-";
        if (!endings.containsKey(key)) endings.put(key, lookAhead(turns, i, holders));
        int[] ending = holders.clone();
        for (int o = 0; o < o(); o++) if (holders[o] == NONE) ending[o] = endings.get(key)[o];
        return ending;
    }

    int[] lookAhead(int[] turns, int i, int[] holders) {
        if (i == turns.length) return holders;
        int[] best = null;
        for (int o = 0; o < o(); o++) {
            if (holders[o] != NONE) continue;
            int[] then = holders.clone();
            then[o] = turns[i];
            then = foresee(turns, i + 1, then);
            if (best == null || value(turns[i], then, turns[i]) > value(turns[i], best, turns[i])) best = then;
        }
        return best;
    }

    /** Which OFFICE is picked at the i-th TURN. */
    int pickForeseen(int[] turns, int i, int[] holders) {
        int[] atLast = foresee(turns, i, holders);
        for (int o = 0; o < o(); o++) {
            if (holders[o] != NONE) continue;
            int[] then = holders.clone();
            then[o] = turns[i];
            if (value(turns[i], foresee(turns, i + 1, then), turns[i]) == value(turns[i], atLast, turns[i])) return o;
        }
        return NONE;
    }

    int[] foreseen(int c) {
        if (!foreseen.containsKey(c)) foreseen.put(c, foresee(turns(c), 0, none()));
        return foreseen.get(c);
    }

    List<int[]> pairs(int[] holders) {
        List<int[]> pairs = new ArrayList<>();
        for (int a = 0; a < o(); a++) {
            for (int b = a + 1; b < o(); b++) {
                int p = holders[a];
                int q = holders[b];
                if (p != q && w(p, b) > w(p, a) && w(q, a) > w(q, b)) pairs.add(new int[] {a, b});
            }
        }
        return pairs;
    }

    int settle(int[] holders) {
        int swaps = 0;
        while (!pairs(holders).isEmpty()) {
            int[] pair = pairs(holders).get(0);
            int kept = holders[pair[0]];
            holders[pair[0]] = holders[pair[1]];
            holders[pair[1]] = kept;
            swaps++;
        }
        return swaps;
    }

    boolean isWay(int way) {
        return way >= 0 && way <= 2;
    }

    int[] picks(int c, int way) {
        if (way == 0) return shortPicks(turns(c));
        int[] holders = foreseen(c).clone();
        if (way == 2) settle(holders);
        return holders;
    }

    int gets(int c, int way, int o) {
        return isCoalition(c) && isWay(way) && isOffice(o) ? picks(c, way)[o] : NONE;
    }

    int has(int c, int way, int p) {
        return isCoalition(c) && isWay(way) && isParty(p) ? value(p, picks(c, way), p) : NONE;
    }

    int swaps(int c) {
        return isCoalition(c) ? settle(foreseen(c).clone()) : NONE;
    }

    int instead(int c, int i, int office) {
        if (!isCoalition(c) || !isOffice(i) || !isOffice(office)) return NONE;
        int[] turns = turns(c);
        int[] holders = none();
        for (int n = 0; n < i; n++) holders[pickForeseen(turns, n, holders)] = turns[n];
        if (holders[office] != NONE) return NONE;
        holders[office] = turns[i];
        return value(turns[i], foresee(turns, i + 1, holders), turns[i]);
    }

    int middle(int c) {
        if (!isCoalition(c)) return NONE;
        return members(c).stream().mapToInt(p -> seatsOf(p) * placeOf(p)).sum() / sum(c);
    }

    int payBy(int worth, int p, int c) {
        return 10 * worth - h.only("care", 0) * Math.abs(placeOf(p) - middle(c));
    }

    int pay(int c, int p) {
        return isCoalition(c) && isParty(p) ? payBy(value(p, foreseen(c), p), p, c) : NO;
    }

    int policy(int c, int way, int o) {
        return isCoalition(c) && isWay(way) && isOffice(o) ? s(picks(c, way)[o], o) : NONE;
    }

    int grief(int c, int way, int p) {
        if (!isCoalition(c) || !isWay(way) || !isParty(p)) return NONE;
        int sum = 0;
        for (int o = 0; o < o(); o++) sum += Math.abs(s(p, o) - policy(c, way, o)) * w(p, o);
        return sum;
    }

    int envy(int c, int way) {
        if (!isCoalition(c) || !isWay(way)) return NONE;
        int[] holders = picks(c, way);
        int pairs = 0;
        for (int p : members(c)) {
            for (int q : members(c)) if (p != q && value(p, holders, q) > value(p, holders, p)) pairs++;
        }
        return pairs;
    }

    int[] counts(int[] holders) {
        int[] counts = new int[8];
        for (int p : holders) counts[p]++;
        return counts;
    }

    int kept(int c, int what) {
        if (!isCoalition(c) || what < 0 || what > 1) return NONE;
        int[] due = counts(turns(c));
        return o() == 0 ? 0 : bestGiven(due.clone(), due, none(), 0, what);
    }

    int bestGiven(int[] left, int[] due, int[] holders, int o, int what) {
        if (o == o()) {
            int sum = 0;
            int least = Integer.MAX_VALUE;
            for (int p = 0; p < n(); p++) {
                int has = value(p, holders, p);
                sum += has;
                if (due[p] > 0) least = Math.min(least, has);
            }
            return what == 0 ? sum : least;
        }
        int best = NONE;
        for (int p = 0; p < n(); p++) {
            if (left[p] == 0) continue;
            left[p]--;
            holders[o] = p;
            best = Math.max(best, bestGiven(left, due, holders, o + 1, what));
            holders[o] = NONE;
            left[p]++;
        }
        return best;
    }

    // ---- COALITIONS

    boolean majority(int c) {
        return sum(c) >= need();
    }

    boolean free(int c) {
        for (int p : members(c)) for (int q : members(c)) if (barred(p, q)) return false;
        return true;
    }

    boolean can(int c) {
        return majority(c) && free(c);
    }

    int rivalOf(int c) {
        for (int r : all()) {
            if (r != c && can(r) && members(r).stream().allMatch(p -> pay(r, p) > pay(c, p))) return r;
        }
        return 0;
    }

    int kind(int c) {
        if (!isCoalition(c)) return NONE;
        int kinds = free(c) ? 2 : 0;
        if (majority(c)) {
            kinds += 1;
            if (members(c).stream().noneMatch(p -> majority(c & ~(1 << p)))) kinds += 4;
        }
        int least = members(c).stream().mapToInt(this::placeOf).min().getAsInt();
        int greatest = members(c).stream().mapToInt(this::placeOf).max().getAsInt();
        boolean connected = true;
        for (int p = 0; p < n(); p++) {
            if (!in(p, c) && placeOf(p) > least && placeOf(p) < greatest) connected = false;
        }
        if (connected) kinds += 8;
        if (can(c) && rivalOf(c) == 0) kinds += 16;
        return kinds;
    }

    List<Integer> these(int kinds) {
        List<Integer> these = new ArrayList<>();
        for (int c : all()) if ((kind(c) & kinds) == kinds) these.add(c);
        return these;
    }

    int many(int kinds) {
        return kinds >= 0 && kinds <= 31 ? these(kinds).size() : NONE;
    }

    int nth(int kinds, int k) {
        return kinds >= 0 && kinds <= 31 ? nth(these(kinds), k) : NONE;
    }

    static int nth(List<Integer> list, int k) {
        return k >= 0 && k < list.size() ? list.get(k) : NONE;
    }

    int rival(int c) {
        return isCoalition(c) ? rivalOf(c) : NONE;
    }

    int beats(int one, int other) {
        if (!isCoalition(one) || !isCoalition(other)) return NONE;
        int glad = 0;
        for (int p = 0; p < n(); p++) if (grief(one, 1, p) < grief(other, 1, p)) glad += seatsOf(p);
        return glad >= need() ? 1 : 0;
    }

    int unbeaten(int k) {
        List<Integer> list = new ArrayList<>();
        for (int c : all()) {
            if (can(c) && all().stream().noneMatch(d -> can(d) && beats(d, c) == 1)) list.add(c);
        }
        return k == NONE ? list.size() : nth(list, k);
    }

    int enough(int c, int p) {
        if (!isCoalition(c) || !isParty(p) || !in(p, c)) return NONE;
        int kept = seatsOf(p);
        int enough = NONE;
        for (int n = 999; n >= 1; n--) {
            h.of.get(p)[0] = n;
            if (majority(c)) enough = n;
        }
        h.of.get(p)[0] = kept;
        return enough;
    }

    int span(int c) {
        if (!isCoalition(c)) return NONE;
        TreeSet<Integer> places = new TreeSet<>();
        for (int p : members(c)) places.add(placeOf(p));
        return places.last() - places.first();
    }

    int median() {
        List<Integer> line = members((1 << n()) - 1);
        line.sort((p, q) -> placeOf(p) != placeOf(q) ? placeOf(p) - placeOf(q) : p - q);
        int soFar = 0;
        for (int p : line) {
            soFar += seatsOf(p);
            if (2 * soFar >= sum((1 << n()) - 1)) return p;
        }
        return NONE;
    }

    int needed(int p) {
        if (!isParty(p)) return NONE;
        int count = 0;
        for (int c : all()) if (in(p, c) && majority(c) && !majority(c & ~(1 << p))) count++;
        return count;
    }

    int pivot(int p) {
        return isParty(p) ? orders(0, p) : NONE;
    }

    int orders(int soFar, int p) {
        int count = 0;
        for (int q = 0; q < n(); q++) {
            if (in(q, soFar)) continue;
            if (q != p) {
                if (!majority(soFar | 1 << q)) count += orders(soFar | 1 << q, p);
            } else if (majority(soFar | 1 << p)) {
                int rest = 1;
                for (int i = n() - Integer.bitCount(soFar) - 1; i > 1; i--) rest *= i;
                count += rest;
            }
        }
        return count;
    }

    int joins(int c) {
        if (!isCoalition(c)) return NONE;
        for (int many = 0; many <= n(); many++) {
            for (int x = 0; x < 1 << n(); x++) {
                if (Integer.bitCount(x) == many && (x & c) == 0 && can(c | x)) return x;
            }
        }
        return NONE;
    }

    int dream(int p) {
        if (!isParty(p)) return NONE;
        int best = 0;
        for (int c : all()) if (can(c) && (best == 0 || pay(c, p) > pay(best, p))) best = c;
        return best;
    }

    int drift(int c, int what) {
        if (!isCoalition(c) || what < 0 || what > 1) return NONE;
        LinkedHashSet<Integer> way = new LinkedHashSet<>();
        int here = c;
        way.add(here);
        while (true) {
            int next = rivalOf(here);
            if (next == 0) return what == 0 ? way.size() - 1 : here;
            if (!way.add(next)) return what == 0 ? way.size() - 1 : 0;
            here = next;
        }
    }

    // ---- FORMING

    record Forming(List<int[]> tries, int rounds, int formed) {
    }

    Forming form() {
        List<int[]> tries = new ArrayList<>();
        List<Integer> formers = members((1 << n()) - 1);
        formers.sort((p, q) -> seatsOf(p) != seatsOf(q) ? seatsOf(q) - seatsOf(p) : p - q);
        for (int round = 1; round <= 9; round++) {
            Set<Integer> tried = new HashSet<>();
            for (int former : formers) {
                for (int n = 0; n < h.only("tries", 1); n++) {
                    List<Integer> open = new ArrayList<>();
                    for (int c : all()) if (can(c) && in(former, c) && !tried.contains(c)) open.add(c);
                    if (open.isEmpty()) break;
                    open.sort((c, d) -> pay(c, former) != pay(d, former) ? pay(d, former) - pay(c, former)
                        : Integer.bitCount(c) != Integer.bitCount(d) ? Integer.bitCount(c) - Integer.bitCount(d) : c - d);
                    int c = open.get(0);
                    tried.add(c);
                    int out = 0;
                    for (int p : members(c)) {
                        if (pay(c, p) < walkOf(p) - h.only("tire", 0) * (round - 1)) out |= 1 << p;
                    }
                    tries.add(new int[] {former, c, out});
                    if (out == 0) return new Forming(tries, round, c);
                }
            }
        }
        return new Forming(tries, 9, 0);
    }

    int formed(int what) {
        if (n() == 0 || what < 0 || what > 3) return NONE;
        Forming f = form();
        if (what == 0) return f.formed;
        if (what == 1) return f.tries.size();
        if (what == 2) return f.rounds;
        return f.tries.isEmpty() ? NONE : f.tries.get(f.tries.size() - 1)[0];
    }

    int tried(int i, int what) {
        if (n() == 0 || i < 0 || what < 0 || what > 2) return NONE;
        Forming f = form();
        return i < f.tries.size() ? f.tries.get(i)[what] : NONE;
    }

    // ---- NOW

    List<Integer> held(int p) {
        List<Integer> held = new ArrayList<>();
        for (int o = 0; nowCoalition != 0 && o < o(); o++) if (holder[o] != null && holder[o] == p) held.add(o);
        return held;
    }

    void act() {
        List<int[]> copy = new ArrayList<>();
        for (int[] row : h.of) copy.add(row.clone());
        acts.add(new Object[] {nowCoalition, holder.clone(), copy});
        if (acts.size() > 12) acts.remove(0);
    }

    int hold(int c, int way) {
        if (!isCoalition(c) || !isWay(way)) return NONE;
        act();
        nowCoalition = c;
        holder = Arrays.stream(picks(c, way)).boxed().toArray(Integer[]::new);
        return new HashSet<>(Arrays.asList(holder)).size();
    }

    int now(int o) {
        if (o == NONE) return nowCoalition;
        return isOffice(o) && nowCoalition != 0 && holder[o] != null ? holder[o] : NONE;
    }

    int go(int p) {
        List<Integer> open = held(p);
        int open0 = open.size();
        nowCoalition &= ~(1 << p);
        for (int o : open) holder[o] = null;
        while (!open.isEmpty() && nowCoalition != 0) {
            int[] have = new int[8];
            for (Integer q : holder) if (q != null) have[q]++;
            int taker = next(nowCoalition, have, h.only("divisors", 1), h.only("step", 1));
            int best = open.get(0);
            for (int o : open) if (w(taker, o) > w(taker, best)) best = o;
            holder[best] = taker;
            open.remove((Integer) best);
        }
        return open0;
    }

    int leave(int p) {
        if (!isParty(p) || !in(p, nowCoalition)) return NONE;
        act();
        return go(p);
    }

    int payNow(int p) {
        if (!isParty(p) || nowCoalition == 0) return NO;
        return payBy(held(p).stream().mapToInt(o -> w(p, o)).sum(), p, nowCoalition);
    }

    int crisis() {
        int gone = 0;
        while (true) {
            int leaver = NONE;
            for (int p : members(nowCoalition)) if (leaver == NONE && payNow(p) < walkOf(p)) leaver = p;
            if (leaver == NONE) return gone;
            if (gone == 0) act();
            go(leaver);
            gone++;
        }
    }

    int trade(int a, int b) {
        int p = now(a < 0 ? 99 : a);
        int q = now(b < 0 ? 99 : b);
        if (p == NONE || q == NONE || p == q) return NO;
        act();
        holder[a] = q;
        holder[b] = p;
        return w(q, a) + w(p, b) - w(p, a) - w(q, b);
    }

    int seats(int p, int n) {
        if (!isParty(p) || n < 1 || n > 999 || seatsOf(p) == n) return NONE;
        act();
        int before = seatsOf(p);
        h.of.get(p)[0] = n;
        foreseen.clear();
        return before;
    }

    int above() {
        return nowCoalition == 0 ? NO : sum(nowCoalition) - need();
    }

    @SuppressWarnings("unchecked")
    int undo() {
        if (acts.isEmpty()) return NONE;
        Object[] last = acts.remove(acts.size() - 1);
        nowCoalition = (Integer) last[0];
        holder = (Integer[]) last[1];
        h.of = (List<int[]>) last[2];
        foreseen.clear();
        return acts.size();
    }

    int judge(int c, int what) {
        if (!isCoalition(c) || what < 0 || what > 3) return NONE;
        String text = tape.toString();
        tape.setLength(0);
        if (text.length() != o()) return -2;
        int[] holders = text.chars().toArray();
        for (int p : holders) if (!isParty(p) || !in(p, c)) return -2;
        int together = 0;
        int most = 0;
        for (int o = 0; o < o(); o++) {
            int office = o;
            together += w(holders[o], o);
            most += members(c).stream().mapToInt(p -> w(p, office)).max().getAsInt();
        }
        int unkept = 0;
        for (int p : members(c)) if (counts(holders)[p] != counts(turns(c))[p]) unkept++;
        return new int[] {pairs(holders).size(), together, most - together, unkept}[what];
    }
}
