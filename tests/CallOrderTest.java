import java.util.ArrayList;
import java.util.List;
import java.util.function.ToIntFunction;

/** What is kept from one call for the next ones shows in no answer: each call is asked first, last, and behind other HOUSES. */
public final class CallOrderTest extends Asking {
    // p and q have a TURN each. PAY by {p}: 40, -9; by {q}: -9, 70; by both (p has b, q has a; MIDDLE 4): 26, 15.
    // GRIEF by {p}: 0, 43; by {q}: 25, 0; by both: 4, 35. need is 5: {p} and both CAN be.
    private static final String HOUSE = "care 1;office a;office b;party p seats 5 at 0;party q seats 4 at 9;worth p a 1;"
        + "worth p b 3;worth q a 2;worth q b 5;stance p a 5;stance p b 2;stance q a 1;stance q b 9;";
    // The same TURNS, all else is other: p has a, q has b; none CAN be but both, for one OFFICE more there's a third PARTY.
    private static final String OTHER = "need 9;care 3;tries 2;office a;office b;party p seats 5 at 7;party q seats 4 at 2 walk 99;"
        + "worth p a 7;worth p b 1;worth q a 6;worth q b 2;stance p a 1;stance q b 2;";
    private static final String THIRD = OTHER + "office c;party r seats 3 at 5;bar p r;";

    private record Ask(String name, ToIntFunction<TurnCabinet> call, int due) {
    }

    private static final List<Ask> ASKS = new ArrayList<>();

    private static void ask(String name, int due, ToIntFunction<TurnCabinet> call) {
        ASKS.add(new Ask(name, call, due));
    }

    public static void main(String[] args) {
        turnsAndPicks();
        coalitions();
        counts();
        forming();
        inOffice();
        first();
        inARow();
        behindOtherHouses();
        behindOtherSeats();
        aheadOfOtherHouses();
        end();
    }

    private static void turnsAndPicks() {
        ask("turn", 1, x -> x.turn(3, 1));
        ask("turnBy", 1, x -> x.turnBy(3, 1, 1, 1));
        ask("turnBy 99 1", 0, x -> x.turnBy(3, 99, 1, 1));
        ask("gets SHORT", 1, x -> x.gets(3, 0, 0));
        ask("gets FORESEEN", 1, x -> x.gets(3, 1, 0));
        ask("gets SETTLED", 0, x -> x.gets(3, 2, 1));
        ask("has FORESEEN", 3, x -> x.has(3, 1, 0));
        ask("has SETTLED", 2, x -> x.has(3, 2, 1));
        ask("swaps", 0, x -> x.swaps(3));
        ask("instead of a", 1, x -> x.instead(3, 0, 0));
        ask("instead of b", 3, x -> x.instead(3, 0, 1));
        ask("instead of q", 2, x -> x.instead(3, 1, 0));
        ask("instead of q alone", 7, x -> x.instead(2, 0, 0));
        ask("middle", 4, x -> x.middle(3));
        ask("pay", 15, x -> x.pay(3, 1));
        ask("pay by q alone", -9, x -> x.pay(2, 0));
        ask("policy", 1, x -> x.policy(3, 1, 0));
        ask("grief", 35, x -> x.grief(3, 1, 1));
        ask("envy", 1, x -> x.envy(3, 1));
        ask("kept together", 6, x -> x.kept(3, 0));
        ask("kept at least", 2, x -> x.kept(3, 1));
    }

    private static void coalitions() {
        ask("kind of p", 31, x -> x.kind(1));
        ask("kind of q", 10, x -> x.kind(2));
        ask("kind of both", 11, x -> x.kind(3));
        ask("many HOLD", 1, x -> x.many(16));
        ask("nth MAJORITY", 3, x -> x.nth(1, 1));
        ask("nth that HOLDS", 1, x -> x.nth(16, 0));
        ask("rival of p", 0, x -> x.rival(1));
        ask("rival of q", 1, x -> x.rival(2));
        ask("rival of both", 1, x -> x.rival(3));
        ask("beats", 1, x -> x.beats(1, 2));
        ask("beats both", 1, x -> x.beats(1, 3));
        ask("beats not", 0, x -> x.beats(2, 1));
        ask("unbeaten", 1, x -> x.unbeaten(-1));
        ask("unbeaten first", 1, x -> x.unbeaten(0));
        ask("drift of q", 1, x -> x.drift(2, 0));
        ask("drift of q ends", 1, x -> x.drift(2, 1));
        ask("drift of both ends", 1, x -> x.drift(3, 1));
        ask("dream of p", 1, x -> x.dream(0));
        ask("dream of q", 3, x -> x.dream(1));
    }

    private static void counts() {
        ask("enough", 5, x -> x.enough(1, 0));
        ask("span", 9, x -> x.span(3));
        ask("median", 0, x -> x.median());
        ask("needed", 2, x -> x.needed(0));
        ask("pivot", 2, x -> x.pivot(0));
        ask("pivot of q", 0, x -> x.pivot(1));
        ask("joins", 1, x -> x.joins(2));
        ask("joins of none", 0, x -> x.joins(1));
        ask("need", 5, x -> x.about(2));
        ask("bars", 0, x -> x.party(0, 4));
    }

    private static void forming() {
        ask("formed", 1, x -> x.formed(0));
        ask("formed TRIES", 1, x -> x.formed(1));
        ask("formed FORMER", 0, x -> x.formed(3));
        ask("tried FORMER", 0, x -> x.tried(0, 0));
        ask("tried COALITION", 1, x -> x.tried(0, 1));
        ask("tried WALK OUT", 0, x -> x.tried(0, 2));
        ask("tried no more", -1, x -> x.tried(1, 0));
    }

    private static void inOffice() {
        ask("hold", 2, x -> x.hold(3, 1));
        ask("now", 1, x -> { x.hold(3, 2); return x.now(0); });
        ask("payNow", 15, x -> { x.hold(3, 1); return x.payNow(1); });
        ask("leave", 1, x -> { x.hold(3, 1); return x.leave(0); });
        ask("crisis", 0, x -> { x.hold(3, 1); return x.crisis(); });
        ask("trade", 1, x -> { x.hold(3, 1); return x.trade(0, 1); });
        ask("above", 4, x -> { x.hold(3, 0); return x.above(); });
        ask("judge SWAPS", 0, x -> { tell(x, "\1\0"); return x.judge(3, 0); });
        ask("judge most", 2, x -> { tell(x, "\1\0"); return x.judge(3, 2); });
        ask("judge counts", 2, x -> { tell(x, "\1\1"); return x.judge(3, 3); });
    }

    private static void askAll(TurnCabinet x) {
        for (Ask a : ASKS) a.call.applyAsInt(x);
    }

    private static void dueOf(Ask a, TurnCabinet x) {
        due(a.name, a.call.applyAsInt(x), a.due);
    }

    private static void first() {
        about("as the first call");
        for (Ask a : ASKS) dueOf(a, of(HOUSE));
        about("as the first call, and again");
        for (Ask a : ASKS) {
            TurnCabinet x = of(HOUSE);
            a.call.applyAsInt(x);
            dueOf(a, x);
        }
    }

    private static void inARow() {
        about("one behind the other");
        TurnCabinet x = of(HOUSE);
        for (Ask a : ASKS) dueOf(a, x);
        about("the last one first");
        TurnCabinet y = of(HOUSE);
        for (int i = ASKS.size() - 1; i >= 0; i--) dueOf(ASKS.get(i), y);
    }

    private static void behindOtherHouses() {
        for (String other : new String[] {OTHER, THIRD, "", "party p seats 5 at 0;"}) {
            about("behind the HOUSE [" + other + "]");
            for (Ask a : ASKS) {
                TurnCabinet x = of(other);
                askAll(x);
                x.end(0);
                tell(x, HOUSE);
                due("house()", x.house(), 2);
                dueOf(a, x);
            }
            about("behind just that in the HOUSE [" + other + "]");
            for (Ask a : ASKS) {
                TurnCabinet x = of(other);
                a.call.applyAsInt(x);
                x.end(0);
                tell(x, HOUSE);
                x.house();
                dueOf(a, x);
            }
        }
        about("behind a text with a FAULT");
        for (Ask a : ASKS) {
            TurnCabinet x = of(HOUSE);
            a.call.applyAsInt(x);
            x.end(0);
            tell(x, THIRD + "office a;");
            due("house()", x.house(), -1);
            dueOf(a, x);
        }
    }

    /** Behind the HOUSE another one answers as in a new object. */
    private static void aheadOfOtherHouses() {
        String[] others = {OTHER, THIRD, HOUSE.replace("p seats 5", "p seats 50"), HOUSE.replace("q seats 4", "q seats 50"), ""};
        for (String other : others) {
            about("in the HOUSE [" + other + "]");
            for (Ask a : ASKS) {
                TurnCabinet x = of(HOUSE);
                askAll(x);
                x.end(0);
                tell(x, other);
                x.house();
                due(a.name, a.call.applyAsInt(x), a.call.applyAsInt(of(other)));
            }
        }
    }

    private static void behindOtherSeats() {
        // By 4 and 9 q has the first TURN, by 10 and 1 (or 50) p has all; then SEATS are as they were.
        int[][] others = {{1, 9}, {0, 10}, {1, 50}, {0, 1}};
        for (int[] other : others) {
            about("behind " + other[1] + " SEATS of " + other[0]);
            for (Ask a : ASKS) {
                TurnCabinet x = of(HOUSE);
                a.call.applyAsInt(x);
                x.seats(other[0], other[1]);
                askAll(x);
                x.seats(other[0], other[0] == 0 ? 5 : 4);
                dueOf(a, x);
            }
            about("behind " + other[1] + " SEATS of " + other[0] + ", undone");
            for (Ask a : ASKS) {
                TurnCabinet x = of(HOUSE);
                x.seats(other[0], other[1]);
                x.pay(3, 0);
                x.unbeaten(-1);
                x.formed(0);
                x.drift(2, 0);
                x.undo();
                dueOf(a, x);
            }
        }
        // As one that is told with these SEATS, an object with SEATS that became these.
        for (int[] other : others) {
            about("with " + other[1] + " SEATS of " + other[0] + " as told");
            String name = other[0] == 0 ? "p seats 5" : "q seats 4";
            TurnCabinet told = of(HOUSE.replace(name, name.substring(0, 8) + other[1]));
            for (Ask a : ASKS) {
                TurnCabinet x = of(HOUSE);
                askAll(x);
                x.seats(other[0], other[1]);
                due(a.name, a.call.applyAsInt(x), a.call.applyAsInt(told));
            }
        }
    }
}
