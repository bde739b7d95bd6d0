/** Promises 14 to 21: events, cases that fit, odds, pairs, what to try next, what waiting tells. */
public final class EventTest {
    private static final Check CHECK = new Check("EventTest");

    public static void main(String[] args) {
        events();
        sixtyEvents();
        undo();
        cases();
        liarsDontCount();
        twiceEaten();
        odds();
        pairs();
        next();
        waiting();
        CHECK.finish();
    }

    private static void events() {
        TasterTable x = Check.made("dish 0 20;poison 5;taster plain;taster dog;");
        CHECK.same("ate at 0", 1, () -> x.ate(0, 0, 0, false));
        CHECK.same("ate at 999", 2, () -> x.ate(1, 0, 999, true));
        CHECK.same("now", 999, () -> x.count(5));
        CHECK.same("ate at 1000", -1, () -> x.ate(0, 0, 1000, false));
        CHECK.same("ate at -1", -1, () -> x.ate(0, 0, -1, false));
        CHECK.same("fell at 1000", -1, () -> x.fell(0, 1000));
        CHECK.same("fell at -1", -1, () -> x.fell(0, -1));
        CHECK.same("refused", 4, () -> x.count(8));
        CHECK.same("an earlier tick", 3, () -> x.fell(0, 7));
        CHECK.same("now is the greatest", 999, () -> x.count(5));
        CHECK.same("when he fell", 7, () -> x.taster(0, 2));
        CHECK.same("he fell already", -1, () -> x.fell(0, 8));
        CHECK.same("when he fell still", 7, () -> x.taster(0, 2));
        CHECK.same("the other one may fall", 4, () -> x.fell(1, 0));
        CHECK.same("fell at 0", 0, () -> x.taster(1, 2));
        CHECK.same("who fell may have eaten", 5, () -> x.ate(0, 0, 3, true));
        CHECK.same("no such taster", Check.NO_SUCH, () -> x.ate(2, 0, 5000, false));
        CHECK.same("taster -1", Check.NO_SUCH, () -> x.ate(-1, 0, 5, false));
        CHECK.same("no such dish", Check.NO_SUCH, () -> x.ate(0, 1, 5000, false));
        CHECK.same("dish -1", Check.NO_SUCH, () -> x.ate(0, -1, 5, false));
        CHECK.same("no such taster fell", Check.NO_SUCH, () -> x.fell(2, 5000));
        CHECK.same("taster -1 fell", Check.NO_SUCH, () -> x.fell(-1, 5));
        CHECK.same("refused with NONE alone", 5, () -> x.count(8));
        CHECK.same("events", 5, () -> x.count(4));
    }

    private static void sixtyEvents() {
        TasterTable x = Check.made("dish 0 20;poison 5;taster plain;");
        for (int i = 1; i <= 60; i++) {
            int due = i;
            CHECK.same("event " + i, due, () -> x.ate(0, 0, due, false));
        }
        CHECK.same("a 61st", -1, () -> x.ate(0, 0, 70, false));
        CHECK.same("a 61st that fell", -1, () -> x.fell(0, 70));
        CHECK.same("he didn't", -1, () -> x.taster(0, 2));
        CHECK.same("refused", 2, () -> x.count(8));
        CHECK.same("now", 60, () -> x.count(5));
        CHECK.same("one undone", 59, x::undo);
        CHECK.same("now again", 59, () -> x.count(5));
        CHECK.same("he fell", 60, () -> x.fell(0, 6));
        CHECK.same("what fits", 1, () -> x.cases(0));
    }

    private static void undo() {
        TasterTable x = Check.made("dish 0 20;poison 5;taster plain;");
        CHECK.same("nothing to undo", -1, x::undo);
        CHECK.same("isn't refused as an event", 0, () -> x.count(8));
        x.ate(0, 0, 50, false);
        x.fell(0, 70);
        CHECK.same("now", 70, () -> x.count(5));
        CHECK.same("the fall is undone", 1, x::undo);
        CHECK.same("he didn't fall", -1, () -> x.taster(0, 2));
        CHECK.same("now", 50, () -> x.count(5));
        CHECK.same("he may fall again", 2, () -> x.fell(0, 55));
        x.undo();
        CHECK.same("all undone", 0, x::undo);
        CHECK.same("now", 0, () -> x.count(5));
        CHECK.same("nothing more", -1, x::undo);
    }

    private static void cases() {
        TasterTable x = Check.made("dish 0 20;dish 0 20;poison 5;poison 8 wine;poison 5 hardens 1;"
                + "taster plain;taster dog;had 1 2 1;");
        CHECK.same("all fit", 7, () -> x.cases(-1));
        CHECK.same("the last", 6, () -> x.cases(6));
        CHECK.same("none behind", Check.NO_SUCH, () -> x.cases(7));
        CHECK.same("i -2", Check.NO_SUCH, () -> x.cases(-2));
        CHECK.same("least i", Check.NO_SUCH, () -> x.cases(Integer.MIN_VALUE));
        x.ate(0, 1, 10, true);
        x.ate(1, 1, 10, true);
        x.ate(1, 0, 12, false);
        CHECK.same("none has shown", 7, () -> x.cases(-1));
        x.ate(1, 0, 13, false);
        CHECK.same("case 4 showed in the dog at 13", 6, () -> x.cases(-1));
        CHECK.same("case 3", 3, () -> x.cases(3));
        CHECK.same("case 5", 5, () -> x.cases(4));
        x.fell(0, 15);
        CHECK.same("case 6 alone", 1, () -> x.cases(-1));
        CHECK.same("dish 1, poison 2", 6, () -> x.cases(0));
        CHECK.same("no more", Check.NO_SUCH, () -> x.cases(1));
        x.undo();
        x.fell(0, 18);
        CHECK.same("with wine at 18", 5, () -> x.cases(0));
        x.undo();
        x.fell(0, 17);
        CHECK.same("at 17 none", 0, () -> x.cases(-1));
        CHECK.same("no case", Check.NO_SUCH, () -> x.cases(0));
    }

    private static void liarsDontCount() {
        TasterTable x = Check.made("dish 0 20;poison 5;taster liar;");
        x.ate(0, 0, 1, false);
        x.fell(0, 3);
        CHECK.same("a liar's fall", 2, () -> x.cases(-1));
        x.undo();
        x.ate(0, 0, 90, false);
        CHECK.same("a liar who doesn't fall", 2, () -> x.cases(-1));
        CHECK.same("no liar is tried", -1, () -> x.next(0));
        CHECK.same("but it is later", 90, () -> x.count(5));
    }

    private static void twiceEaten() {
        TasterTable x = Check.made("dish 0 20;poison 9;poison 3 wine;taster plain;");
        x.ate(0, 0, 10, false);
        x.ate(0, 0, 4, false);
        x.ate(0, 0, 9, true);
        x.fell(0, 13);
        CHECK.same("the least tick of all", 1, () -> x.cases(0));
        CHECK.same("by one poison", 1, () -> x.cases(-1));
        x.undo();
        x.fell(0, 12);
        CHECK.same("the other with wine", 2, () -> x.cases(0));
    }

    private static void odds() {
        TasterTable x = Check.made("dish 0 20 weight 3;dish 0 20 weight 99;dish 0 20 weight 0;"
                + "poison 5 weight 4;poison 8 weight 99;taster plain;clean 9;");
        CHECK.same("dish 0", 103, () -> x.odds(0, 0));
        CHECK.same("of all", 3505, () -> x.odds(0, 1));
        CHECK.same("dish 1", 3399, () -> x.odds(1, 0));
        CHECK.same("of all", 3505, () -> x.odds(1, 1));
        CHECK.same("dish 2", 0, () -> x.odds(2, 0));
        CHECK.same("by 1", 1, () -> x.odds(2, 1));
        CHECK.same("nothing", 3, () -> x.odds(-1, 0));
        CHECK.same("of all", 3505, () -> x.odds(-1, 1));
        CHECK.same("no such dish", Check.NO_SUCH, () -> x.odds(3, 0));
        CHECK.same("dish -2", Check.NO_SUCH, () -> x.odds(-2, 0));
        CHECK.same("what 2", Check.NO_SUCH, () -> x.odds(0, 2));
        CHECK.same("what -1", Check.NO_SUCH, () -> x.odds(-1, -1));
        x.ate(0, 2, 1, false);
        x.fell(0, 6);
        CHECK.same("only cases of no weight", 1, () -> x.cases(-1));
        for (int dish = -1; dish < 3; dish++) {
            int d = dish;
            CHECK.same("0 by", 0, () -> x.odds(d, 0));
            CHECK.same("1", 1, () -> x.odds(d, 1));
        }
        TasterTable most = Check.made("dish 0 20 weight 99;".repeat(6) + "poison 5 weight 99;".repeat(5) + "clean 9999;");
        CHECK.same("greatest weights", 495, () -> most.odds(0, 0));
        CHECK.same("of all", 3071, () -> most.odds(0, 1));
        CHECK.same("of nothing", 101, () -> most.odds(-1, 0));
    }

    private static void pairs() {
        TasterTable x = Check.made("dish 0 20;dish 0 20;poison 5;poison 8;taster plain;taster plain;");
        CHECK.same("any two of four", 6, x::pairs);
        x.ate(0, 0, 1, false);
        x.ate(1, 1, 1, false);
        CHECK.same("none has shown", 6, x::pairs);
        x.fell(0, 6);
        CHECK.same("case 1 with 2 or 4", 2, () -> waited(x, 6));
        x.fell(1, 9);
        CHECK.same("no single case", 0, () -> x.cases(-1));
        CHECK.same("cases 1 and 4", 1, x::pairs);
        x.undo();
        x.undo();
        x.fell(0, 9);
        CHECK.same("4 has shown at 9, and 1 ahead of 2", 0, x::pairs);
        CHECK.same("no poisons", 0, () -> Check.made("dish 0 20;dish 0 20;taster plain;").pairs());
        CHECK.same("a case is no pair", 0, () -> Check.made("dish 0 20;poison 5;").pairs());
    }

    /** Pairs, when somebody eats so late that it is this tick. */
    private static int waited(TasterTable x, int tick) {
        x.ate(0, 0, tick, false);
        int found = x.pairs();
        x.undo();
        return found;
    }

    private static void next() {
        TasterTable x = Check.made("dish 0 20;dish 0 20;poison 5;poison 8 wine;poison 5;taster liar;taster slow;taster dog;");
        CHECK.same("what 2", Check.NO_SUCH, () -> x.next(2));
        CHECK.same("what -1", Check.NO_SUCH, () -> x.next(-1));
        CHECK.same("slow, dish 0, with wine", 21, () -> x.next(0));
        CHECK.same("the others are four", 4, () -> x.next(1));
        x.ate(1, 0, 0, true);
        x.ate(2, 0, 20, false);
        CHECK.same("nothing in dish 0", 4, () -> x.cases(-1));
        CHECK.same("dish 1, without wine of like ones", 22, () -> x.next(0));
        CHECK.same("two", 2, () -> x.next(1));
        x.fell(1, 999);
        CHECK.same("nothing fits", 0, () -> x.cases(-1));
        CHECK.same("who fell isn't tried", 40, () -> x.next(0));
        CHECK.same("no group", 0, () -> x.next(1));
        x.fell(2, 5);
        CHECK.same("nobody is left", -1, () -> x.next(0));
        CHECK.same("nor a group", -1, () -> x.next(1));
        TasterTable same = Check.made("dish 0 20;dish 0 20;poison 5;taster plain;taster plain;");
        CHECK.same("the first of like ones", 0, () -> same.next(0));
        CHECK.same("two cases are left", 2, () -> same.next(1));
        TasterTable nothing = Check.made("poison 5;taster plain;");
        CHECK.same("no dish to try", -1, () -> nothing.next(0));
        TasterTable safe = Check.made("dish 0 20;taster plain;");
        CHECK.same("no poison", 0, () -> safe.next(0));
        CHECK.same("one case", 1, () -> safe.next(1));
    }

    private static void waiting() {
        TasterTable x = Check.made("dish 0 20;poison 5;poison 8;taster plain;");
        x.ate(0, 0, 10, false);
        CHECK.same("now", 3, () -> x.waiting(10));
        CHECK.same("ahead of it", 3, () -> x.waiting(14));
        CHECK.same("at that tick", 2, () -> x.waiting(15));
        CHECK.same("behind both", 1, () -> x.waiting(18));
        CHECK.same("at last", 1, () -> x.waiting(2000));
        CHECK.same("beyond", Check.ILLEGAL, () -> x.waiting(2001));
        CHECK.same("below now", Check.ILLEGAL, () -> x.waiting(9));
        CHECK.same("below 0", Check.ILLEGAL, () -> new TasterTable().waiting(-1));
        CHECK.same("nothing is changed", 10, () -> x.count(5));
        x.fell(0, 18);
        CHECK.same("he fell", 1, () -> x.waiting(2000));
    }
}
