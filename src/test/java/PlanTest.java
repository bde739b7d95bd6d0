/** Promises 10 to 13: plans, what bars them, what a taster is worth. */
public final class PlanTest {
    private static final Check CHECK = new Check("PlanTest");

    public static void main(String[] args) {
        nothingToTaste();
        wrongInputs();
        latestTick();
        fewestThenColdThenFirst();
        capsShareTheWork();
        firstRowOfAnotherCompany();
        keeps();
        bars();
        worth();
        CHECK.finish();
    }

    private static void nothingToTaste() {
        TasterTable none = new TasterTable();
        CHECK.same("no dishes", 0, () -> none.plan(2, 0));
        CHECK.same("no cold", 0, () -> none.plan(2, 1));
        CHECK.same("no dish is planned", Check.NO_SUCH, () -> none.planned(0, 0));
        TasterTable dry = Check.made("poison 40 wine;taster dog;");
        CHECK.same("a poison but no dish", 0, () -> dry.plan(2, 0));
        CHECK.same("nothing bars", -1, () -> dry.bars(2));
        TasterTable safe = Check.made("dish 3 9;dish 1 4;taster plain;");
        CHECK.same("no poison: nobody", 0, () -> safe.plan(2, 0));
        CHECK.same("no poison: no cold", 0, () -> safe.plan(2, 1));
        CHECK.same("the empty set", 0, () -> safe.planned(0, 0));
        CHECK.same("tasted when served", 9, () -> safe.planned(0, 1));
        CHECK.same("the other one too", 4, () -> safe.planned(1, 1));
    }

    private static void wrongInputs() {
        TasterTable x = Check.made("dish 0 9;poison 3;taster plain;");
        CHECK.same("planned before any plan", Check.NO_SUCH, () -> x.planned(0, 0));
        CHECK.same("plan what 2", Check.NO_SUCH, () -> x.plan(0, 2));
        CHECK.same("plan what -1 is ahead of lies", Check.NO_SUCH, () -> x.plan(3, -1));
        CHECK.same("plan lies 3", Check.ILLEGAL, () -> x.plan(3, 0));
        CHECK.same("plan lies -1", Check.ILLEGAL, () -> x.plan(-1, 1));
        CHECK.same("bars lies 3", Check.ILLEGAL, () -> x.bars(3));
        CHECK.same("bars lies -1", Check.ILLEGAL, () -> x.bars(-1));
        CHECK.same("worth lies 3", Check.ILLEGAL, () -> x.worth(0, 3));
        CHECK.same("worth lies -1", Check.ILLEGAL, () -> x.worth(0, -1));
        CHECK.same("worth of no taster is ahead", Check.NO_SUCH, () -> x.worth(1, 3));
        CHECK.same("worth of -1", Check.NO_SUCH, () -> x.worth(-1, 0));
        x.plan(0, 0);
        CHECK.same("planned what 2", Check.NO_SUCH, () -> x.planned(0, 2));
        CHECK.same("planned what -1", Check.NO_SUCH, () -> x.planned(0, -1));
        CHECK.same("planned dish 1", Check.NO_SUCH, () -> x.planned(1, 0));
        CHECK.same("planned dish -1", Check.NO_SUCH, () -> x.planned(-1, 0));
    }

    private static void latestTick() {
        TasterTable just = Check.made("dish 10 15;poison 5;taster plain;");
        CHECK.same("at its last tick still", 1, () -> just.plan(0, 0));
        CHECK.same("tasted when ready", 10, () -> just.planned(0, 1));
        TasterTable late = Check.made("dish 10 14;poison 5;taster plain;");
        CHECK.same("a tick too late", -1, () -> late.plan(0, 0));
        CHECK.same("no cold either", -1, () -> late.plan(0, 1));
        TasterTable two = Check.made("dish 0 90;poison 5;poison 12 wine;taster plain;taster slow;taster drunk;");
        CHECK.same("slow one of two counts", 2, () -> two.plan(1, 0));
        CHECK.same("the second to tell", 16, () -> two.plan(1, 1));
        CHECK.same("plain and drunk", 5, () -> two.planned(0, 0));
        CHECK.same("three of three", 24, () -> two.plan(2, 1));
        CHECK.same("tick", 66, () -> two.planned(0, 1));
    }

    private static void fewestThenColdThenFirst() {
        TasterTable x = Check.made("dish 0 60;dish 5 70;poison 10;poison 20;"
                + "taster slow;taster plain;taster dog;taster plain;");
        CHECK.same("one does it", 1, () -> x.plan(0, 0));
        CHECK.same("the dog has least cold", 20, () -> x.plan(0, 1));
        CHECK.same("dog", 4, () -> x.planned(1, 0));
        CHECK.same("two do it", 2, () -> x.plan(1, 0));
        CHECK.same("with least cold", 40, () -> x.plan(1, 1));
        CHECK.same("the first such set", 6, () -> x.planned(0, 0));
        TasterTable liar = Check.made("dish 0 60;poison 10;taster liar;taster slow;");
        CHECK.same("no liar tastes", 2, () -> liar.plan(0, 0) + liar.planned(0, 0) - 1);
        CHECK.same("a liar is no witness", -1, () -> liar.plan(1, 0));
        TasterTable wine = Check.made("dish 0 60;poison 10 wine;poison 6;taster dog;taster plain;");
        CHECK.same("the dog has no wine", 1, () -> wine.plan(0, 0));
        CHECK.same("plain one", 2, () -> wine.planned(0, 0));
    }

    private static void capsShareTheWork() {
        TasterTable x = Check.made("dish 0 60;dish 0 60;dish 0 60;poison 10;"
                + "taster plain cap 2;taster plain cap 1;taster slow cap 3;");
        CHECK.same("a slow one alone", 1, () -> x.plan(0, 0));
        CHECK.same("is cold", 60, () -> x.plan(0, 1));
        TasterTable y = Check.made("dish 0 60;dish 0 60;dish 0 60;poison 10;"
                + "taster plain cap 2;taster plain cap 1;taster slow cap 2;");
        CHECK.same("two share", 2, () -> y.plan(0, 0));
        CHECK.same("with least cold", 30, () -> y.plan(0, 1));
        CHECK.same("first dish", 1, () -> y.planned(0, 0));
        CHECK.same("second dish", 1, () -> y.planned(1, 0));
        CHECK.same("third dish", 2, () -> y.planned(2, 0));
        TasterTable z = Check.made("dish 0 60;dish 0 12;poison 10;taster slow;taster plain cap 1;");
        CHECK.same("the cap is for whom it is wanted", 2, () -> z.plan(0, 0));
        CHECK.same("slow where there is time", 1, () -> z.planned(0, 0));
        CHECK.same("plain where there is none", 2, () -> z.planned(1, 0));
        CHECK.same("cold of both", 30, () -> z.plan(0, 1));
        TasterTable last = Check.made("dish 0 10;dish 3 13;poison 10;taster plain cap 1;taster plain cap 1;");
        CHECK.same("shared, at the last tick still", 2, () -> last.plan(0, 0));
        CHECK.same("tasted when ready", 3, () -> last.planned(1, 1));
        TasterTable w = Check.made("dish 0 60;".repeat(6) + "poison 7;" + "taster plain cap 3;".repeat(5));
        CHECK.same("30 of 15", -1, () -> w.plan(2, 0));
        CHECK.same("caps bar it", 99, () -> w.bars(2));
        CHECK.same("12 of 15", 4, () -> w.plan(1, 0));
        int[] sets = {3, 3, 3, 12, 12, 12};
        for (int dish = 0; dish < 6; dish++) {
            int d = dish;
            CHECK.same("set of dish " + dish, sets[d], () -> w.planned(d, 0));
        }
    }

    /** Of the four who share, 0 to 3 come first as a set, but another four have the first row. */
    private static void firstRowOfAnotherCompany() {
        TasterTable x = Check.made("dish 0 60;dish 0 60;" + "poison 5 hardens 1;".repeat(4)
                + "taster plain cap 1;".repeat(5) + "had 2 0 1;had 3 0 1;had 0 1 1;had 1 2 1;had 4 3 1;");
        CHECK.same("four", 4, () -> x.plan(0, 0));
        CHECK.same("of like cold", 10, () -> x.plan(0, 1));
        CHECK.same("the first row's first set", 3, () -> x.planned(0, 0));
        CHECK.same("the first row's second set", 20, () -> x.planned(1, 0));
    }

    private static void keeps() {
        TasterTable x = Check.made("dish 0 60;poison 10;taster plain;taster slow;");
        x.plan(1, 0);
        CHECK.same("the plan against one lie", 3, () -> x.planned(0, 0));
        CHECK.same("there is none", -1, () -> x.plan(2, 0));
        CHECK.same("it stays", 3, () -> x.planned(0, 0));
        x.bars(0);
        x.worth(0, 0);
        x.begin(5, 0, 5);
        CHECK.same("only plan() keeps one", 40, () -> x.planned(0, 1));
        CHECK.same("a refused call", Check.NO_SUCH, () -> x.plan(0, 7));
        CHECK.same("keeps none", 3, () -> x.planned(0, 0));
        x.plan(0, 1);
        CHECK.same("now another one", 1, () -> x.planned(0, 0));
        CHECK.same("its tick", 50, () -> x.planned(0, 1));
    }

    private static void bars() {
        TasterTable x = Check.made("dish 0 60;dish 0 9;poison 5;poison 10;poison 4 wine;taster plain;taster dog;taster liar;");
        CHECK.same("the dog tells in time of one, the plain one of the others", -1, () -> x.bars(0));
        CHECK.same("two want wine", 2, () -> x.bars(1));
        CHECK.same("three", 0, () -> x.bars(2));
        TasterTable y = Check.made("dish 0 60;dish 0 9;poison 5;poison 10;taster plain;taster plain;");
        CHECK.same("dish first", 11, () -> y.bars(0));
        CHECK.same("then poison", 0, () -> y.bars(2));
        TasterTable z = Check.made("dish 0 9;poison 5;taster plain cap 0;");
        CHECK.same("his cap bars it", 99, () -> z.bars(0));
        CHECK.same("he alone isn't enough", 0, () -> z.bars(1));
        TasterTable hard = Check.made("dish 0 9;poison 5 hardens 1;taster plain;taster plain;had 0 0 1;");
        CHECK.same("the other one feels it", -1, () -> hard.bars(0));
        CHECK.same("he doesn't", 0, () -> hard.bars(1));
        CHECK.same("no taster", 0, () -> Check.made("dish 0 9;poison 1;").bars(0));
    }

    private static void worth() {
        TasterTable x = Check.made("dish 0 60;dish 0 60;poison 10;poison 20 hardens 1;"
                + "taster dog;taster plain;taster slow;taster liar;taster plain;had 1 1 1;had 4 1 1;");
        CHECK.same("the plan", 20, () -> x.plan(0, 1));
        CHECK.same("without the dog the slow one tastes", 60, () -> x.worth(0, 0));
        CHECK.same("others are worth nothing", 0, () -> x.worth(1, 0));
        CHECK.same("a liar", 0, () -> x.worth(3, 0));
        CHECK.same("one only with him", -1, () -> x.worth(0, 1));
        CHECK.same("no plan at all", 0, () -> x.worth(0, 2));
        TasterTable more = Check.made("dish 0 60;poison 10;poison 20 wine;taster slow;taster dog;taster drunk cap 0;"
                + "taster plain cap 0;");
        CHECK.same("the slow one alone", 40, () -> more.plan(0, 1));
        CHECK.same("nobody in his place", -1, () -> more.worth(0, 0));
        TasterTable two = Check.made("dish 0 60;poison 30 hardens 1;poison 20 hardens 1;taster slow;taster plain;"
                + "taster plain;had 1 0 1;had 2 1 1;");
        CHECK.same("one taster", 1, () -> two.plan(0, 0));
        CHECK.same("of much cold", 60, () -> two.plan(0, 1));
        CHECK.same("two tasters, less cold", 970, () -> two.worth(0, 0));
    }
}
