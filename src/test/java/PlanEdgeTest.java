/**
 * Boundary cases of promises 10 to 13 and of what Terms says of A PLAN, BARS and WORTH:
 * one test for each sentence that names one. What stands in quotes is the document's.
 */
public final class PlanEdgeTest {
    private static final Check CHECK = new Check("PlanEdgeTest");
    private static final int[] NO_LIES = {-1, 3, 4, Integer.MIN_VALUE, Integer.MAX_VALUE};
    private static final int[] NO_WHAT = {-1, 2, 3, Integer.MIN_VALUE, Integer.MAX_VALUE};

    public static void main(String[] args) {
        CHECK.runEach(PlanEdgeTest.class);
    }

    // ---- helpers ----

    /** A plan's tasters and cold, then each dish's set and tick; or that there is none. */
    private static void plan(String text, int lies, int... due) {
        TasterTable x = Check.made(text);
        String told = "'" + text + "' against " + lies;
        CHECK.same(told + ": TASTERS", due[0], () -> x.plan(lies, 0));
        CHECK.same(told + ": COLD", due[1], () -> x.plan(lies, 1));
        for (int i = 2; i < due.length; i++) {
            int dish = (i - 2) / 2;
            int what = i % 2;
            CHECK.same(told + ": planned(" + dish + ", " + what + ")", due[i], () -> x.planned(dish, what));
        }
    }

    private static void noPlan(String text, int lies, int bars) {
        plan(text, lies, -1, -1);
        TasterTable x = Check.made(text);
        CHECK.same("'" + text + "' against " + lies + ": BARS", bars, () -> x.bars(lies));
        x.plan(lies, 0);
        if (x.count(0) > 0) {
            CHECK.noSuch("'" + text + "': none is kept", () -> x.planned(0, 0));
        }
    }

    // ---- Promise 10: what is refused ----

    /** Promise 10: "NoSuchElementException: another what". */
    private static void planWhat() {
        TasterTable x = Check.made("dish 0 9;poison 3;taster plain;");
        for (int what : NO_WHAT) {
            CHECK.noSuch("plan(0, " + what + ")", () -> x.plan(0, what));
        }
    }

    /** Promise 10: "IllegalArgumentException ..: LIES"; Terms: "LIES (0 to 2)". */
    private static void planLies() {
        TasterTable x = Check.made("dish 0 9;poison 3;taster plain;taster plain;taster plain;");
        for (int lies : NO_LIES) {
            CHECK.illegal("plan(" + lies + ", 0)", () -> x.plan(lies, 0));
            CHECK.illegal("plan(" + lies + ", 1)", () -> x.plan(lies, 1));
        }
        for (int lies = 0; lies <= 2; lies++) {
            int l = lies;
            CHECK.same("plan(" + l + ", 0)", l + 1, () -> x.plan(l, 0));
        }
    }

    /** Promise 10: IllegalArgumentException comes "(behind that)", behind another what. */
    private static void planWhatIsAheadOfLies() {
        TasterTable x = new TasterTable();
        for (int lies : NO_LIES) {
            CHECK.noSuch("plan(" + lies + ", 2)", () -> x.plan(lies, 2));
        }
    }

    /** A call that throws keeps nothing. */
    private static void refusedPlanKeepsNothing() {
        TasterTable x = Check.made("dish 0 9;poison 3;taster plain;taster slow;");
        Check.of(() -> x.plan(0, 2));
        Check.of(() -> x.plan(3, 0));
        CHECK.noSuch("none is kept", () -> x.planned(0, 0));
        x.plan(1, 0);
        Check.of(() -> x.plan(0, 2));
        Check.of(() -> x.plan(-1, 0));
        CHECK.same("the earlier one is kept", 3, () -> x.planned(0, 0));
    }

    // ---- Promise 10 and Terms: THE PLAN at its edges ----

    /** No DISHES: nobody tastes, nothing is cold, whatever the LIES. */
    private static void planOfNoDishes() {
        for (int lies = 0; lies <= 2; lies++) {
            plan("", lies, 0, 0);
            plan("poison 40 wine;", lies, 0, 0);
            plan("taster liar;", lies, 0, 0);
        }
    }

    /** No POISONS: empty sets, "as few as can be" TICKS ahead of SERVED: at SERVED. */
    private static void planOfNoPoisons() {
        for (int lies = 0; lies <= 2; lies++) {
            plan("dish 0 95;dish 94 95;taster plain;", lies, 0, 0, 0, 95, 0, 95);
            plan("dish 3 7;", lies, 0, 0, 0, 7);
        }
    }

    /** No TASTERS, or none but liars ("no liars"). */
    private static void planOfNoTasters() {
        noPlan("dish 0 95;poison 1;", 0, 0);
        noPlan("dish 0 95;poison 1;" + "taster liar;".repeat(5), 0, 0);
    }

    /** "by when it is SERVED (at that TICK still)". */
    private static void showsAtThatTickStill() {
        plan("dish 3 8;poison 5;taster plain;", 0, 1, 5, 1, 3);
        noPlan("dish 4 8;poison 5;taster plain;", 0, 0);
        plan("dish 15 95;poison 40;taster slow;", 0, 1, 80, 1, 15);
        noPlan("dish 16 95;poison 40;taster slow;", 0, 0);
        plan("dish 51 95;poison 40 wine;taster drunk;", 0, 1, 44, 1, 51);
        noPlan("dish 52 95;poison 40 wine;taster drunk;", 0, 0);
        plan("dish 75 95;poison 39;taster dog;", 0, 1, 20, 1, 75);
        noPlan("dish 76 95;poison 39;taster dog;", 0, 0);
        plan("dish 94 95;poison 1;taster plain;", 0, 1, 1, 1, 94);
    }

    /** "READY or later": tasted as late as can be, not when it is READY. */
    private static void tastedAsLateAsCanBe() {
        plan("dish 0 95;poison 5;taster plain;", 0, 1, 5, 1, 90);
        plan("dish 0 95;poison 5;poison 30;poison 7;taster plain;", 0, 1, 30, 1, 65);
    }

    /** "with WINE (but dogs)". */
    private static void tastedWithWineButDogs() {
        plan("dish 0 95;poison 9 wine;taster dog;taster plain;", 0, 1, 9, 2, 86);
        noPlan("dish 0 95;poison 9 wine;taster dog;", 0, 0);
    }

    /** "each POISON shows in LIES and 1 of them or more". */
    private static void liesAndOneOfThem() {
        String three = "dish 0 95;poison 5;taster plain;taster slow;taster drunk;";
        plan(three, 0, 1, 5, 1, 90);
        plan(three, 1, 2, 9, 5, 86);
        plan(three, 2, 3, 10, 7, 85);
        String two = "dish 0 95;poison 5;taster plain;taster slow;taster liar;";
        plan(two, 1, 2, 10, 3, 85);
        noPlan(two, 2, 0);
        noPlan("dish 0 95;poison 5;taster plain;", 1, 0);
    }

    /** One who is hard to a POISON is no witness of it. */
    private static void hardOnesAreNoWitnesses() {
        plan("dish 0 95;poison 5 hardens 2;taster plain;taster slow;had 0 0 1;", 0, 1, 5, 1, 90);
        plan("dish 0 95;poison 5 hardens 2;taster plain;taster slow;had 0 0 2;", 0, 1, 10, 2, 85);
        noPlan("dish 0 95;poison 5 hardens 2;taster plain;taster slow;had 0 0 2;had 1 0 3;", 0, 0);
    }

    /** "no TASTER has more DISHES than his CAP": just so many are fine. */
    private static void capIsJustEnough() {
        plan("dish 0 95;".repeat(6) + "poison 5;taster plain;", 0, 1, 30);
        plan("dish 0 95;dish 0 95;poison 5;taster plain cap 2;", 0, 1, 10, 1, 90, 1, 90);
        noPlan("dish 0 95;dish 0 95;poison 5;taster plain cap 1;", 0, 99);
        plan("dish 0 95;dish 0 95;poison 5;taster plain cap 1;taster plain cap 1;", 0, 2, 10, 1, 90, 2, 90);
        noPlan("dish 0 95;".repeat(6) + "poison 5;taster plain cap 5;", 0, 99);
    }

    /** A CAP of 0: he tastes nothing. */
    private static void capOfNothing() {
        noPlan("dish 0 95;poison 5;taster plain cap 0;", 0, 99);
        plan("dish 0 95;poison 5;taster plain cap 0;taster slow;", 0, 1, 10, 2, 85);
        plan("dish 0 95;taster plain cap 0;", 2, 0, 0, 0, 95);
    }

    /** All CAPS together are just what the DISHES want, or one less. */
    private static void capsTogether() {
        String dishes = "dish 0 95;".repeat(5) + "poison 5;";
        plan(dishes + "taster plain cap 3;".repeat(5), 2, 5, 25,
                7, 90, 7, 90, 25, 90, 26, 90, 28, 90);
        noPlan(dishes + "taster plain cap 3;".repeat(4) + "taster plain cap 2;", 2, 99);
        plan(dishes + "taster plain cap 1;".repeat(5), 0, 5, 25, 1, 90, 2, 90, 4, 90, 8, 90, 16, 90);
        noPlan(dishes + "taster plain cap 1;".repeat(4), 0, 99);
    }

    /** "of fewest TASTERS in all", even if more of them would have less COLD. */
    private static void fewestComeAheadOfCold() {
        plan("dish 0 95;poison 40 hardens 1;poison 4 hardens 1;taster slow;taster plain;taster dog;had 1 1 1;had 2 0 1;",
                0, 1, 80, 1, 15);
        plan("dish 0 95;dish 0 95;poison 9;taster plain cap 1;taster plain cap 1;taster slow;", 0, 1, 36, 4, 77, 4, 77);
    }

    /** "of fewest TASTERS in all" are unlike ones: one who tastes every DISH counts once. */
    private static void tastersCountOnce() {
        plan("dish 0 95;".repeat(6) + "poison 1;taster plain;taster plain;", 1, 2, 6, 3, 94, 3, 94, 3, 94, 3, 94, 3, 94, 3, 94);
    }

    /** "of like ones of least COLD together", even if others come first as a row. */
    private static void coldComesAheadOfTheRow() {
        plan("dish 0 95;poison 9;taster slow;taster drunk;taster plain;taster dog;", 0, 1, 5, 8, 90);
        plan("dish 0 95;dish 0 95;poison 9;taster slow cap 1;taster plain cap 1;taster drunk cap 1;",
                0, 2, 22, 2, 86, 4, 82);
    }

    /** "of like ones the first as a row of sets (as bits) by DISHES". */
    private static void firstAsARow() {
        plan("dish 0 95;poison 9;" + "taster plain;".repeat(5), 2, 3, 9, 7, 86);
        plan("dish 0 95;dish 0 50;poison 9;taster plain cap 1;taster plain cap 1;taster plain cap 1;",
                0, 2, 18, 1, 86, 2, 41);
        plan("dish 0 95;dish 0 13;poison 9;taster plain cap 1;taster drunk cap 1;", 0, 2, 22, 1, 86, 2, 0);
        plan("dish 0 13;dish 0 9;poison 9;taster plain cap 1;taster drunk cap 1;", 0, 2, 22, 2, 0, 1, 0);
    }

    /** Of like ones, the first row may be that of another company than the first of like COLD that there is. */
    private static void firstRowOfAllCompanies() {
        String ahead = "dish 0 60;dish 0 60;" + "poison 5 hardens 1;".repeat(4) + "taster plain cap 1;".repeat(5);
        plan(ahead + "had 2 0 1;had 3 0 1;had 0 1 1;had 1 2 1;had 4 3 1;", 0, 4, 10, 3, 55, 20, 55);
        // the same with the least cold that there is
        plan(ahead.replace("poison 5", "poison 1") + "had 2 0 1;had 3 0 1;had 0 1 1;had 1 2 1;had 4 3 1;", 0, 4, 2, 3, 59, 20, 59);
        plan("dish 0 60;dish 0 60;poison 5;taster plain cap 1;taster slow cap 1;taster plain cap 1;", 0, 2, 10, 1, 55, 4, 55);
        plan("dish 0 9;dish 0 60;poison 5;taster slow cap 1;taster plain cap 1;taster plain cap 1;", 0, 2, 10, 2, 4, 4, 55);
    }

    /** All LIES and all TASTERS, asked of one object in any order, as of new ones. */
    private static void askedInAnyOrder() {
        String text = "dish 0 60;dish 2 40;poison 5 hardens 1;poison 9;taster slow cap 1;taster plain;taster drunk;taster dog;"
                + "taster plain cap 1;had 1 0 1;";
        TasterTable x = Check.made(text);
        for (int round = 0; round < 30; round++) {
            int lies = round * 7 % 3;
            int taster = round * 11 % 5;
            TasterTable fresh = Check.made(text);
            CHECK.same("worth(" + taster + ", " + lies + ")", fresh.worth(taster, lies), () -> x.worth(taster, lies));
            CHECK.same("bars(" + lies + ")", fresh.bars(lies), () -> x.bars(lies));
            CHECK.same("plan(" + lies + ", 0)", fresh.plan(lies, 0), () -> x.plan(lies, 0));
            CHECK.same("plan(" + lies + ", 1)", fresh.plan(lies, 1), () -> x.plan(lies, 1));
            if (x.plan(lies, 0) >= 0) {
                CHECK.same("planned(1, 0)", fresh.planned(1, 0), () -> x.planned(1, 0));
            }
        }
        int[] tasters = {1, 2, 4};
        int[] cold = {10, 26, 31};
        for (int lies = 0; lies < 3; lies++) {
            int l = lies;
            CHECK.same("TASTERS against " + l, tasters[l], () -> x.plan(l, 0));
            CHECK.same("COLD against " + l, cold[l], () -> x.plan(l, 1));
        }
    }

    /** No one stands in a set who isn't needed there: a smaller set of bits comes first. */
    private static void nobodyTooMuch() {
        plan("dish 0 95;dish 0 95;poison 6;poison 9 wine;taster dog cap 2;taster plain cap 1;taster plain cap 1;",
                0, 2, 18, 2, 86, 4, 86);
    }

    /** All five are needed, and in one way alone: who would taste the first DISHES best is wanted for the last. */
    private static void onlyOneWayToShare() {
        plan("dish 0 30;dish 0 30;dish 0 10;poison 10 hardens 1;poison 11 hardens 1;poison 11 hardens 1;"
                + "taster plain cap 1;taster dog cap 1;taster dog cap 1;taster slow cap 1;taster slow cap 1;"
                + "had 1 0 1;had 1 2 1;had 2 0 1;had 2 1 1;", 0, 5, 54, 8, 8, 16, 8, 7, 0);
    }

    /** Six DISHES, CAPS of two TASTERS that are just enough, one of them slower: he gets the last DISH. */
    private static void sixDishesOfTwo() {
        plan("dish 0 60;".repeat(6) + "poison 5;taster slow cap 5;taster plain cap 5;", 0, 2, 35,
                1, 50, 2, 55, 2, 55, 2, 55, 2, 55, 2, 55);
        plan("dish 0 60;".repeat(6) + "poison 5;taster plain cap 5;taster slow cap 1;", 0, 2, 35,
                1, 55, 1, 55, 1, 55, 1, 55, 1, 55, 2, 50);
        noPlan("dish 0 60;".repeat(6) + "poison 5;taster plain cap 3;taster slow cap 2;", 0, 99);
    }

    /** The greatest table: 6 DISHES, 5 POISONS, 5 TASTERS, LIES 2. */
    private static void greatestTable() {
        String full = "dish 15 95;".repeat(6) + "poison 40 weight 99;".repeat(5);
        plan(full + "taster slow;".repeat(5), 2, 3, 480, 7, 15, 7, 15, 7, 15, 7, 15, 7, 15, 7, 15);
        plan(full + "taster slow cap 4;".repeat(5), 2, 5, 480);
        noPlan(full + "taster slow cap 3;".repeat(5), 2, 99);
    }

    /** Promise 10: "NONE: there is none (what is kept stays)". */
    private static void noneKeepsWhatIsKept() {
        TasterTable x = Check.made("dish 0 95;poison 5;taster plain;taster slow;");
        x.plan(1, 1);
        CHECK.same("no PLAN, TASTERS", -1, () -> x.plan(2, 0));
        CHECK.same("no PLAN, COLD", -1, () -> x.plan(2, 1));
        CHECK.same("the set stays", 3, () -> x.planned(0, 0));
        CHECK.same("the TICK stays", 85, () -> x.planned(0, 1));
    }

    /** Promise 10: "it is kept", by either what, in place of an earlier one. */
    private static void eachPlanIsKept() {
        TasterTable x = Check.made("dish 0 95;poison 5;taster plain;taster slow;");
        x.plan(1, 0);
        CHECK.same("what 0", 3, () -> x.planned(0, 0));
        x.plan(0, 1);
        CHECK.same("what 1", 1, () -> x.planned(0, 0));
        x.plan(1, 1);
        CHECK.same("back again", 85, () -> x.planned(0, 1));
    }

    // ---- Promise 11 ----

    /** Promise 11: "NoSuchElementException: also none is kept", though there is one. */
    private static void nothingIsKeptAtFirst() {
        TasterTable x = Check.made("dish 0 95;poison 5;taster plain;");
        CHECK.noSuch("set", () -> x.planned(0, 0));
        CHECK.noSuch("TICK", () -> x.planned(0, 1));
        CHECK.same("BARS keep none", -1, () -> x.bars(0));
        CHECK.noSuch("behind bars()", () -> x.planned(0, 0));
    }

    /** Promise 11: "another what". */
    private static void plannedWhat() {
        TasterTable x = Check.made("dish 0 95;poison 5;taster plain;");
        x.plan(0, 0);
        for (int what : NO_WHAT) {
            CHECK.noSuch("planned(0, " + what + ")", () -> x.planned(0, what));
        }
    }

    /** Promise 11: no such DISH, though a PLAN is kept. */
    private static void plannedDish() {
        TasterTable x = Check.made("dish 0 95;dish 0 95;poison 5;taster plain;");
        x.plan(0, 0);
        for (int dish : new int[] {-1, 2, 6, Integer.MIN_VALUE, Integer.MAX_VALUE}) {
            CHECK.noSuch("planned(" + dish + ", 0)", () -> x.planned(dish, 0));
        }
        CHECK.same("the last", 1, () -> x.planned(1, 0));
        TasterTable none = new TasterTable();
        none.plan(0, 0);
        CHECK.noSuch("no DISHES", () -> none.planned(0, 0));
    }

    // ---- Promise 12 ----

    /** Promise 12: "IllegalArgumentException: LIES". */
    private static void barsLies() {
        TasterTable x = new TasterTable();
        for (int lies : NO_LIES) {
            CHECK.illegal("bars(" + lies + ")", () -> x.bars(lies));
        }
    }

    /** Promise 12: "NONE: there is a PLAN", of an empty table too. */
    private static void nothingBars() {
        for (int lies = 0; lies <= 2; lies++) {
            int l = lies;
            CHECK.same("empty", -1, () -> new TasterTable().bars(l));
            CHECK.same("no POISONS", -1, () -> Check.made("dish 0 1;").bars(l));
            CHECK.same("no DISHES", -1, () -> Check.made("poison 1;").bars(l));
            CHECK.same("three", -1, () -> Check.made("dish 0 1;poison 1;" + "taster plain;".repeat(3)).bars(l));
        }
    }

    /** Terms: "the first DISH, then POISON": from 0 to the last of both. */
    private static void firstDishThenPoison() {
        String dishes = "dish 0 40;".repeat(5);
        String poisons = "poison 1;".repeat(4);
        CHECK.same("the last of both", 54, () -> Check.made(dishes + "dish 0 39;" + poisons + "poison 40;taster plain;").bars(0));
        CHECK.same("the first of both", 0, () -> Check.made(dishes + poisons).bars(0));
        CHECK.same("an earlier DISH, a later POISON", 1,
                () -> Check.made("dish 0 9;dish 0 8;poison 9;poison 10;taster plain;").bars(0));
        CHECK.same("a later DISH", 10, () -> Check.made("dish 0 9;dish 0 8;poison 9;poison 1;taster plain;").bars(0));
        CHECK.same("the first POISON of it", 40,
                () -> Check.made("dish 0 9;".repeat(4) + "dish 0 1;poison 2;poison 3;taster plain;").bars(0));
    }

    /** Terms: "tasting it when it is READY, aren't enough (LIES and 1 of them in time)". */
    private static void enoughWhenReady() {
        String two = "poison 5;taster plain;taster slow;";
        CHECK.same("both just in time", -1, () -> Check.made("dish 10 20;" + two).bars(1));
        CHECK.same("one a TICK too late", 0, () -> Check.made("dish 11 20;" + two).bars(1));
        CHECK.same("the other just in time", -1, () -> Check.made("dish 15 20;" + two).bars(0));
        CHECK.same("a TICK too late", 0, () -> Check.made("dish 16 20;" + two).bars(0));
    }

    /** All TASTERS taste with WINE (but dogs), when what bars a PLAN is asked. */
    private static void barsWithWine() {
        CHECK.same("plain", -1, () -> Check.made("dish 0 20;poison 5 wine;taster plain;").bars(0));
        CHECK.same("a dog", 0, () -> Check.made("dish 0 20;poison 5 wine;taster dog;").bars(0));
    }

    /** Terms: "all TASTERS but liars". */
    private static void liarsAreNotEnough() {
        TasterTable x = Check.made("dish 0 20;poison 5;taster liar;taster plain;taster liar;");
        CHECK.same("one", -1, () -> x.bars(0));
        CHECK.same("two", 0, () -> x.bars(1));
    }

    /** Terms: "none of these: CAPS bar it", and what CAPS bar comes behind what else bars. */
    private static void capsBarIt() {
        CHECK.same("a CAP of 0", 99, () -> Check.made("dish 0 20;poison 5;taster plain cap 0;").bars(0));
        CHECK.same("another bar is ahead", 10, () -> Check.made("dish 0 20;dish 0 4;poison 5;taster plain cap 0;").bars(0));
        CHECK.same("two of three CAPS", 99,
                () -> Check.made("dish 0 20;dish 0 20;poison 5;" + "taster plain cap 1;".repeat(3)).bars(1));
        CHECK.same("just enough", -1,
                () -> Check.made("dish 0 20;dish 0 20;poison 5;" + "taster plain cap 1;".repeat(4)).bars(1));
    }

    /** The one DISH that only he has time for takes a CAP that others could have. */
    private static void capsBarByTime() {
        CHECK.same("both want him", 99,
                () -> Check.made("dish 0 5;dish 0 5;poison 5;taster plain cap 1;taster slow;").bars(0));
        CHECK.same("one wants him", -1,
                () -> Check.made("dish 0 5;dish 0 10;poison 5;taster plain cap 1;taster slow;").bars(0));
        CHECK.same("in the other order", -1,
                () -> Check.made("dish 0 10;dish 0 5;poison 5;taster plain cap 1;taster slow;").bars(0));
    }

    // ---- Promise 13 ----

    /** Promise 13: "IllegalArgumentException (behind NoSuchElementException): LIES". */
    private static void worthLies() {
        TasterTable x = Check.made("taster plain;");
        for (int lies : NO_LIES) {
            CHECK.illegal("worth(0, " + lies + ")", () -> x.worth(0, lies));
            CHECK.noSuch("worth(1, " + lies + ")", () -> x.worth(1, lies));
            CHECK.noSuch("worth(-1, " + lies + ")", () -> x.worth(-1, lies));
        }
    }

    /** Terms: "none, if there is one only with him". */
    private static void worthOnlyWithHim() {
        TasterTable x = Check.made("dish 0 20;poison 5;taster plain;taster plain;");
        CHECK.same("one of two against a lie", -1, () -> x.worth(0, 1));
        CHECK.same("the other too", -1, () -> x.worth(1, 1));
        CHECK.same("without lies the other does it", 0, () -> x.worth(0, 0));
    }

    /** Terms: "0, if there is none at all". */
    private static void worthOfNoPlan() {
        TasterTable x = Check.made("dish 0 20;poison 5;taster plain;taster plain;");
        CHECK.same("three of two", 0, () -> x.worth(0, 2));
        TasterTable capped = Check.made("dish 0 20;poison 5;taster plain cap 0;");
        CHECK.same("CAPS bar it", 0, () -> capped.worth(0, 0));
    }

    /** A liar, one with a CAP of 0, one of whom no DISH needs tasting: worth nothing. */
    private static void worthNothing() {
        TasterTable x = Check.made("dish 0 20;poison 5;taster plain;taster liar;taster dog cap 0;");
        CHECK.same("a liar", 0, () -> x.worth(1, 0));
        CHECK.same("a CAP of 0", 0, () -> x.worth(2, 0));
        CHECK.same("no DISHES", 0, () -> Check.made("poison 5;taster plain;").worth(0, 2));
        CHECK.same("no POISONS", 0, () -> Check.made("dish 0 5;taster plain;").worth(0, 2));
    }

    /** Terms: "1000 by how many TASTERS more ..., and the COLD more that it has". */
    private static void worthOfTastersAndCold() {
        TasterTable cold = Check.made("dish 0 90;dish 0 90;poison 40;taster dog;taster slow;");
        CHECK.same("the COLD alone", 120, () -> cold.worth(0, 0));
        TasterTable more = Check.made("dish 0 90;dish 0 90;dish 0 90;poison 6;taster dog;" + "taster plain cap 1;".repeat(3));
        CHECK.same("two TASTERS more and 9 COLD", 2009, () -> more.worth(0, 0));
    }

    /** Terms: "the COLD more that it has (perhaps less than 0)". */
    private static void worthOfLessCold() {
        TasterTable x = Check.made("dish 0 90;".repeat(2) + "poison 40;taster slow;taster dog cap 1;taster dog cap 1;");
        CHECK.same("one", 1, () -> x.plan(0, 0));
        CHECK.same("160 COLD", 160, () -> x.plan(0, 1));
        CHECK.same("one TASTER more, 120 less COLD", 880, () -> x.worth(0, 0));
    }

    /** WORTH asks for no PLAN to be kept, and keeps none. */
    private static void worthKeepsNothing() {
        TasterTable x = Check.made("dish 0 20;poison 5;taster plain;taster slow;");
        CHECK.same("worth", 5, () -> x.worth(0, 0));
        CHECK.noSuch("none is kept", () -> x.planned(0, 0));
        x.plan(1, 0);
        x.worth(0, 0);
        CHECK.same("what is kept stays", 3, () -> x.planned(0, 0));
    }
}
