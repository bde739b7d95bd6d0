/**
 * Boundary cases of promises 14 to 21 and of what Terms says of EVENTS, CASES, ODDS, PAIRS, NEXT and WAITING:
 * one test for each sentence that names one. What stands in quotes is the document's.
 */
public final class EventEdgeTest {
    private static final Check CHECK = new Check("EventEdgeTest");
    private static final int LEAST = Integer.MIN_VALUE;
    private static final int GREATEST = Integer.MAX_VALUE;
    private static final int[] NO_TICKS = {-1, 1000, 1001, 2000, LEAST, GREATEST};
    private static final int[] NO_WHAT = {-1, 2, 3, LEAST, GREATEST};
    private static final String SMALL = "dish 0 20;poison 5;taster plain;";
    private static final String FULL = "dish 0 20 weight 99;".repeat(6) + "poison 5 weight 99;".repeat(5)
            + "taster plain;".repeat(5);

    public static void main(String[] args) {
        CHECK.runEach(EventEdgeTest.class);
    }

    // ---- helpers ----

    private static void fits(String what, TasterTable x, int... cases) {
        CHECK.same(what + ": how many", cases.length, () -> x.cases(-1));
        for (int i = 0; i < cases.length; i++) {
            int at = i;
            CHECK.same(what + ": the " + i + "-th", cases[i], () -> x.cases(at));
        }
        CHECK.noSuch(what + ": no more", () -> x.cases(cases.length));
    }

    private static void odds(TasterTable x, int dish, int upper, int lower) {
        CHECK.same("odds(" + dish + ", 0)", upper, () -> x.odds(dish, 0));
        CHECK.same("odds(" + dish + ", 1)", lower, () -> x.odds(dish, 1));
    }

    private static void next(TasterTable x, int taster, int dish, int wine, int group) {
        CHECK.same("next(0)", 20 * taster + 2 * dish + wine, () -> x.next(0));
        CHECK.same("next(1)", group, () -> x.next(1));
    }

    private static void noTrial(String text) {
        TasterTable x = Check.made(text);
        CHECK.same("'" + text + "' next(0)", -1, () -> x.next(0));
        CHECK.same("'" + text + "' next(1)", -1, () -> x.next(1));
    }

    private static TasterTable withSixtyEvents() {
        TasterTable x = Check.made(SMALL + "taster plain;");
        for (int i = 0; i < 60; i++) {
            x.ate(0, 0, i, false);
        }
        return x;
    }

    // ---- Promise 14 ----

    /** Terms: "at a TICK (0 to 999)"; promise 14: "NONE ..: the TICK is not as told". */
    private static void ateTick() {
        TasterTable x = Check.made(SMALL);
        for (int tick : NO_TICKS) {
            CHECK.same("ate at " + tick, -1, () -> x.ate(0, 0, tick, true));
        }
        CHECK.same("ate at 0", 1, () -> x.ate(0, 0, 0, true));
        CHECK.same("ate at 999", 2, () -> x.ate(0, 0, 999, false));
    }

    /** Promise 14: "(STATUS 1)": counted once each, and nothing else changes. */
    private static void refusedAteIsCounted() {
        TasterTable x = Check.made(SMALL);
        x.ate(0, 0, 7, false);
        x.ate(0, 0, 1000, false);
        x.ate(0, 0, -1, false);
        CHECK.same("STATUS 1", 2, () -> x.count(8));
        CHECK.same("no other STATUS", 0, () -> x.count(7) + x.count(9));
        CHECK.same("EVENTS", 1, () -> x.count(4));
        CHECK.same("NOW", 7, () -> x.count(5));
    }

    /** Promise 14: NoSuchElementException counts in no STATUS, and is thrown though the TICK is wrong too. */
    private static void noSuchIsAheadOfRefused() {
        TasterTable x = Check.made(SMALL);
        CHECK.noSuch("TASTER", () -> x.ate(1, 0, 1000, false));
        CHECK.noSuch("DISH", () -> x.ate(0, 1, -1, false));
        CHECK.noSuch("who FELL", () -> x.fell(1, 1000));
        CHECK.same("STATUS 1", 0, () -> x.count(8));
        TasterTable full = withSixtyEvents();
        CHECK.noSuch("of 60, TASTER", () -> full.ate(-1, 0, 5, false));
        CHECK.noSuch("of 60, DISH", () -> full.ate(0, -1, 5, false));
        CHECK.noSuch("of 60, who FELL", () -> full.fell(2, 5));
        CHECK.same("of 60, STATUS 1", 0, () -> full.count(8));
    }

    /** Terms: "EVENTS (at most 60)"; promise 14: "NONE ..: there are 60". */
    private static void sixtyEvents() {
        TasterTable x = withSixtyEvents();
        CHECK.same("60", 60, () -> x.count(4));
        CHECK.same("a 61st ATE", -1, () -> x.ate(0, 0, 61, false));
        CHECK.same("EVENTS", 60, () -> x.count(4));
        CHECK.same("NOW", 59, () -> x.count(5));
        CHECK.same("STATUS 1", 1, () -> x.count(8));
    }

    /** One who FELL may have eaten, ahead of it or behind, and the same may be told twice. */
    private static void eventsInAnyOrder() {
        TasterTable x = Check.made(SMALL);
        CHECK.same("FELL", 1, () -> x.fell(0, 10));
        CHECK.same("ATE ahead of it", 2, () -> x.ate(0, 0, 5, false));
        CHECK.same("ATE behind it", 3, () -> x.ate(0, 0, 15, false));
        CHECK.same("ATE twice", 4, () -> x.ate(0, 0, 15, false));
        CHECK.same("NOW", 15, () -> x.count(5));
        fits("by the earliest", x, 1);
    }

    /** Terms: "NOW is the greatest TICK of any EVENT (0 without)". */
    private static void nowIsTheGreatest() {
        TasterTable x = Check.made(SMALL);
        CHECK.same("without", 0, () -> x.count(5));
        x.ate(0, 0, 0, false);
        CHECK.same("0", 0, () -> x.count(5));
        x.ate(0, 0, 50, false);
        x.ate(0, 0, 20, false);
        CHECK.same("not the last", 50, () -> x.count(5));
        x.fell(0, 999);
        CHECK.same("of a FALL too", 999, () -> x.count(5));
    }

    // ---- Promise 15 ----

    /** Promise 15: "likewise": the TICK of a FALL is 0 to 999. */
    private static void fellTick() {
        TasterTable x = Check.made(SMALL + "taster plain;");
        for (int tick : NO_TICKS) {
            CHECK.same("fell at " + tick, -1, () -> x.fell(0, tick));
        }
        CHECK.same("STATUS 1", NO_TICKS.length, () -> x.count(8));
        CHECK.same("he didn't", -1, () -> x.taster(0, 2));
        CHECK.same("fell at 0", 1, () -> x.fell(0, 0));
        CHECK.same("fell at 999", 2, () -> x.fell(1, 999));
    }

    /** Promise 15: "likewise": there are 60, and he didn't FALL then. */
    private static void fellOfSixty() {
        TasterTable x = withSixtyEvents();
        CHECK.same("a 61st FELL", -1, () -> x.fell(1, 5));
        CHECK.same("STATUS 1", 1, () -> x.count(8));
        CHECK.same("he didn't", -1, () -> x.taster(1, 2));
        x.undo();
        CHECK.same("so he may still", 60, () -> x.fell(1, 5));
        CHECK.same("he did", 5, () -> x.taster(1, 2));
    }

    /** Promise 15: "NONE, too: he FELL already"; Terms: "(each once)". */
    private static void fellAlready() {
        TasterTable x = Check.made(SMALL + "taster plain;");
        x.fell(0, 0);
        CHECK.same("again", -1, () -> x.fell(0, 9));
        CHECK.same("at the same TICK", -1, () -> x.fell(0, 0));
        CHECK.same("STATUS 1", 2, () -> x.count(8));
        CHECK.same("when he FELL", 0, () -> x.taster(0, 2));
        CHECK.same("EVENTS", 1, () -> x.count(4));
        CHECK.same("NOW", 0, () -> x.count(5));
        CHECK.same("another may", 2, () -> x.fell(1, 0));
    }

    /** A refused FALL counts once, if there is more than one reason. */
    private static void refusedForTwoReasons() {
        TasterTable x = Check.made(SMALL);
        x.fell(0, 3);
        CHECK.same("already, and a wrong TICK", -1, () -> x.fell(0, 1000));
        CHECK.same("STATUS 1", 1, () -> x.count(8));
    }

    // ---- Promise 16 ----

    /** Promise 16: "NONE: there are none". */
    private static void undoNothing() {
        CHECK.same("new", -1, () -> new TasterTable().undo());
        TasterTable x = Check.made(SMALL);
        x.ate(0, 0, 5, false);
        CHECK.same("the only one", 0, x::undo);
        CHECK.same("none", -1, x::undo);
        CHECK.same("EVENTS", 0, () -> x.count(4));
        CHECK.same("STATUS 1", 0, () -> x.count(8));
    }

    /** Promise 16: "The last EVENT is undone": a FALL too, and then he may FALL again. */
    private static void undoAFall() {
        TasterTable x = Check.made(SMALL);
        x.ate(0, 0, 5, false);
        x.fell(0, 9);
        CHECK.same("left", 1, x::undo);
        CHECK.same("he didn't FALL", -1, () -> x.taster(0, 2));
        CHECK.same("he FELL", 2, () -> x.fell(0, 10));
        fits("by it", x, 1);
    }

    /** A refused EVENT is none, so it isn't what is undone. */
    private static void undoSkipsTheRefused() {
        TasterTable x = Check.made(SMALL);
        x.ate(0, 0, 5, false);
        x.fell(0, 7);
        x.fell(0, 8);
        x.ate(0, 0, 1000, false);
        CHECK.same("left", 1, x::undo);
        CHECK.same("he didn't FALL", -1, () -> x.taster(0, 2));
        CHECK.same("NOW", 5, () -> x.count(5));
    }

    /** Undoing an ATE of one who FELL leaves him fallen. */
    private static void undoAteOfTheFallen() {
        TasterTable x = Check.made(SMALL);
        x.fell(0, 7);
        x.ate(0, 0, 2, false);
        CHECK.same("left", 1, x::undo);
        CHECK.same("he FELL", 7, () -> x.taster(0, 2));
        CHECK.same("still once", -1, () -> x.fell(0, 8));
        fits("nothing made him FALL", x);
    }

    /** Of 60 EVENTS one undone makes room for one. */
    private static void undoOfSixty() {
        TasterTable x = withSixtyEvents();
        CHECK.same("59", 59, x::undo);
        CHECK.same("60", 60, () -> x.ate(0, 0, 5, false));
        CHECK.same("a 61st", -1, () -> x.ate(0, 0, 5, false));
    }

    // ---- Promise 17 ----

    /** Promise 17: "how many (i NONE)", "NoSuchElementException: there is none". */
    private static void casesIndex() {
        TasterTable x = Check.made("dish 0 20;dish 0 20;poison 5;poison 6;");
        fits("all", x, 0, 1, 2, 3, 4);
        for (int i : new int[] {-2, 5, 6, LEAST, GREATEST}) {
            CHECK.noSuch("cases(" + i + ")", () -> x.cases(i));
        }
    }

    /** Terms: "1 and POISONS by the DISH and the POISON": the last of a full table is 30. */
    private static void thirtyOneCases() {
        TasterTable x = Check.made(FULL);
        CHECK.same("how many", 31, () -> x.cases(-1));
        CHECK.same("the last", 30, () -> x.cases(30));
        CHECK.noSuch("none behind", () -> x.cases(31));
        for (int dish = 0; dish < 6; dish++) {
            TasterTable one = Check.made(FULL.replace("poison 5 ", "poison 40 ").replaceFirst("poison 40 ", "poison 3 "));
            one.ate(0, dish, 10, false);
            one.fell(0, 13);
            fits("dish " + dish, one, 1 + 5 * dish);
        }
    }

    /** An empty table has CASE 0 alone; DISHES without POISONS, or POISONS without DISHES too. */
    private static void caseNothingAlone() {
        fits("empty", new TasterTable(), 0);
        fits("DISHES", Check.made("dish 0 1;dish 0 1;"), 0);
        fits("POISONS", Check.made("poison 1;poison 1;"), 0);
    }

    /** "A CASE FITS, if ..: he FELL when he FALLS by it": at that TICK, not one ahead or behind. */
    private static void fallsAtThatTick() {
        for (int tick = 13; tick <= 17; tick++) {
            TasterTable x = Check.made(SMALL);
            x.ate(0, 0, 10, false);
            x.fell(0, tick);
            int due = tick == 15 ? 1 : 0;
            CHECK.same("FELL at " + tick, due, () -> x.cases(-1));
        }
    }

    /** "or he didn't, and by it he doesn't, or later than NOW": at NOW itself it doesn't FIT. */
    private static void laterThanNow() {
        for (int now = 13; now <= 17; now++) {
            TasterTable x = Check.made(SMALL + "dish 0 20;");
            x.ate(0, 0, 10, false);
            x.ate(0, 1, now, false);
            int due = now < 15 ? 3 : 2;
            CHECK.same("NOW " + now, due, () -> x.cases(-1));
        }
    }

    /** "by it he doesn't": he is hard to it, had no WINE, or didn't eat. */
    private static void doesNotFall() {
        TasterTable hard = Check.made("dish 0 20;poison 5 hardens 1;taster plain;had 0 0 1;");
        hard.ate(0, 0, 0, false);
        hard.ate(0, 0, 999, false);
        fits("hard", hard, 0, 1);
        TasterTable dry = Check.made("dish 0 20;poison 5 wine;taster plain;");
        dry.ate(0, 0, 0, false);
        dry.ate(0, 0, 999, false);
        fits("without WINE", dry, 0, 1);
        TasterTable away = Check.made(SMALL + "taster plain;dish 0 20;");
        away.ate(0, 0, 999, false);
        fits("just eaten", away, 0, 1, 2);
    }

    /** One who FELL and ate nothing FALLS by no CASE. */
    private static void fellOfNothing() {
        TasterTable x = Check.made(SMALL);
        x.fell(0, 5);
        fits("none", x);
        CHECK.same("none waits", 0, () -> x.waiting(5));
        odds(x, 0, 0, 1);
        odds(x, -1, 0, 1);
    }

    /** "of each TASTER but liars": neither their FALL nor that they don't counts, but its TICK does for NOW. */
    private static void liarsTellNothing() {
        TasterTable x = Check.made("dish 0 20;poison 5;taster liar;taster plain;");
        x.ate(0, 0, 0, false);
        x.fell(0, 1);
        fits("a liar's FALL", x, 0, 1);
        x.ate(1, 0, 2, false);
        x.ate(0, 0, 7, false);
        fits("NOW is 7 by a liar", x, 0);
    }

    /** "One FALLS by a CASE at the least TICK of ATE of that DISH and SHOWS (with WINE or not, as he had it)". */
    private static void leastTickOfAll() {
        TasterTable x = Check.made("dish 0 20;poison 5 wine;taster plain;");
        x.ate(0, 0, 3, false);
        x.ate(0, 0, 9, true);
        x.ate(0, 0, 8, true);
        x.fell(0, 13);
        fits("the earlier with WINE", x, 1);
        TasterTable mixed = Check.made("dish 0 20;poison 5;taster plain;");
        mixed.ate(0, 0, 9, true);
        mixed.ate(0, 0, 3, false);
        mixed.fell(0, 8);
        fits("the earlier without", mixed, 1);
    }

    /** FALLS may be later than any EVENT can be: 999 and 80. */
    private static void fallsBehindTheLastTick() {
        TasterTable x = Check.made("dish 0 20;poison 40;taster slow;");
        x.ate(0, 0, 999, false);
        fits("NOW 999", x, 0, 1);
        CHECK.same("1078", 2, () -> x.waiting(1078));
        CHECK.same("1079", 1, () -> x.waiting(1079));
    }

    /** What was HAD in the court changes no CASE. */
    private static void courtHardensNobodyHere() {
        TasterTable x = Check.made("dish 0 20;poison 5 hardens 1;taster plain;");
        x.begin(1, 0, 1000);
        x.on(5);
        x.ate(0, 0, 0, false);
        x.fell(0, 5);
        fits("as ever", x, 1);
        CHECK.same("SHOWS", 5, () -> x.shows(0, 0, false));
    }

    // ---- Promise 18 ----

    /** Promise 18: "NoSuchElementException: also another what", no such DISH but NONE. */
    private static void oddsWrong() {
        TasterTable x = Check.made(SMALL);
        for (int what : NO_WHAT) {
            CHECK.noSuch("odds(0, " + what + ")", () -> x.odds(0, what));
            CHECK.noSuch("odds(-1, " + what + ")", () -> x.odds(-1, what));
        }
        for (int dish : new int[] {-2, 1, 6, LEAST, GREATEST}) {
            CHECK.noSuch("odds(" + dish + ", 0)", () -> x.odds(dish, 0));
            CHECK.noSuch("odds(" + dish + ", 1)", () -> x.odds(dish, 1));
        }
        CHECK.noSuch("no DISHES", () -> new TasterTable().odds(0, 0));
    }

    /** Terms: "(0 by 1, if these are 0)": no CASE FITS, or none of a WEIGHT. */
    private static void oddsOfNothing() {
        TasterTable weightless = Check.made("dish 0 20 weight 0;dish 0 20;poison 5 weight 0;clean 0;");
        for (int dish = -1; dish < 2; dish++) {
            odds(weightless, dish, 0, 1);
        }
        odds(Check.made("clean 0;"), -1, 0, 1);
        TasterTable none = Check.made(SMALL);
        none.fell(0, 5);
        odds(none, 0, 0, 1);
        odds(none, -1, 0, 1);
    }

    /** Terms: "in lowest terms": 0 by 1 and 1 by 1 among them. */
    private static void oddsInLowestTerms() {
        TasterTable sure = Check.made("dish 0 20 weight 6;dish 0 20 weight 0;poison 5 weight 4;clean 0;");
        odds(sure, 0, 1, 1);
        odds(sure, 1, 0, 1);
        odds(sure, -1, 0, 1);
        TasterTable halves = Check.made("dish 0 20 weight 6;poison 5 weight 4;clean 24;");
        odds(halves, 0, 1, 2);
        odds(halves, -1, 1, 2);
        odds(Check.made("clean 9999;"), -1, 1, 1);
        TasterTable prime = Check.made("dish 0 20 weight 97;poison 5 weight 89;clean 9999;");
        odds(prime, 0, 8633, 18632);
    }

    /** The greatest WEIGHTS of a full table. */
    private static void greatestWeights() {
        TasterTable x = Check.made(FULL + "clean 9998;");
        odds(x, 5, 49005, 304028);
        odds(x, -1, 4999, 152014);
        TasterTable alone = Check.made("dish 0 20 weight 99;poison 5 weight 99;clean 9999;");
        odds(alone, 0, 99, 200);
    }

    /** ODDS "of CASES that FIT" alone. */
    private static void oddsOfWhatFits() {
        TasterTable x = Check.made("dish 0 20 weight 3;dish 0 20 weight 5;poison 5;poison 9 weight 2;taster plain;clean 7;");
        odds(x, 0, 9, 31);
        x.ate(0, 0, 1, false);
        x.ate(0, 1, 6, false);
        odds(x, 0, 3, 14);
        odds(x, 1, 15, 28);
        odds(x, -1, 1, 4);
    }

    // ---- Promise 19 ----

    /** Terms: "two unlike CASES, none of them 0": none of one CASE, one of two, 435 of thirty. */
    private static void howManyPairs() {
        CHECK.same("empty", 0, () -> new TasterTable().pairs());
        CHECK.same("one CASE", 0, () -> Check.made("dish 0 20;poison 5;").pairs());
        CHECK.same("two of one DISH", 1, () -> Check.made("dish 0 20;poison 5;poison 5;").pairs());
        CHECK.same("two of one POISON", 1, () -> Check.made("dish 0 20;dish 0 20;poison 5;").pairs());
        CHECK.same("thirty", 435, () -> Check.made(FULL).pairs());
    }

    /** Terms: "one FALLS by the earlier of both". */
    private static void earlierOfBoth() {
        TasterTable x = Check.made("dish 0 20;poison 5;poison 9;taster plain;");
        x.ate(0, 0, 10, false);
        x.fell(0, 19);
        CHECK.same("by the later", 0, x::pairs);
        fits("one alone fits", x, 2);
        x.undo();
        x.fell(0, 15);
        CHECK.same("by the earlier", 1, x::pairs);
        fits("one alone fits", x, 1);
    }

    /** Two CASES may FIT together of which neither FITS alone, and not, of which one is later than NOW too. */
    private static void pairsOfCasesThatDontFit() {
        TasterTable x = Check.made("dish 0 20;dish 0 20;poison 5;taster plain;taster plain;");
        x.ate(0, 0, 10, false);
        x.ate(1, 1, 11, false);
        x.fell(0, 15);
        CHECK.same("the other is later than NOW", 1, x::pairs);
        x.fell(1, 16);
        fits("neither alone", x);
        CHECK.same("both", 1, x::pairs);
        x.undo();
        x.ate(0, 0, 16, false);
        CHECK.same("the other would have shown", 0, x::pairs);
    }

    // ---- Promise 20 ----

    /** Promise 20: "NoSuchElementException: another what", even if there is no trial. */
    private static void nextWhat() {
        TasterTable x = Check.made(SMALL);
        TasterTable none = new TasterTable();
        for (int what : NO_WHAT) {
            CHECK.noSuch("next(" + what + ")", () -> x.next(what));
            CHECK.noSuch("of nothing, next(" + what + ")", () -> none.next(what));
        }
    }

    /** Promise 20: "NONE: there is no trial": no TASTER, no DISH, none but liars. */
    private static void noTrialAtAll() {
        noTrial("");
        noTrial("dish 0 20;poison 5;");
        noTrial("poison 5;taster plain;");
        noTrial("dish 0 20;poison 5;taster liar;");
    }

    /** Terms: "who didn't FALL": all FELL, and one undone. */
    private static void whoFellIsntTried() {
        TasterTable x = Check.made("dish 0 20;poison 5;taster plain;taster plain;");
        x.fell(0, 5);
        CHECK.same("the other", 20, () -> x.next(0));
        x.fell(1, 5);
        CHECK.same("nobody", -1, () -> x.next(0));
        CHECK.same("no group", -1, () -> x.next(1));
        x.undo();
        CHECK.same("the other again", 20, () -> x.next(0));
    }

    /** Terms: "a TASTER, no liar". */
    private static void noLiarIsTried() {
        next(Check.made("dish 0 20;poison 5;taster liar;taster slow;"), 1, 0, 0, 1);
    }

    /** Terms: "of like ones the least TASTER, then DISH, then without WINE". */
    private static void likeTrials() {
        next(Check.made("dish 0 20;dish 0 20;poison 5;taster plain;taster plain;"), 0, 0, 0, 2);
        next(Check.made("dish 0 20;dish 0 20;poison 5 wine;taster plain;taster drunk;"), 0, 0, 1, 2);
        next(Check.made("dish 0 20;dish 0 20;poison 5 wine;taster dog;taster drunk;"), 1, 0, 0, 2);
    }

    /** The last of all trials: the 5th TASTER, the 6th DISH, with WINE. */
    private static void lastTrial() {
        TasterTable x = Check.made("dish 0 20;".repeat(6) + "poison 5 wine;poison 9;taster dog;taster dog;taster liar;"
                + "taster dog;taster plain;");
        for (int dish = 0; dish < 5; dish++) {
            x.ate(4, dish, 0, true);
        }
        x.ate(0, 0, 20, false);
        fits("the last DISH", x, 0, 11, 12);
        next(x, 4, 5, 1, 1);
    }

    /** Of a full table every trial is looked at: unlike TICKS in the last DISH alone tell most. */
    private static void trialsOfAFullTable() {
        next(Check.made(FULL), 0, 0, 0, 26);
        next(Check.made(FULL.replaceFirst("taster plain;", "taster liar;")), 1, 0, 0, 26);
        next(Check.made("dish 0 20;".repeat(6) + "poison 5 wine;".repeat(5) + "taster dog;".repeat(4) + "taster slow;"),
                4, 0, 1, 26);
    }

    /** Terms: "the greatest group .. is least": unlike TICKS are unlike groups, like ones are one. */
    private static void greatestGroupIsLeast() {
        next(Check.made("dish 0 20;poison 5;poison 5;poison 7;taster plain;clean 1;"), 0, 0, 0, 2);
        next(Check.made("dish 0 20;poison 5;poison 6;poison 7;taster dog;taster plain;"), 1, 0, 0, 1);
        next(Check.made("dish 0 20;poison 5;poison 6;taster dog;"), 0, 0, 0, 2);
    }

    /** Terms: "(or not at all by that trial)": CASE 0, other DISHES and what doesn't show are one group. */
    private static void notAtAll() {
        TasterTable hard = Check.made("dish 0 20;poison 5 hardens 1;poison 6;taster plain;had 0 0 1;");
        next(hard, 0, 0, 0, 2);
        TasterTable dishes = Check.made("dish 0 20;dish 0 20;dish 0 20;poison 5;taster plain;");
        next(dishes, 0, 0, 0, 3);
    }

    /** "by that trial": that he would FALL by what he ate ahead of it tells no CASES apart. */
    private static void byThatTrialAlone() {
        TasterTable x = Check.made("dish 0 20;poison 5 wine;taster plain;");
        x.ate(0, 0, 10, true);
        x.ate(0, 0, 12, false);
        next(x, 0, 0, 1, 1);
    }

    /** No POISONS: CASE 0 is a group of one, by any trial. */
    private static void nextOfNoPoisons() {
        next(Check.made("dish 0 20;taster plain;"), 0, 0, 0, 1);
    }

    /** No CASE FITS: there are trials still, and their groups are empty. */
    private static void nextOfNoCases() {
        TasterTable x = Check.made("dish 0 20;poison 5;taster plain;taster plain;");
        x.fell(0, 5);
        fits("none", x);
        next(x, 1, 0, 0, 0);
    }

    /** NOW may be 999: the trial is at the TICK behind it. */
    private static void nextBehindTheLastTick() {
        TasterTable x = Check.made("dish 0 20;poison 5;taster plain;");
        x.ate(0, 0, 999, false);
        next(x, 0, 0, 0, 1);
    }

    /** next() changes nothing. */
    private static void nextChangesNothing() {
        TasterTable x = Check.made(SMALL);
        x.ate(0, 0, 5, false);
        x.next(0);
        CHECK.same("EVENTS", 1, () -> x.count(4));
        CHECK.same("NOW", 5, () -> x.count(5));
        CHECK.same("he didn't FALL", -1, () -> x.taster(0, 2));
    }

    // ---- Promise 21 ----

    /** Promise 21: "IllegalArgumentException: T is below NOW". */
    private static void waitingBelowNow() {
        TasterTable x = Check.made(SMALL);
        CHECK.illegal("-1, NOW 0", () -> x.waiting(-1));
        CHECK.illegal("least", () -> x.waiting(LEAST));
        CHECK.same("0, NOW 0", 2, () -> x.waiting(0));
        x.ate(0, 0, 999, false);
        CHECK.illegal("998, NOW 999", () -> x.waiting(998));
        CHECK.same("999, NOW 999", 2, () -> x.waiting(999));
        x.undo();
        CHECK.same("0, NOW 0 again", 2, () -> x.waiting(0));
    }

    /** Promise 21: "or above 2000". */
    private static void waitingAbove2000() {
        TasterTable x = Check.made(SMALL);
        x.ate(0, 0, 999, false);
        CHECK.same("2000", 1, () -> x.waiting(2000));
        CHECK.illegal("2001", () -> x.waiting(2001));
        CHECK.illegal("greatest", () -> x.waiting(GREATEST));
    }

    /** Terms: "were it a TICK T": at that TICK a CASE has shown, a TICK ahead it hasn't. */
    private static void waitingTillItShows() {
        TasterTable x = Check.made("dish 0 20;poison 5;poison 9;taster plain;");
        x.ate(0, 0, 10, false);
        int[] ticks = {10, 14, 15, 18, 19, 2000};
        int[] due = {3, 3, 2, 2, 1, 1};
        for (int i = 0; i < ticks.length; i++) {
            int at = i;
            CHECK.same("waiting(" + ticks[i] + ")", due[i], () -> x.waiting(ticks[at]));
        }
        CHECK.same("NOW stays", 10, () -> x.count(5));
        CHECK.same("what FITS stays", 3, () -> x.cases(-1));
    }

    /** Terms: "and nobody more had FALLEN": who FELL has, when he FELL. */
    private static void waitingOfTheFallen() {
        TasterTable x = Check.made("dish 0 20;poison 5;taster plain;taster slow;");
        x.ate(0, 0, 10, false);
        x.ate(1, 0, 10, false);
        x.fell(0, 15);
        CHECK.same("19", 1, () -> x.waiting(19));
        CHECK.same("20", 0, () -> x.waiting(20));
    }
}
