import java.util.function.IntFunction;

/**
 * Boundary cases of promises 1 to 9 and of what Terms says of a TEXT, its FAULTS and SHOWS:
 * one test for each sentence that names one. What stands in quotes is the document's.
 */
public final class TextEdgeTest {
    private static final Check CHECK = new Check("TextEdgeTest");
    private static final int LEAST = Integer.MIN_VALUE;
    private static final int GREATEST = Integer.MAX_VALUE;
    /** All that a table may hold. */
    private static final String FULL = "dish 1 2;".repeat(6) + "poison 3;".repeat(5) + "taster dog;".repeat(5);

    public static void main(String[] args) {
        CHECK.runEach(TextEdgeTest.class);
    }

    // ---- helpers ----

    private static void fault(String text, int due, int place) {
        TasterTable x = new TasterTable();
        CHECK.same("'" + text + "'", due, () -> Check.table(x, text));
        CHECK.same("'" + text + "' fault()", place, x::fault);
        CHECK.same("'" + text + "' STATUS 0", due == 0 ? 0 : 1, () -> x.count(7));
    }

    private static void fine(String text) {
        fault(text, 0, -1);
    }

    /** A number may be low to high at its place in a text: not one below or above, nor one of 5 digits. */
    private static void range(String before, int low, int high, String after) {
        fine(before + low + after);
        fine(before + high + after);
        fine(before + String.format("%04d", high) + after);
        if (low > 0) {
            fault(before + (low - 1) + after, 2, before.length());
        }
        fault(before + (high + 1) + after, 2, before.length());
        fault(before + "9999" + after, high == 9999 ? 0 : 2, high == 9999 ? -1 : before.length());
        fault(before + "10000" + after, 2, before.length());
        fault(before + "0000" + high % 10 + after, 2, before.length());
    }

    /** Which numbers there are: 0 to count - 1, and none below or above. */
    private static void numbers(String what, int count, IntFunction<Check.Call> call) {
        for (int i = 0; i < count; i++) {
            Check.Call asked = call.apply(i);
            CHECK.yes(what + " " + i, () -> Check.of(asked) == Check.NO_SUCH ? 0 : 1);
        }
        for (int i : new int[] {-1, count, count + 1, 6, LEAST, GREATEST}) {
            CHECK.noSuch(what + " " + i, call.apply(i));
        }
    }

    // ---- Promise 1 ----

    /** Promise 1: "No DISHES, no POISONS, no TASTERS"; Terms: CLEAN "1 without". */
    private static void newObjectIsEmpty() {
        TasterTable x = new TasterTable();
        CHECK.same("DISHES", 0, () -> x.count(0));
        CHECK.same("POISONS", 0, () -> x.count(1));
        CHECK.same("TASTERS", 0, () -> x.count(2));
        CHECK.same("CLEAN", 1, () -> x.count(3));
        numbers("a new dish()", 0, i -> () -> x.dish(i, 0));
        numbers("a new poison()", 0, i -> () -> x.poison(i, 0));
        numbers("a new taster()", 0, i -> () -> x.taster(i, 0));
    }

    /** "An object is used for at most 512 calls": the 512th still answers. */
    private static void the512thCallAnswers() {
        TasterTable x = new TasterTable();
        for (int i = 0; i < 511; i++) {
            x.on(1);
        }
        CHECK.same("511 refused DAYS", 511, () -> x.count(9));
    }

    // ---- Promise 2 ----

    /** Promise 2: "Twenty bytes come behind the tape ..: how many it has". */
    private static void eachFeedIsTwentyBytes() {
        TasterTable x = new TasterTable();
        CHECK.same("first", 20, () -> x.feed(0, 0, 0, 0, 0));
        CHECK.same("second", 40, () -> x.feed(-1, -1, -1, -1, -1));
        CHECK.same("count", 40, () -> x.count(6));
    }

    /** Promise 2: "of each number the highest first". */
    private static void highestByteFirst() {
        TasterTable x = new TasterTable();
        // 'clea' 'n 98' '76;c' 'lean' '    '
        x.feed(0x636C6561, 0x6E203938, 0x37363B63, 0x6C65616E, 0x20202020);
        CHECK.same("first ten", 0, () -> x.table(11));
        CHECK.same("CLEAN", 9876, () -> x.count(3));
        x.feed(0x636C6561, 0x6E203938, 0x37363B63, 0x6C65616E, 0x20202020);
        CHECK.same("the numbers in their order", 5, () -> x.table(20));
        CHECK.same("place", 11, x::fault);
    }

    /** Promise 2: highest first, where the highest bit of a number is set: a byte, and no letter or digit. */
    private static void bytesAbove127() {
        for (int high : new int[] {0x80, 0xA0, 0xB0, 0xBB, 0xE1, 0xFF}) {
            TasterTable x = new TasterTable();
            x.feed(high << 24 | 0x3B3B3B, 0, 0, 0, 0);
            CHECK.same("byte " + high, 1, () -> x.table(1));
            CHECK.same("place", 0, x::fault);
        }
    }

    /** Promise 2: "NONE, and none come, if it would have more than 700". */
    private static void atMost700Bytes() {
        TasterTable x = new TasterTable();
        for (int i = 1; i < 35; i++) {
            x.feed(0x20202020, 0x20202020, 0x20202020, 0x20202020, 0x20202020);
        }
        CHECK.same("680 and 20", 700, () -> x.feed(0x636C6561, 0x6E20383B, 0x20202020, 0x20202020, 0x20202020));
        CHECK.same("700 and 20", -1, () -> x.feed(0x3B3B3B3B, 0, 0, 0, 0));
        CHECK.same("none came", 700, () -> x.count(6));
        CHECK.same("once more", -1, () -> x.feed(0, 0, 0, 0, 0));
        CHECK.same("no STATUS", 0, () -> x.count(7) + x.count(8) + x.count(9));
        CHECK.same("the tape is as it was", 0, () -> x.table(700));
        CHECK.same("CLEAN", 8, () -> x.count(3));
        CHECK.same("and there is room again", 20, () -> x.feed(0, 0, 0, 0, 0));
    }

    // ---- Promise 3 ----

    /** Promise 3: "The tape's first n bytes", what is behind them counts for nothing. */
    private static void onlyTheFirstBytes() {
        TasterTable x = new TasterTable();
        Check.feed(x, "clean 12;clean 5;");
        CHECK.same("n 9", 0, () -> x.table(9));
        CHECK.same("CLEAN", 12, () -> x.count(3));
        Check.feed(x, "dish 1 23;");
        CHECK.same("n in a number", 1, () -> x.table(8));
        CHECK.same("where it ends", 8, x::fault);
        Check.feed(x, "dish 1 2 weight 5;");
        CHECK.same("n in a word", 1, () -> x.table(12));
        CHECK.same("that word", 9, x::fault);
        Check.feed(x, "cleanx");
        CHECK.same("n at a word's end, a letter behind it", 1, () -> x.table(5));
        CHECK.same("where it ends", 5, x::fault);
        Check.feed(x, "clean 50000;");
        CHECK.same("n in a NUMBER of 5 digits", 1, () -> x.table(10));
        CHECK.same("which isn't too much", 10, x::fault);
    }

    /** Promise 3: "(it is empty then)", with a FAULT too, and bytes behind the first n are gone. */
    private static void tapeIsEmptyThen() {
        TasterTable x = new TasterTable();
        Check.feed(x, "clean 3;             clean 4;");
        x.table(8);
        CHECK.same("behind a table", 0, () -> x.count(6));
        Check.feed(x, "clean 5;");
        CHECK.same("a new text", 0, () -> x.table(20));
        CHECK.same("alone", 5, () -> x.count(3));
        Check.feed(x, "nothing");
        CHECK.same("a FAULT", 1, () -> x.table(7));
        CHECK.same("behind a FAULT", 0, () -> x.count(6));
        CHECK.illegal("nothing is left", () -> x.table(1));
    }

    /** Promise 3: n 0 is an empty TEXT, which is a TABLE ("LINE*"), all anew. */
    private static void emptyText() {
        TasterTable x = Check.made(FULL + "clean 5;");
        CHECK.same("n 0", 0, () -> x.table(0));
        for (int what = 0; what < 3; what++) {
            int w = what;
            CHECK.same("count " + w, 0, () -> x.count(w));
        }
        CHECK.same("CLEAN", 1, () -> x.count(3));
        CHECK.same("fault", -1, x::fault);
        CHECK.same("on a new object", 0, () -> new TasterTable().table(0));
    }

    /** Promise 3: n 0 with bytes on the tape: they are gone, unread. */
    private static void emptyTextOfAFullTape() {
        TasterTable x = new TasterTable();
        Check.feed(x, ";;;;");
        CHECK.same("n 0", 0, () -> x.table(0));
        CHECK.same("the tape", 0, () -> x.count(6));
    }

    /** Promise 3: "IllegalArgumentException: the tape has not so many, n below 0". */
    private static void illegalLength() {
        TasterTable x = new TasterTable();
        CHECK.illegal("1 of none", () -> x.table(1));
        CHECK.illegal("-1 of none", () -> x.table(-1));
        Check.feed(x, "clean 3;");
        CHECK.illegal("21 of 20", () -> x.table(21));
        CHECK.illegal("-1", () -> x.table(-1));
        CHECK.illegal("greatest", () -> x.table(GREATEST));
        CHECK.illegal("least", () -> x.table(LEAST));
        CHECK.same("20 of 20", 0, () -> x.table(20));
    }

    /** Promise 3: "(nothing changes)" at an IllegalArgumentException. */
    private static void illegalLengthChangesNothing() {
        TasterTable x = inUse();
        Check.table(x, "taster;");
        Check.feed(x, "clean 77;");
        CHECK.illegal("21 of 20", () -> x.table(21));
        CHECK.illegal("-1", () -> x.table(-1));
        CHECK.same("the tape", 20, () -> x.count(6));
        CHECK.same("the FAULT's place", 6, x::fault);
        CHECK.same("STATUS 0", 1, () -> x.count(7));
        allStays(x);
        CHECK.same("what was on the tape", 0, () -> x.table(9));
        CHECK.same("CLEAN", 77, () -> x.count(3));
    }

    private static TasterTable inUse() {
        TasterTable x = Check.made("dish 0 9;poison 3;taster plain;clean 4;had 0 0 2;");
        x.plan(0, 0);
        x.ate(0, 0, 5, false);
        x.fell(0, 8);
        x.begin(1, 0, 1000);
        x.on(3);
        x.image();
        x.undo();
        return x;
    }

    private static void allStays(TasterTable x) {
        int[] due = {1, 1, 1, 4, 1, 5};
        for (int what = 0; what < due.length; what++) {
            int w = what;
            CHECK.same("count " + w + " stays", due[w], () -> x.count(w));
        }
        CHECK.same("DAYS stay", 3, () -> x.count(10));
        CHECK.same("READY stays", 0, () -> x.dish(0, 0));
        CHECK.same("SERVED stays", 9, () -> x.dish(0, 1));
        CHECK.same("DELAY stays", 3, () -> x.poison(0, 0));
        CHECK.same("KIND stays", 0, () -> x.taster(0, 0));
        CHECK.same("HAD stays", 2, () -> x.taster(0, 10));
        CHECK.same("what the court HAD stays", 5, () -> x.had(0, 0));
        CHECK.same("a DAY stays", 0, () -> x.day(2, 0));
        CHECK.same("the PLAN stays", 6, () -> x.planned(0, 1));
        CHECK.same("THE PLAN is as it was", 3, () -> x.plan(0, 1));
        CHECK.yes("the image stays", () -> x.restore() ? 1 : 0);
        CHECK.same("its EVENTS too", 8, () -> x.taster(0, 2));
    }

    /** Promise 3: "or the FAULT (all stays)": DISHES, EVENTS, the PLAN, the court and the image. */
    private static void faultLeavesAll() {
        for (String text : new String[] {"dish 10 20 weight 9;poison 40 wine;taster dog;clean 99;;", "clean 5;clean",
            "dish 1 2;dish 3 4;poison 4;taster plain;taster dog;had 0 0 7;had 0 0", "x"}) {
            TasterTable x = inUse();
            CHECK.yes("'" + text + "' has a FAULT", () -> Check.table(x, text) > 0 ? 1 : 0);
            allStays(x);
        }
    }

    /** Promise 3: "all anew": nothing of the earlier table is left, where the later tells nothing. */
    private static void tableIsAllAnew() {
        TasterTable x = Check.made("dish 5 9 weight 7;dish 1 3;poison 3 wine hardens 4 weight 8;poison 7;"
                + "taster dog cap 2;taster slow;clean 4;had 0 0 2;had 1 0 1;had 1 1 3;");
        Check.table(x, "dish 1 2;poison 5;taster plain;");
        int[] counts = {1, 1, 1, 1};
        for (int what = 0; what < 4; what++) {
            int w = what;
            CHECK.same("count " + w, counts[w], () -> x.count(w));
        }
        CHECK.same("WEIGHT of the DISH", 1, () -> x.dish(0, 2));
        CHECK.same("wants WINE", 0, () -> x.poison(0, 1));
        CHECK.same("HARDENS", 0, () -> x.poison(0, 2));
        CHECK.same("WEIGHT of the POISON", 1, () -> x.poison(0, 3));
        CHECK.same("KIND", 0, () -> x.taster(0, 0));
        CHECK.same("CAP", 6, () -> x.taster(0, 1));
        CHECK.same("HAD", 0, () -> x.taster(0, 10));
        CHECK.same("'had' and 'clean' may be told again", 0,
                () -> Check.table(x, "poison 5;taster plain;clean 3;had 0 0 1;"));
    }

    /** Promise 3: "all anew", for each table of many, and behind texts with a FAULT at their very end. */
    private static void everyTableIsAllAnew() {
        TasterTable x = new TasterTable();
        for (int round = 0; round < 6; round++) {
            Check.table(x, FULL + "clean 5;had 0 0 7;had 4 4 8;" + (round % 2 == 0 ? "" : "x"));
            Check.table(x, "poison 5;taster plain;" + (round < 3 ? "" : "dish 7 7;"));
            CHECK.same("a table", 0, () -> Check.table(x, "dish 7 8;poison 5;taster plain;"));
            for (int what = 0; what < 4; what++) {
                int w = what;
                CHECK.same("count " + w, 1, () -> x.count(w));
            }
            CHECK.same("READY", 7, () -> x.dish(0, 0));
            CHECK.same("KIND", 0, () -> x.taster(0, 0));
            CHECK.same("HAD", 0, () -> x.taster(0, 10));
        }
    }

    /** Promise 3: "EVENTS .. are gone". */
    private static void tableDropsEvents() {
        TasterTable x = inUse();
        x.fell(0, 9);
        Check.table(x, "dish 0 9;poison 3;taster plain;");
        CHECK.same("EVENTS", 0, () -> x.count(4));
        CHECK.same("NOW", 0, () -> x.count(5));
        CHECK.same("FELL", -1, () -> x.taster(0, 2));
        CHECK.same("undo", -1, x::undo);
        CHECK.same("all CASES FIT", 2, () -> x.cases(-1));
    }

    /** Promise 3: "the PLAN that is kept .. gone", even if the new table is the same. */
    private static void tableDropsPlan() {
        TasterTable x = inUse();
        Check.table(x, "dish 0 9;poison 3;taster plain;clean 4;had 0 0 2;");
        CHECK.noSuch("planned", () -> x.planned(0, 0));
        CHECK.same("but it is found again", 1, () -> x.plan(0, 0));
    }

    /** Promise 3: THE PLAN, BARS, WORTH are those of the new table. */
    private static void tableChangesPlans() {
        TasterTable x = inUse();
        x.bars(1);
        x.worth(0, 0);
        Check.table(x, "dish 0 9;poison 4;taster plain;taster dog;");
        CHECK.same("COLD", 2, () -> x.plan(0, 1));
        CHECK.same("BARS", -1, () -> x.bars(1));
        CHECK.same("WORTH", 2, () -> x.worth(1, 0));
        CHECK.same("WORTH of the other", 0, () -> x.worth(0, 0));
    }

    /** Promise 3: "the court .. gone". */
    private static void tableDropsCourt() {
        TasterTable x = inUse();
        Check.table(x, "dish 0 9;poison 3;taster plain;");
        CHECK.same("DAYS", 0, () -> x.count(10));
        CHECK.noSuch("day", () -> x.day(0, 0));
        CHECK.noSuch("had", () -> x.had(0, 0));
        CHECK.same("none have begun", -1, () -> x.on(0));
    }

    /** Promise 3: "the image are gone". */
    private static void tableDropsImage() {
        TasterTable x = inUse();
        Check.table(x, "dish 0 9;poison 3;taster plain;");
        CHECK.same("restore", 0, () -> x.restore() ? 1 : 0);
        CHECK.same("EVENTS", 0, () -> x.count(4));
    }

    /** Promise 3: "(STATUS stays)". */
    private static void tableKeepsStatus() {
        TasterTable x = inUse();
        Check.table(x, "x");
        Check.table(x, "y");
        x.fell(0, 1000);
        x.fell(0, -1);
        x.fell(0, 2000);
        x.begin(1, 1, 1);
        Check.table(x, "dish 0 9;");
        CHECK.same("STATUS 0", 2, () -> x.count(7));
        CHECK.same("STATUS 1", 3, () -> x.count(8));
        CHECK.same("STATUS 2", 1, () -> x.count(9));
    }

    // ---- Promise 4 ----

    /** Promise 4: "NONE without", on a new object and behind a table() without one. */
    private static void faultIsNoneWithout() {
        TasterTable x = new TasterTable();
        CHECK.same("new", -1, x::fault);
        Check.table(x, "dish 1 1;");
        CHECK.same("a FAULT", 7, x::fault);
        x.table(0);
        CHECK.same("the latest has none", -1, x::fault);
    }

    /** Promise 4: "The place of the latest table()'s FAULT". */
    private static void faultIsOfTheLatest() {
        TasterTable x = new TasterTable();
        Check.table(x, "dish 1 1;");
        Check.table(x, ";");
        CHECK.same("0 is a place", 0, x::fault);
        Check.table(x, "clean 1;clean");
        CHECK.same("8", 8, x::fault);
    }

    /** Terms: "the text's length where it ends too soon", of a full tape too. */
    private static void faultAtTheEndOfAFullTape() {
        fault("dish 1 2" + " ".repeat(692), 1, 700);
        fault(" ".repeat(692) + "dish 1 2", 1, 700);
        fault(" ".repeat(699) + ";", 1, 699);
    }

    // ---- Promises 5 to 8 ----

    /** Promise 5: "NoSuchElementException: another what". */
    private static void countWhat() {
        TasterTable x = Check.made(FULL);
        for (int what : new int[] {-1, 11, 12, LEAST, GREATEST}) {
            CHECK.noSuch("count " + what, () -> x.count(what));
        }
        CHECK.same("the first", 6, () -> x.count(0));
        CHECK.same("the last", 0, () -> x.count(10));
    }

    /** Promise 6: "NoSuchElementException: no such DISH (as everywhere)". */
    private static void noSuchDish() {
        TasterTable x = Check.made("dish 1 2;dish 3 4;poison 5;taster plain;");
        x.plan(0, 0);
        numbers("dish", 2, i -> () -> x.dish(i, 0));
        numbers("ate of", 2, i -> () -> x.ate(0, i, 5, false));
        for (int dish : new int[] {2, 6, -2, LEAST, GREATEST}) {
            CHECK.noSuch("odds", () -> x.odds(dish, 0));
            CHECK.noSuch("planned", () -> x.planned(dish, 0));
        }
        TasterTable full = Check.made(FULL);
        CHECK.same("the 6th", 2, () -> full.dish(5, 1));
        CHECK.noSuch("the 7th", () -> full.dish(6, 1));
    }

    /** Promise 6: "NoSuchElementException: .. what". */
    private static void dishWhat() {
        TasterTable x = Check.made("dish 1 2;");
        numbers("dish what", 3, i -> () -> x.dish(0, i));
    }

    /** Promise 7: "NoSuchElementException: no such POISON (as everywhere)". */
    private static void noSuchPoison() {
        TasterTable x = Check.made("poison 5;poison 6;taster plain;");
        x.begin(1, 0, 0);
        numbers("poison", 2, i -> () -> x.poison(i, 0));
        numbers("shows", 2, i -> () -> x.shows(0, i, true));
        numbers("had", 2, i -> () -> x.had(0, i));
        TasterTable full = Check.made(FULL);
        CHECK.same("the 5th", 3, () -> full.poison(4, 0));
        CHECK.noSuch("the 6th", () -> full.poison(5, 0));
    }

    /** Promise 7: "NoSuchElementException: .. what". */
    private static void poisonWhat() {
        TasterTable x = Check.made("poison 1;");
        numbers("poison what", 4, i -> () -> x.poison(0, i));
    }

    /** Promise 8: "NoSuchElementException: no such TASTER (as everywhere)". */
    private static void noSuchTaster() {
        TasterTable x = Check.made("dish 1 2;poison 1;taster plain;taster dog;");
        x.begin(1, 0, 0);
        numbers("taster", 2, i -> () -> x.taster(i, 0));
        numbers("shows", 2, i -> () -> x.shows(i, 0, true));
        numbers("worth", 2, i -> () -> x.worth(i, 0));
        numbers("ate", 2, i -> () -> x.ate(i, 0, 5, false));
        numbers("fell", 2, i -> () -> x.fell(i, 5));
        numbers("had", 2, i -> () -> x.had(i, 0));
        TasterTable full = Check.made(FULL);
        CHECK.same("the 5th", 3, () -> full.taster(4, 0));
        CHECK.noSuch("the 6th", () -> full.taster(5, 0));
    }

    /** Promise 8: "NoSuchElementException: .. what": 3 to 9 are none, nor is 10 and a POISON that isn't there. */
    private static void tasterWhat() {
        TasterTable x = Check.made("poison 1;poison 2;taster plain;had 0 0 3;had 0 1 4;");
        for (int what : new int[] {-1, 3, 4, 9, 12, 13, 14, 15, 20, LEAST, LEAST + 10, GREATEST}) {
            CHECK.noSuch("what " + what, () -> x.taster(0, what));
        }
        CHECK.same("what 10", 3, () -> x.taster(0, 10));
        CHECK.same("what 11", 4, () -> x.taster(0, 11));
        TasterTable dry = Check.made("taster plain;");
        CHECK.noSuch("10 without POISONS", () -> dry.taster(0, 10));
    }

    /** Promise 8: "when he FELL (NONE)". */
    private static void tasterFellOrNone() {
        TasterTable x = Check.made("taster plain;taster plain;");
        CHECK.same("not yet", -1, () -> x.taster(0, 2));
        x.fell(0, 0);
        CHECK.same("at 0", 0, () -> x.taster(0, 2));
        CHECK.same("the other one didn't", -1, () -> x.taster(1, 2));
    }

    // ---- Terms: what a table may hold ----

    /** "DISHES 0, 1 .. (at most 6)"; FAULT 2 at "the first TOKEN of the 7th DISH". */
    private static void sixDishes() {
        fine("dish 1 2;".repeat(6));
        fault("dish 1 2;".repeat(6) + "dish 1 2;", 2, 54);
        fault("dish 1 2;".repeat(6) + "\n dish", 2, 56);
        fault("dish 1 2;".repeat(6) + "dish;", 2, 54);
    }

    /** "POISONS 0, 1 .. (at most 5)"; FAULT 2 at "the 6th POISON". */
    private static void fivePoisons() {
        fine("poison 3;".repeat(5));
        fault("poison 3;".repeat(6), 2, 45);
        fault("poison 3;".repeat(5) + "poison 0;", 2, 45);
    }

    /** "TASTERS 0, 1 .. (at most 5)"; FAULT 2 at "the 6th TASTER". */
    private static void fiveTasters() {
        fine("taster dog;".repeat(5));
        fault("taster dog;".repeat(6), 2, 55);
        fault("taster dog;".repeat(5) + "taster cat;", 2, 55);
    }

    /** A full table of one kind leaves the others their room. */
    private static void limitsAreEachTheirOwn() {
        fine(FULL + "clean 1;had 4 4 1;");
        fault(FULL + "had 4 4 1;had 4 4 1;", 4, FULL.length() + 16);
    }

    /** "READY at a TICK .. (0 to 95)": 95 itself is as told, but no SERVED is later. */
    private static void readyRange() {
        fine("dish 0 95;");
        fine("dish 94 95;");
        fault("dish 95 95;", 2, 8);
        fault("dish 95", 1, 7);
        fault("dish 96 97;", 2, 5);
        fault("dish 9999 1;", 2, 5);
        fault("dish 10000 1;", 2, 5);
    }

    /** "SERVED at a later one (0 to 95)". */
    private static void servedRange() {
        range("dish 0 ", 1, 95, ";");
        range("dish 50 ", 51, 95, ";");
    }

    /** FAULT 2: "a SERVED that is no later than READY". */
    private static void servedIsLater() {
        fault("dish 7 7;", 2, 7);
        fault("dish 7 6;", 2, 7);
        fault("dish 7 0;", 2, 7);
        fault("dish 0 0;", 2, 7);
        fine("dish 7 8;");
    }

    /** "a WEIGHT (0 to 99; 1 without)" of a DISH. */
    private static void dishWeight() {
        range("dish 0 1 weight ", 0, 99, ";");
        CHECK.same("without", 1, () -> Check.made("dish 0 1;").dish(0, 2));
        CHECK.same("0", 0, () -> Check.made("dish 0 1 weight 0;").dish(0, 2));
        CHECK.same("99", 99, () -> Check.made("dish 0 1 weight 99;").dish(0, 2));
    }

    /** "a DELAY (1 to 40 TICKS)". */
    private static void delayRange() {
        range("poison ", 1, 40, ";");
        CHECK.same("40", 40, () -> Check.made("poison 0040;").poison(0, 0));
    }

    /** "HARDENS (0 to 9: ..; 0 without ..)". */
    private static void hardensRange() {
        range("poison 1 hardens ", 0, 9, ";");
        CHECK.same("without", 0, () -> Check.made("poison 1;").poison(0, 2));
        CHECK.same("9", 9, () -> Check.made("poison 1 wine hardens 9;").poison(0, 2));
    }

    /** "a WEIGHT (0 to 99; 1 without)" of a POISON. */
    private static void poisonWeight() {
        range("poison 1 weight ", 0, 99, ";");
        range("poison 1 wine hardens 2 weight ", 0, 99, ";");
        CHECK.same("without", 1, () -> Check.made("poison 1 hardens 7;").poison(0, 3));
        CHECK.same("0", 0, () -> Check.made("poison 1 weight 0;").poison(0, 3));
    }

    /** "CAP (.. 0 to 6; 6 without)". */
    private static void capRange() {
        range("taster slow cap ", 0, 6, ";");
        CHECK.same("without", 6, () -> Check.made("taster slow;").taster(0, 1));
        CHECK.same("0", 0, () -> Check.made("taster slow cap 0;").taster(0, 1));
    }

    /** "how often he HAD each POISON (0 to 99; 0 at first)". */
    private static void hadRange() {
        range("poison 1;taster dog;had 0 0 ", 0, 99, ";");
        TasterTable x = Check.made("poison 1;poison 1;taster dog;taster dog;had 0 1 99;");
        CHECK.same("told", 99, () -> x.taster(0, 11));
        CHECK.same("at first", 0, () -> x.taster(0, 10) + x.taster(1, 10) + x.taster(1, 11));
    }

    /** "CLEAN: a WEIGHT (0 to 9999; 1 without)". */
    private static void cleanRange() {
        range("clean ", 0, 9999, ";");
        CHECK.same("9999", 9999, () -> Check.made("clean 9999;").count(3));
        CHECK.same("0", 0, () -> Check.made("clean 0;").count(3));
        CHECK.same("without", 1, () -> Check.made("dish 0 1;").count(3));
    }

    /** "a KIND: 0 plain, 1 slow, 2 drunk, 3 dog, 4 liar". */
    private static void kinds() {
        String[] words = {"plain", "slow", "drunk", "dog", "liar"};
        for (int kind = 0; kind < 5; kind++) {
            int due = kind;
            CHECK.same(words[due], due, () -> Check.made("taster " + words[due] + ";").taster(0, 0));
        }
    }

    /** "only with WINE or not": promise 7 "whether it wants WINE (1)". */
    private static void wineOrNot() {
        CHECK.same("wine", 1, () -> Check.made("poison 5 wine;").poison(0, 1));
        CHECK.same("not", 0, () -> Check.made("poison 5;").poison(0, 1));
    }

    // ---- Terms: a TEXT and its TOKENS ----

    /** "A TEXT of at most 700 bytes": one that is full, to its last byte. */
    private static void fullText() {
        String text = " ".repeat(691) + "clean 42;";
        CHECK.same("length", 700, text::length);
        TasterTable x = Check.made(text);
        CHECK.same("CLEAN", 42, () -> x.count(3));
    }

    /** "blanks (32, 10) between them, which count for nothing": a TEXT of blanks alone is empty. */
    private static void onlyBlanks() {
        fine(" ");
        fine("\n");
        fine(" \n\n ".repeat(175));
    }

    /** "blanks (32, 10)": no other byte is one, and no byte but a .. z, 0 .. 9 and ; is a TOKEN or of one. */
    private static void everyByte() {
        for (int sign = 0; sign < 256; sign++) {
            String text = "clean" + (char) sign + " 5;";
            if (sign == 32 || sign == 10) {
                fine(text);
            } else if (sign >= 'a' && sign <= 'z') {
                fault(text, 1, 0);
            } else if (sign >= '0' && sign <= '9') {
                fault(text, 1, 7);
            } else {
                fault(text, 1, 5);
            }
            String ahead = (char) sign + "clean 5;";
            boolean blank = sign == 32 || sign == 10;
            fault(ahead, blank ? 0 : 1, blank ? -1 : 0);
        }
    }

    /** Blanks may stand, or not, between any TOKENS that are told apart without them. */
    private static void blanksWhereNoneAreNeeded() {
        TasterTable x = Check.made("dish0 1weight2;poison3wine hardens4weight5;taster dog cap6;had0 0 7;clean8;");
        CHECK.same("WEIGHT", 2, () -> x.dish(0, 2));
        CHECK.same("POISON's WEIGHT", 5, () -> x.poison(0, 3));
        CHECK.same("HAD", 7, () -> x.taster(0, 10));
        CHECK.same("CLEAN", 8, () -> x.count(3));
        fine("\n dish\n0\n\n1 \n;\n ");
    }

    /** "words (a .. z, the longest row)": no word is cut where a shorter one could stand. */
    private static void longestRowOfLetters() {
        fault("cleann 5;", 1, 0);
        fault("clea 5;", 1, 0);
        fault("tasterdog;", 1, 0);
        fault("taster dogcap 1;", 1, 7);
        fault("taster dog capp 1;", 1, 11);
        fault("poison 1 winehardens 1;", 1, 9);
    }

    /** A word of which one letter is another, or is missing, or is one too many, is another word. */
    private static void almostAWord() {
        String[] texts = {"dish 0 1 weight 2;", "poison 3 wine hardens 4 weight 5;", "taster plain cap 6;", "taster slow;",
            "taster drunk;", "taster dog;", "taster liar;", "clean 8;"};
        for (String text : texts) {
            fine(text);
            for (int at = 0; at < text.length(); at++) {
                if (Character.isLetter(text.charAt(at))) {
                    int place = Math.max(text.lastIndexOf(' ', at) + 1, 0);
                    fault(text.substring(0, at) + 'q' + text.substring(at + 1), 1, place);
                    fault(text.substring(0, at) + text.substring(at + 1), 1, place);
                    fault(text.substring(0, at) + 'q' + text.substring(at), 1, place);
                }
            }
        }
        fault("poison 1;taster dog;hat 0 0 1;", 1, 20);
        fault("poison 1;taster dog;bad 0 0 1;", 1, 20);
    }

    /** "NUMBERS (1 to 4 digits)": leading noughts count as digits. */
    private static void digitsOfANumber() {
        CHECK.same("1 digit", 7, () -> Check.made("clean 7;").count(3));
        CHECK.same("4 digits", 7, () -> Check.made("clean 0007;").count(3));
        fine("clean 0000;");
        fault("clean 00007;", 2, 6);
        fault("clean 99999;", 2, 6);
        fault("clean " + "9".repeat(400) + ";", 2, 6);
        fault("clean " + "0".repeat(690) + "1;", 2, 6);
    }

    /** A NUMBER so long that an int would wrap round is too much, whatever it wraps to. */
    private static void numbersThatWouldWrap() {
        fault("clean 4294967296;", 2, 6);
        fault("clean 4294967297;", 2, 6);
        fault("clean 18446744073709551617;", 2, 6);
        fault("dish 4294967296 5;", 2, 5);
    }

    // ---- Terms: FAULTS ----

    /** FAULT 1: "(the text's length where it ends too soon)", behind every TOKEN of every LINE. */
    private static void endsTooSoon() {
        String ahead = "poison 1;taster dog;";
        String[] lines = {"dish 0 1 weight 2", "poison 3 wine hardens 4 weight 5", "taster plain cap 6", "had 0 0 7", "clean 8"};
        for (String line : lines) {
            for (int end = line.indexOf(' '); end >= 0; end = line.indexOf(' ', end + 1)) {
                String cut = ahead + line.substring(0, end);
                fault(cut, 1, cut.length());
                fault(cut + " ", 1, cut.length() + 1);
                fault(cut + " \n ", 1, cut.length() + 3);
            }
            fault(ahead + line, 1, ahead.length() + line.length());
            fine(ahead + line + ";");
        }
    }

    /** FAULT 1: "a TOKEN that can't stand there", for each kind of TOKEN. */
    private static void cantStandThere() {
        fault("5 clean;", 1, 0);
        fault(";", 1, 0);
        fault("weight 5;", 1, 0);
        fault("plain;", 1, 0);
        fault("clean;", 1, 5);
        fault("clean clean;", 1, 6);
        fault("clean 5 5;", 1, 8);
        fault("clean 5 weight 5;", 1, 8);
        fault("clean 5;;", 1, 8);
        fault("taster 5;", 1, 7);
        fault("taster cap 5;", 1, 7);
        fault("taster plain weight 5;", 1, 13);
        fault("taster plain;had plain 0 0;", 1, 17);
        fault("dish 1;", 1, 6);
        fault("dish 1 2 hardens 3;", 1, 9);
        fault("dish 1 2 cap 3;", 1, 9);
        fault("poison 1 cap 3;", 1, 9);
        fault("poison 1 hardens;", 1, 16);
        fault("poison 1 hardens wine;", 1, 17);
        fault("poison 1 weight 2 wine;", 1, 18);
        fault("poison 1 hardens 1 hardens 1;", 1, 19);
    }

    /** FAULT 1: "or is none". */
    private static void isNoToken() {
        fault("clean 5,", 1, 7);
        fault("clean -5;", 1, 6);
        fault("clean +5;", 1, 6);
        fault("clean 5.0;", 1, 7);
        fault("Clean 5;", 1, 0);
        fault("cLean 5;", 1, 0);
        fault("dish 1\t2;", 1, 6);
        fault("dish 1 2;\r\n", 1, 9);
    }

    /** "the first along the text", even if a later one is less. */
    private static void firstAlongTheText() {
        fault("clean 1;clean 10000;x", 5, 8);
        fault("had 0 0 0;x", 3, 4);
        fault("poison 1;taster dog;had 0 0 1;had 0 0 x", 4, 36);
        fault("dish 96 1 x", 2, 5);
        fault("dish 0 96 weight 100 x", 2, 7);
        fault("dish 3 2 5", 2, 7);
        fault("had 1 1 100", 3, 4);
    }

    /** "of one TOKEN the least": a NUMBER of 5 digits where none can stand is 1, as TASTER or POISON it is 2. */
    private static void leastOfOneToken() {
        fault("12345 5;", 1, 0);
        fault("clean 5 12345;", 1, 8);
        fault("taster 12345;", 1, 7);
        fault("had 12345 0 0;", 2, 4);
        fault("taster dog;had 0 12345 0;", 2, 17);
        fault("had 00000 0 0;", 2, 4);
        fault("poison 1;taster dog;had 00000 0 0;", 2, 24);
        fault("poison 1;taster dog;had 0 00000 0;", 2, 26);
        fault("poison 1;taster dog;had 0 0 0;had 0 00000 0;", 2, 36);
        fault("dish 1 2;".repeat(6) + "poison 1 dish", 1, 63);
        fault("clean clean", 1, 6);
    }

    /** FAULT 3: "a TASTER .. that isn't told ahead": none, one too few, told behind. */
    private static void tasterNotToldAhead() {
        fault("poison 1;had 0 0 1;", 3, 13);
        fault("poison 1;taster dog;had 1 0 1;", 3, 24);
        fault("poison 1;taster dog;had 1 0 1;taster dog;", 3, 24);
        fine("poison 1;taster dog;taster dog;had 1 0 1;");
        fault(FULL + "had 5 0 1;", 3, FULL.length() + 4);
        fine(FULL + "had 4 0 1;");
    }

    /** FAULT 3: "a POISON that isn't told ahead": likewise, at the POISON. */
    private static void poisonNotToldAhead() {
        fault("taster dog;had 0 0 1;", 3, 17);
        fault("taster dog;poison 1;had 0 1 1;", 3, 26);
        fault("taster dog;poison 1;had 0 1 1;poison 1;", 3, 26);
        fine("taster dog;poison 1;poison 1;had 0 1 1;");
        fault(FULL + "had 0 5 1;", 3, FULL.length() + 6);
        fine(FULL + "had 0 4 1;");
    }

    /** FAULT 4: "a POISON of a TASTER of whom it was told already", even as 0 times. */
    private static void hadToldAlready() {
        String ahead = "poison 1;poison 1;taster dog;taster dog;";
        fault(ahead + "had 0 1 0;had 0 1 0;", 4, 56);
        fault(ahead + "had 0 1 5;had 1 1 5;had 0 1 5;", 4, 66);
        fault(ahead + "had 1 0 5;had 1 1 5;had 0 0 5;had 0 1 5;had 1 0", 4, 86);
        fine(ahead + "had 1 0 5;had 1 1 5;had 0 0 5;had 0 1 5;");
        fault(FULL + "had 4 4 1;had 4 4 1;", 4, FULL.length() + 16);
    }

    /** FAULT 5: "a second 'clean'", whatever stands between or behind, even of the same WEIGHT. */
    private static void secondClean() {
        fault("clean 1;clean 1;", 5, 8);
        fault("clean 0;\n clean", 5, 10);
        fault("clean 9;dish 1 2;clean;", 5, 17);
        fault("clean 1;cleann 1;", 1, 8);
    }

    // ---- Promise 9, SHOWS ----

    /** "never, if he has grown hard to it": "so often, or more". */
    private static void hardSoOftenOrMore() {
        int[] times = {0, 2, 3, 4, 99};
        int[] due = {5, 5, -1, -1, -1};
        for (int i = 0; i < times.length; i++) {
            TasterTable x = Check.made("poison 5 hardens 3;taster plain;had 0 0 " + times[i] + ";");
            CHECK.same("HAD " + times[i], due[i], () -> x.shows(0, 0, false));
            CHECK.same("with WINE too", due[i], () -> x.shows(0, 0, true));
        }
        CHECK.same("9 of 9", -1, () -> Check.made("poison 5 hardens 9;taster dog;had 0 0 9;").shows(0, 0, true));
        CHECK.same("8 of 9", 3, () -> Check.made("poison 5 hardens 9;taster dog;had 0 0 8;").shows(0, 0, true));
        CHECK.same("0 of 1", 5, () -> Check.made("poison 5 hardens 1;taster plain;").shows(0, 0, true));
    }

    /** HARDENS "0 without: none grows hard", told as 0 too. */
    private static void noneGrowsHard() {
        CHECK.same("without", 5, () -> Check.made("poison 5;taster plain;had 0 0 99;").shows(0, 0, false));
        CHECK.same("0", 5, () -> Check.made("poison 5 hardens 0;taster plain;had 0 0 99;").shows(0, 0, false));
        CHECK.same("0, HAD 0", 5, () -> Check.made("poison 5 hardens 0;taster plain;").shows(0, 0, false));
    }

    /** One grows hard to the POISON that he HAD, and no other TASTER does. */
    private static void hardToThatPoisonAlone() {
        TasterTable x = Check.made("poison 5 hardens 1;poison 6 hardens 1;taster plain;taster plain;had 0 1 1;");
        CHECK.same("he, that one", -1, () -> x.shows(0, 1, true));
        CHECK.same("he, the other", 5, () -> x.shows(0, 0, true));
        CHECK.same("another", 6, () -> x.shows(1, 1, true));
    }

    /** "or it wants WINE and he had none". */
    private static void wantsWine() {
        TasterTable x = Check.made("poison 7 wine;poison 7;taster plain;taster slow;taster liar;");
        int[] wet = {7, 14, 7};
        for (int taster = 0; taster < 3; taster++) {
            int t = taster;
            CHECK.same("none", -1, () -> x.shows(t, 0, false));
            CHECK.same("with", wet[t], () -> x.shows(t, 0, true));
            CHECK.same("another POISON, none", wet[t], () -> x.shows(t, 1, false));
            CHECK.same("another POISON, with", wet[t], () -> x.shows(t, 1, true));
        }
    }

    /** "Drunk: he always has WINE; 4 TICKS more than its DELAY". */
    private static void drunkAlwaysHasWine() {
        TasterTable x = Check.made("poison 1 wine;poison 40 wine;poison 40;taster drunk;");
        CHECK.same("least", 5, () -> x.shows(0, 0, false));
        CHECK.same("greatest", 44, () -> x.shows(0, 1, false));
        CHECK.same("with", 44, () -> x.shows(0, 1, true));
        CHECK.same("that wants none", 44, () -> x.shows(0, 2, false));
    }

    /** "Dog: it never has WINE; half of the DELAY, cut up". */
    private static void dogNeverHasWine() {
        TasterTable x = Check.made("poison 1;poison 2;poison 39;poison 40;poison 40 wine;taster dog;");
        int[] due = {1, 1, 20, 20, -1};
        for (int poison = 0; poison < 5; poison++) {
            int p = poison;
            CHECK.same("without, " + p, due[p], () -> x.shows(0, p, false));
            CHECK.same("with, " + p, due[p], () -> x.shows(0, p, true));
        }
    }

    /** "Slow: twice that", "Plain: its DELAY", "Liar: as plain", at the least and the greatest DELAY. */
    private static void leastAndGreatestDelay() {
        TasterTable x = Check.made("poison 1;poison 40;taster slow;taster plain;taster liar;");
        int[][] due = {{2, 80}, {1, 40}, {1, 40}};
        for (int taster = 0; taster < 3; taster++) {
            int t = taster;
            CHECK.same("least of " + t, due[t][0], () -> x.shows(t, 0, false));
            CHECK.same("greatest of " + t, due[t][1], () -> x.shows(t, 1, true));
        }
    }
}
