/**
 * Boundary cases of promises 22 to 28 and of what Terms says of A TRIAL, DAYS of a court and STATUS:
 * one test for each sentence that names one. What stands in quotes is the document's.
 */
public final class CourtEdgeTest {
    private static final Check CHECK = new Check("CourtEdgeTest");
    private static final int LEAST = Integer.MIN_VALUE;
    private static final int GREATEST = Integer.MAX_VALUE;
    private static final int[] NO_LIES = {-1, 3, LEAST, GREATEST};
    private static final String SMALL = "dish 0 20;poison 5;taster plain;";

    public static void main(String[] args) {
        CHECK.runEach(CourtEdgeTest.class);
    }

    // ---- helpers ----

    private static void trial(int days, int his, int ill, int both, int upper, int lower) {
        TasterTable x = new TasterTable();
        String told = "trial(" + days + ", " + his + ", " + ill + ", " + both + ", ";
        CHECK.same(told + "0)", upper, () -> x.trial(days, his, ill, both, 0));
        CHECK.same(told + "1)", lower, () -> x.trial(days, his, ill, both, 1));
    }

    private static void noTrial(int days, int his, int ill, int both) {
        TasterTable x = new TasterTable();
        String told = "trial(" + days + ", " + his + ", " + ill + ", " + both + ", ";
        CHECK.illegal(told + "0)", () -> x.trial(days, his, ill, both, 0));
        CHECK.illegal(told + "1)", () -> x.trial(days, his, ill, both, 1));
        CHECK.noSuch(told + "2)", () -> x.trial(days, his, ill, both, 2));
    }

    private static long begins(TasterTable x, int seed, int lies, int chance) {
        return x.begin(seed, lies, chance) ? 1 : 0;
    }

    private static TasterTable court(String text, int seed, int lies, int chance, int days) {
        TasterTable x = Check.made(text);
        CHECK.yes("'" + text + "' begins", () -> begins(x, seed, lies, chance));
        for (int left = days; left > 0; left -= 100) {
            x.on(Math.min(100, left));
        }
        CHECK.same("'" + text + "' DAYS", days, () -> x.count(10));
        return x;
    }

    private static void day(TasterTable x, int day, int... due) {
        for (int what = 0; what < 4; what++) {
            int w = what;
            CHECK.same("day(" + day + ", " + w + ")", due[w], () -> x.day(day, w));
        }
    }

    /** A seed after so many steps, counted in long and cut, not wrapped. */
    private static int stepped(int seed, int steps) {
        long state = seed & 0xFFFFFFFFL;
        for (int i = 0; i < steps; i++) {
            state = (state * 1103515245L + 12345L) & 0xFFFFFFFFL;
        }
        return (int) state;
    }

    /** Bits 16 to 30 of a seed after so many steps. */
    private static int bits(int seed, int steps) {
        return (int) ((stepped(seed, steps) & 0x7FFF0000L) >> 16);
    }

    // ---- Promise 22 ----

    /** Promise 22: "NoSuchElementException: another what", IllegalArgumentException "(behind that)". */
    private static void trialWhat() {
        TasterTable x = new TasterTable();
        for (int what : new int[] {-1, 2, 3, LEAST, GREATEST}) {
            CHECK.noSuch("fine but what " + what, () -> x.trial(5, 2, 2, 1, what));
            CHECK.noSuch("all wrong, what " + what, () -> x.trial(0, -1, -1, -1, what));
        }
    }

    /** Terms: "N days (1 to 30)". */
    private static void trialDays() {
        trial(1, 0, 0, 0, 1, 1);
        trial(1, 1, 1, 1, 1, 1);
        trial(1, 0, 1, 1, 0, 1);
        trial(30, 30, 30, 30, 1, 1);
        trial(30, 0, 0, 0, 1, 1);
        for (int days : new int[] {0, -1, 31, 32, LEAST, GREATEST}) {
            noTrial(days, 0, 0, 0);
            noTrial(days, 1, 1, 1);
        }
    }

    /** Promise 22: "m not 0 to N". */
    private static void trialHis() {
        trial(5, 0, 2, 0, 1, 1);
        trial(5, 0, 2, 1, 0, 1);
        trial(5, 5, 2, 2, 1, 1);
        for (int his : new int[] {-1, 6, LEAST, GREATEST}) {
            noTrial(5, his, 2, 1);
        }
        noTrial(30, 31, 2, 1);
    }

    /** Promise 22: "n not 0 to N". */
    private static void trialIll() {
        trial(5, 2, 0, 0, 1, 1);
        trial(5, 2, 5, 2, 1, 1);
        trial(5, 2, 5, 3, 0, 1);
        for (int ill : new int[] {-1, 6, LEAST, GREATEST}) {
            noTrial(5, 2, ill, 0);
        }
        noTrial(30, 2, 31, 1);
    }

    /** Promise 22: "k not 0 to n"; k above m may be, though it never is. */
    private static void trialBoth() {
        trial(5, 2, 3, 0, 1, 1);
        trial(5, 2, 3, 2, 3, 10);
        trial(5, 2, 3, 3, 0, 1);
        for (int both : new int[] {-1, 4, LEAST, GREATEST}) {
            noTrial(5, 2, 3, both);
        }
        noTrial(5, 5, 0, 1);
    }

    /** Terms: "it is k or more": k less than what must be is sure, k that just must be too. */
    private static void trialThatMustBe() {
        trial(5, 4, 4, 3, 1, 1);
        trial(5, 4, 4, 4, 1, 5);
        trial(30, 20, 20, 10, 1, 1);
        trial(30, 29, 29, 29, 1, 30);
    }

    /** The greatest fractions there are, in lowest terms. */
    private static void greatestTrial() {
        trial(30, 15, 15, 15, 1, 155117520);
        trial(30, 15, 15, 1, 155117519, 155117520);
        trial(30, 15, 15, 8, 1, 2);
        trial(30, 14, 15, 14, 1, 9694845);
    }

    // ---- Promise 23 ----

    /** Promise 23: "IllegalArgumentException: LIES". */
    private static void beginLies() {
        TasterTable x = Check.made(SMALL);
        for (int lies : NO_LIES) {
            CHECK.illegal("lies " + lies, () -> begins(x, 1, lies, 5));
        }
        CHECK.same("no STATUS", 0, () -> x.count(9));
        CHECK.noSuch("none have begun", () -> x.had(0, 0));
    }

    /** Promise 23: "IllegalArgumentException: .. CHANCE"; Terms: "a CHANCE (0 to 1000)". */
    private static void beginChance() {
        TasterTable x = Check.made(SMALL);
        for (int chance : new int[] {-1, 1001, LEAST, GREATEST}) {
            CHECK.illegal("chance " + chance, () -> begins(x, 1, 0, chance));
            CHECK.illegal("chance " + chance + " without a PLAN", () -> begins(x, 1, 2, chance));
        }
        CHECK.same("no STATUS", 0, () -> x.count(9));
        CHECK.yes("chance 0", () -> begins(x, 1, 0, 0));
        CHECK.yes("chance 1000", () -> begins(x, 1, 0, 1000));
    }

    /** Promise 23: "False (STATUS 2; nothing changes): there is no PLAN against LIES". */
    private static void beginWithoutAPlan() {
        TasterTable x = court(SMALL, 7, 0, 1000, 3);
        x.image();
        CHECK.same("against 1", 0, () -> begins(x, 9, 1, 5));
        CHECK.same("against 2", 0, () -> begins(x, 9, 2, 5));
        CHECK.same("STATUS 2", 2, () -> x.count(9));
        CHECK.same("no other STATUS", 0, () -> x.count(7) + x.count(8));
        CHECK.same("DAYS stay", 3, () -> x.count(10));
        CHECK.same("HAD stays", 3, () -> x.had(0, 0));
        day(x, 2, 0, 0, 1, 0);
        CHECK.same("they go on", 4, () -> x.on(1));
        day(x, 3, 0, 0, 1, 0);
        TasterTable none = Check.made(SMALL);
        begins(none, 1, 1, 5);
        CHECK.same("none have begun", -1, () -> none.on(1));
    }

    /** DAYS may begin anew: there were none then, and what was HAD is as told. */
    private static void beginAnew() {
        TasterTable x = court(SMALL + "had 0 0 4;", 7, 0, 1000, 300);
        CHECK.yes("anew", () -> begins(x, 7, 0, 0));
        CHECK.same("DAYS", 0, () -> x.count(10));
        CHECK.noSuch("DAY 0", () -> x.day(0, 0));
        CHECK.same("HAD", 4, () -> x.had(0, 0));
        CHECK.same("on", 100, () -> x.on(100));
        day(x, 99, -1, -1, 0, 0);
    }

    /** begin() keeps no PLAN for planned(): that is what plan() does. */
    private static void beginKeepsNoPlan() {
        TasterTable x = court("dish 0 20;poison 5;taster plain;taster slow;", 1, 1, 5, 1);
        CHECK.noSuch("none is kept", () -> x.planned(0, 0));
        x.plan(0, 0);
        begins(x, 1, 1, 5);
        CHECK.same("the earlier one is", 1, () -> x.planned(0, 0));
    }

    /** DAYS of an empty table may begin: THE PLAN has nobody. */
    private static void beginOfNothing() {
        for (int lies = 0; lies <= 2; lies++) {
            TasterTable x = new TasterTable();
            int l = lies;
            CHECK.yes("lies " + l, () -> begins(x, 0, l, 1000));
            CHECK.same("on", 5, () -> x.on(5));
            day(x, 4, -1, -1, 0, 0);
        }
    }

    // ---- Promise 24 ----

    /** Promise 24: "So many DAYS more (0 to 100)", "IllegalArgumentException (ahead): how many". */
    private static void onHowMany() {
        TasterTable none = Check.made(SMALL);
        TasterTable x = court(SMALL, 1, 0, 5, 0);
        for (int days : new int[] {-1, 101, 300, LEAST, GREATEST}) {
            CHECK.illegal("none begun, on(" + days + ")", () -> none.on(days));
            CHECK.illegal("on(" + days + ")", () -> x.on(days));
        }
        CHECK.same("no STATUS, none begun", 0, () -> none.count(9));
        CHECK.same("no STATUS", 0, () -> x.count(9));
        CHECK.same("0", 0, () -> x.on(0));
        CHECK.same("100", 100, () -> x.on(100));
        CHECK.same("1", 101, () -> x.on(1));
    }

    /** Promise 24: "NONE (STATUS 2): .. none have begun", of 0 DAYS too. */
    private static void onNoneBegun() {
        TasterTable x = Check.made(SMALL);
        CHECK.same("on(1)", -1, () -> x.on(1));
        CHECK.same("on(0)", -1, () -> x.on(0));
        CHECK.same("on(100)", -1, () -> x.on(100));
        CHECK.same("STATUS 2", 3, () -> x.count(9));
        CHECK.same("no other STATUS", 0, () -> x.count(7) + x.count(8));
        CHECK.same("DAYS", 0, () -> x.count(10));
    }

    /** Promise 24: "NONE (STATUS 2): they would be more than 300", and none of them passes. */
    private static void onBeyond300() {
        TasterTable x = court(SMALL, 1, 0, 1000, 299);
        CHECK.same("299 and 2", -1, () -> x.on(2));
        CHECK.same("299 and 100", -1, () -> x.on(100));
        CHECK.same("STATUS 2", 2, () -> x.count(9));
        CHECK.same("DAYS", 299, () -> x.count(10));
        CHECK.noSuch("DAY 299", () -> x.day(299, 0));
        CHECK.same("299 and 1", 300, () -> x.on(1));
        CHECK.same("300 and 0", 300, () -> x.on(0));
        CHECK.same("300 and 1", -1, () -> x.on(1));
        CHECK.same("STATUS 2", 3, () -> x.count(9));
        day(x, 299, 0, 0, 1, 0);
        CHECK.illegal("ahead", () -> x.on(101));
    }

    /** DAYS that were refused draw nothing: the seed goes on as without them. */
    private static void refusedDaysDrawNothing() {
        String text = "dish 0 20;dish 0 20;poison 5;poison 6;taster plain;";
        TasterTable x = court(text, 77, 0, 500, 250);
        x.on(60);
        begins(x, 1, 2, 1);
        x.on(50);
        TasterTable y = court(text, 77, 0, 500, 300);
        for (int day = 245; day < 300; day++) {
            int d = day;
            CHECK.same("DISH of " + d, y.day(d, 0), () -> x.day(d, 0));
            CHECK.same("POISON of " + d, y.day(d, 1), () -> x.day(d, 1));
        }
    }

    /** One call of two DAYS is like two of one, and of 0 like none. */
    private static void daysAtOnceOrOneByOne() {
        String text = "dish 0 20;dish 0 20;poison 5 hardens 9;poison 6 hardens 8;taster plain;taster dog;";
        TasterTable one = court(text, -5, 0, 700, 0);
        for (int i = 0; i < 40; i++) {
            one.on(1);
            one.on(0);
        }
        TasterTable all = court(text, -5, 0, 700, 40);
        for (int day = 0; day < 40; day++) {
            int d = day;
            day(one, d, all.day(d, 0), all.day(d, 1), all.day(d, 2), all.day(d, 3));
        }
    }

    // ---- Promise 25 ----

    /** Promise 25: "NoSuchElementException: it hasn't been". */
    private static void dayThatHasntBeen() {
        TasterTable none = new TasterTable();
        CHECK.noSuch("none begun", () -> none.day(0, 0));
        TasterTable begun = court(SMALL, 1, 0, 5, 0);
        CHECK.noSuch("just begun", () -> begun.day(0, 0));
        TasterTable x = court(SMALL, 1, 0, 5, 2);
        for (int day : new int[] {-1, 2, 3, 299, 300, LEAST, GREATEST}) {
            CHECK.noSuch("day(" + day + ", 0)", () -> x.day(day, 0));
        }
        CHECK.same("the first", 0, () -> x.day(0, 3));
        CHECK.same("the last", 0, () -> x.day(1, 3));
    }

    /** Promise 25: "another what". */
    private static void dayWhat() {
        TasterTable x = court(SMALL, 1, 0, 5, 1);
        for (int what : new int[] {-1, 4, 5, LEAST, GREATEST}) {
            CHECK.noSuch("day(0, " + what + ")", () -> x.day(0, what));
        }
    }

    /** Promise 25: "(what 0; NONE: none), the POISON (1; NONE)"; nobody FELL, and it didn't FAIL. */
    private static void dayOfNothing() {
        day(court(SMALL, 1, 0, 0, 1), 0, -1, -1, 0, 0);
        day(court("dish 0 20;poison 5;taster plain;taster plain;taster plain;", 1, 2, 0, 1), 0, -1, -1, 0, 0);
    }

    // ---- Promise 26 ----

    /** Promise 26: "NoSuchElementException: also no DAYS have begun". */
    private static void hadOfNoCourt() {
        TasterTable x = Check.made(SMALL + "had 0 0 3;");
        CHECK.noSuch("none begun", () -> x.had(0, 0));
        begins(x, 1, 1, 1);
        CHECK.noSuch("refused", () -> x.had(0, 0));
        begins(x, 1, 0, 1);
        CHECK.same("begun, as told", 3, () -> x.had(0, 0));
    }

    /** Promise 26: no such TASTER, no such POISON, in a court. */
    private static void hadOfNobody() {
        TasterTable x = court("dish 0 20;poison 5;poison 6;taster plain;taster dog;had 1 1 9;", 1, 0, 5, 1);
        for (int i : new int[] {-1, 2, 5, LEAST, GREATEST}) {
            CHECK.noSuch("TASTER " + i, () -> x.had(i, 0));
            CHECK.noSuch("POISON " + i, () -> x.had(0, i));
        }
        CHECK.same("the last of both", 9, () -> x.had(1, 1));
    }

    /** Terms: "(99 at most; in the court alone)". */
    private static void had99AtMost() {
        TasterTable x = court("dish 0 20;poison 5;taster plain;had 0 0 97;", 1, 0, 1000, 0);
        for (int due : new int[] {98, 99, 99, 99}) {
            x.on(1);
            CHECK.same("HAD", due, () -> x.had(0, 0));
        }
        CHECK.same("in the court alone", 97, () -> x.taster(0, 10));
        TasterTable from0 = court(SMALL, 1, 0, 1000, 300);
        CHECK.same("of 300", 99, () -> from0.had(0, 0));
        CHECK.same("told 99", 99, () -> court("dish 0 20;poison 5;taster plain;had 0 0 99;", 1, 0, 1000, 1).had(0, 0));
    }

    /** Terms: "All of its set have HAD it once more behind that DAY", and nobody else. */
    private static void allOfItsSetHadIt() {
        TasterTable x = court("dish 0 20;poison 5;poison 7 weight 0;taster plain;taster liar;taster slow;taster drunk;",
                1, 1, 1000, 3);
        int[] due = {3, 0, 0, 3};
        for (int taster = 0; taster < 4; taster++) {
            int t = taster;
            CHECK.same("HAD by " + t, due[t], () -> x.had(t, 0));
            CHECK.same("the other POISON", 0, () -> x.had(t, 1));
        }
    }

    // ---- Terms: a DAY ----

    /** "if it is below CHANCE": a DRAW of just CHANCE is not, one less is. */
    private static void drawBelowChance() {
        for (int seed : new int[] {0, 1, 99, -1, LEAST, GREATEST}) {
            int drawn = bits(seed, 1) % 1000;
            TasterTable not = court(SMALL, seed, 0, drawn, 1);
            day(not, 0, -1, -1, 0, 0);
            TasterTable poisoned = court(SMALL, seed, 0, drawn + 1, 1);
            day(poisoned, 0, 0, 0, 1, 0);
        }
    }

    /** CHANCE 0 poisons nothing, CHANCE 1000 every DAY. */
    private static void neverAndAlways() {
        TasterTable never = court(SMALL, 12345, 0, 0, 50);
        TasterTable always = court(SMALL, 12345, 0, 1000, 50);
        for (int day = 0; day < 50; day++) {
            day(never, day, -1, -1, 0, 0);
            day(always, day, 0, 0, 1, 0);
        }
    }

    /** "the first by whom WEIGHTS together are more": a DRAW of just their WEIGHTS goes to the next. */
    private static void firstByWeights() {
        for (int seed = 0; seed < 40; seed++) {
            int dish = bits(seed, 2) % 5;
            int poison = bits(seed, 3) % 7;
            TasterTable x = court("dish 0 20 weight 0;dish 0 20 weight 2;dish 0 20 weight 0;dish 0 20 weight 3;"
                    + "dish 0 20 weight 0;"
                    + "poison 5 weight 4;poison 6 weight 0;poison 7 weight 3;taster plain;", seed, 0, 1000, 1);
            day(x, 0, dish < 2 ? 1 : 3, poison < 4 ? 0 : 2, 1, 0);
        }
    }

    /** The greatest WEIGHTS that are drawn of: 594 of DISHES, 495 of POISONS. */
    private static void greatestWeightsDrawn() {
        String text = "dish 0 20 weight 99;".repeat(6) + "poison 5 weight 99;".repeat(5) + "taster plain;";
        for (int seed : new int[] {3, -3, LEAST, GREATEST, 20000}) {
            TasterTable x = court(text, seed, 0, 1000, 1);
            day(x, 0, bits(seed, 2) % 594 / 99, bits(seed, 3) % 495 / 99, 1, 0);
        }
    }

    /** A DAY without a POISON takes one DRAW, one with it three: "DRAWS" of the next DAY come behind. */
    private static void drawsOfTheNextDay() {
        String text = "dish 0 20;dish 0 20;dish 0 20;poison 5;poison 5;taster plain;";
        for (int seed = 0; seed < 30; seed++) {
            TasterTable x = court(text, seed, 0, 500, 4);
            int steps = 0;
            for (int day = 0; day < 4; day++) {
                if (bits(seed, steps + 1) % 1000 < 500) {
                    day(x, day, bits(seed, steps + 2) % 3, bits(seed, steps + 3) % 2, 1, 0);
                    steps += 3;
                } else {
                    day(x, day, -1, -1, 0, 0);
                    steps++;
                }
            }
        }
    }

    /** "(an int that wraps)": seeds at both ends, and those whose bit 31 or whose lower bits alone differ. */
    private static void seedsThatWrap() {
        String text = "dish 0 20;".repeat(6) + "poison 5;".repeat(5) + "taster plain;";
        for (int seed : new int[] {LEAST, LEAST + 1, -1, 0, 1, GREATEST - 1, GREATEST, 0x40000000, 0xC0000000, 0xFFFF, 0x10000}) {
            TasterTable x = court(text, seed, 0, 1000, 20);
            for (int day = 0; day < 20; day++) {
                day(x, day, bits(seed, 3 * day + 2) % 6, bits(seed, 3 * day + 3) % 5, 1, 0);
            }
        }
    }

    /** Two seeds that bit 31 alone tells apart draw the same: bits 16 to 30 are drawn, and bit 31 moves no lower one. */
    private static void bit31IsntDrawn() {
        String text = "dish 0 20;".repeat(6) + "poison 5;".repeat(5) + "taster plain;";
        TasterTable one = court(text, 1000, 0, 600, 50);
        TasterTable other = court(text, 1000 ^ LEAST, 0, 600, 50);
        for (int day = 0; day < 50; day++) {
            day(other, day, one.day(day, 0), one.day(day, 1), one.day(day, 2), one.day(day, 3));
        }
    }

    /** "in whom it SHOWS by when it is SERVED": at that TICK still; one whom it shows later doesn't FALL. */
    private static void fallsByWhenServed() {
        // tasted 10 ticks ahead, for the slow one's sake
        day(court("dish 0 20;poison 5;taster plain;taster slow;taster drunk;", 1, 2, 1000, 1), 0, 0, 0, 7, 0);
        day(court("dish 0 20;poison 5 weight 0;poison 9;taster plain;", 1, 0, 1000, 1), 0, 0, 1, 1, 0);
        day(court("dish 0 20;poison 20;taster plain;", 1, 0, 1000, 1), 0, 0, 0, 1, 0);
    }

    /** They taste "with WINE (but dogs)" on every DAY. */
    private static void fallsWithWine() {
        day(court("dish 0 20;poison 5 wine;taster plain;taster drunk;", 1, 1, 1000, 1), 0, 0, 0, 3, 0);
        day(court("dish 0 8;poison 5 wine weight 0;poison 15;taster plain;taster dog;", 1, 0, 1000, 1), 0, 0, 1, 2, 0);
        day(court("dish 0 8;poison 5 wine;poison 15 weight 0;taster plain;taster dog;", 1, 0, 1000, 1), 0, 0, 0, 1, 0);
    }

    /** One of the set in whom the POISON shows behind SERVED doesn't FALL, but has HAD it. */
    private static void showsTooLate() {
        // the dog for poison 1, the plain one (whom that shows 18 ticks late) for poison 0, both 9 ticks ahead
        TasterTable y = court("dish 0 17;poison 9 wine hardens 1 weight 0;poison 18 hardens 2;taster dog;taster plain;",
                1, 0, 1000, 3);
        y.plan(0, 0);
        CHECK.same("both", 3, () -> y.planned(0, 0));
        day(y, 0, 0, 1, 1, 0);
        day(y, 1, 0, 1, 1, 0);
        day(y, 2, 0, 1, 0, 1);
        CHECK.same("HAD by the dog", 3, () -> y.had(0, 1));
        CHECK.same("HAD by the plain one", 3, () -> y.had(1, 1));
    }

    /** The 5th TASTER of five falls and has HAD it like any other. */
    private static void fallsOfAllFive() {
        TasterTable x = court("dish 0 20;poison 5 hardens 1;taster slow;taster liar;taster drunk;taster plain;taster dog;",
                1, 2, 1000, 2);
        day(x, 0, 0, 0, 28, 0);
        day(x, 1, 0, 0, 0, 1);
        CHECK.same("HAD by the 5th", 2, () -> x.had(4, 0));
        CHECK.same("HAD by the 1st", 0, () -> x.had(0, 0));
        day(court("dish 0 20;poison 5;" + "taster dog;".repeat(5), 1, 0, 1000, 1), 0, 0, 0, 1, 0);
    }

    /** "if they are no more than LIES, it is served: FAILED": just LIES of them fail, LIES and 1 don't. */
    private static void noMoreThanLies() {
        // by days the tasters 0, 1, 2 grow hard one behind the other
        String text = "dish 0 20;poison 5 hardens 4;taster plain;taster plain;taster plain;had 0 0 3;had 1 0 2;had 2 0 1;";
        int[] fell = {7, 6, 4, 0, 0};
        TasterTable x = court(text, 1, 2, 1000, 5);
        for (int day = 0; day < 5; day++) {
            day(x, day, 0, 0, fell[day], day == 0 ? 0 : 1);
        }
        TasterTable one = court("dish 0 20;poison 5 hardens 4;taster plain;taster plain;had 0 0 3;had 1 0 2;", 1, 1, 1000, 3);
        day(one, 0, 0, 0, 3, 0);
        day(one, 1, 0, 0, 2, 1);
        day(one, 2, 0, 0, 0, 1);
        TasterTable none = court("dish 0 20;poison 5 hardens 4;taster plain;had 0 0 3;", 1, 0, 1000, 2);
        day(none, 0, 0, 0, 1, 0);
        day(none, 1, 0, 0, 0, 1);
    }

    /** One grows hard "behind that DAY": on the DAY on which he has HAD it often enough he FALLS still. */
    private static void hardBehindThatDay() {
        TasterTable x = court("dish 0 20;poison 5 hardens 2;taster plain;", 1, 0, 1000, 4);
        int[] fell = {1, 1, 0, 0};
        for (int day = 0; day < 4; day++) {
            day(x, day, 0, 0, fell[day], 1 - fell[day]);
        }
        CHECK.same("HAD", 4, () -> x.had(0, 0));
    }

    /** "with THE PLAN .. as it was when they began": no other is sought when they grow hard, nor is it the one kept. */
    private static void planAsItWas() {
        TasterTable x = court("dish 0 20;poison 5 hardens 1;taster plain;taster slow;", 1, 0, 1000, 2);
        x.plan(1, 0);
        x.on(1);
        day(x, 0, 0, 0, 1, 0);
        day(x, 1, 0, 0, 0, 1);
        day(x, 2, 0, 0, 0, 1);
        CHECK.same("the slow one HAD none", 0, () -> x.had(1, 0));
        CHECK.same("THE PLAN of the table is the same", 1, () -> x.plan(0, 0));
    }

    /** "If all WEIGHTS of DISHES, or of POISONS, are 0 (or there are none), nothing is poisoned". */
    private static void nothingToPoison() {
        String[] texts = {"", "dish 0 20;", "dish 0 20;taster plain;", "poison 5;", "poison 5;taster plain;",
            "dish 0 20 weight 0;dish 0 20 weight 0;poison 5;taster plain;",
            "dish 0 20;poison 5 weight 0;poison 6 weight 0;taster plain;",
            "dish 0 20 weight 0;poison 5 weight 0;taster plain;"};
        for (String text : texts) {
            TasterTable x = court(text, 5, 0, 1000, 100);
            for (int day = 0; day < 100; day += 9) {
                day(x, day, -1, -1, 0, 0);
            }
        }
        TasterTable x = court("dish 0 20 weight 0;poison 5;taster plain;", 5, 0, 1000, 100);
        CHECK.same("nothing is HAD", 0, () -> x.had(0, 0));
    }

    // ---- STATUS ----

    /** "how many calls were refused": each STATUS counts its own, and a call that throws in none. */
    private static void statusOfEach() {
        TasterTable x = Check.made(SMALL);
        Check.table(x, "x");
        x.ate(0, 0, 1000, false);
        x.ate(0, 0, 1000, false);
        x.on(1);
        x.on(1);
        begins(x, 1, 2, 1);
        int[] due = {1, 2, 3};
        for (int round = 0; round < 2; round++) {
            for (int status = 0; status < 3; status++) {
                int s = status;
                CHECK.same("STATUS " + s, due[s], () -> x.count(7 + s));
            }
            Check.of(() -> x.table(-1));
            Check.of(() -> x.ate(9, 0, 0, false));
            Check.of(() -> x.fell(9, 0));
            Check.of(() -> x.on(-1));
            Check.of(() -> begins(x, 1, 9, 1));
            Check.of(() -> x.plan(2, 0));
            Check.of(() -> x.waiting(-1));
            x.restore();
            x.undo();
        }
    }

    // ---- Promises 27 and 28 ----

    /** Promise 28: "False: there is none", and nothing changes then. */
    private static void restoreOfNoImage() {
        TasterTable x = court(SMALL, 1, 0, 1000, 2);
        x.ate(0, 0, 5, false);
        CHECK.same("none", 0, () -> x.restore() ? 1 : 0);
        CHECK.same("EVENTS", 1, () -> x.count(4));
        CHECK.same("DAYS", 2, () -> x.count(10));
        CHECK.same("new", 0, () -> new TasterTable().restore() ? 1 : 0);
    }

    /** Promise 27: of nothing: no EVENTS and no court. */
    private static void imageOfNothing() {
        TasterTable x = Check.made(SMALL);
        x.image();
        x.ate(0, 0, 5, false);
        x.fell(0, 10);
        begins(x, 1, 0, 1000);
        x.on(5);
        CHECK.yes("restored", () -> x.restore() ? 1 : 0);
        CHECK.same("EVENTS", 0, () -> x.count(4));
        CHECK.same("NOW", 0, () -> x.count(5));
        CHECK.same("he didn't FALL", -1, () -> x.taster(0, 2));
        CHECK.same("undo", -1, x::undo);
        CHECK.same("DAYS", 0, () -> x.count(10));
    }

    /** Promise 27: "the court (none, if none has begun)": restored, none has begun. */
    private static void imageOfNoCourt() {
        TasterTable x = Check.made(SMALL);
        x.image();
        begins(x, 1, 0, 1000);
        x.on(5);
        x.restore();
        CHECK.noSuch("day", () -> x.day(0, 0));
        CHECK.noSuch("had", () -> x.had(0, 0));
        CHECK.same("on", -1, () -> x.on(1));
        CHECK.same("STATUS 2", 1, () -> x.count(9));
    }

    /** A court that has begun, but without a DAY, is one. */
    private static void imageOfACourtWithoutDays() {
        TasterTable x = court(SMALL + "had 0 0 6;", 1, 0, 1000, 0);
        x.image();
        x.on(5);
        CHECK.same("HAD", 11, () -> x.had(0, 0));
        x.restore();
        CHECK.same("DAYS", 0, () -> x.count(10));
        CHECK.same("HAD again", 6, () -> x.had(0, 0));
        CHECK.same("on", 1, () -> x.on(1));
    }

    /** Promise 27: "in place of another one". */
    private static void imageInPlaceOfAnother() {
        TasterTable x = court(SMALL, 1, 0, 1000, 2);
        x.ate(0, 0, 5, false);
        x.image();
        x.ate(0, 0, 6, false);
        x.on(1);
        x.image();
        x.undo();
        x.undo();
        x.on(1);
        x.restore();
        CHECK.same("EVENTS of the later", 2, () -> x.count(4));
        CHECK.same("DAYS of the later", 3, () -> x.count(10));
    }

    /** An image doesn't change with what comes behind it, and may be restored again. */
    private static void imageStaysAsItIs() {
        TasterTable x = court(SMALL + "taster dog;", 1, 0, 1000, 2);
        x.ate(0, 0, 5, true);
        x.fell(0, 10);
        x.image();
        for (int round = 0; round < 3; round++) {
            x.undo();
            x.undo();
            x.ate(1, 0, 900, false);
            x.fell(1, 3);
            x.on(7);
            CHECK.yes("restored", () -> x.restore() ? 1 : 0);
            CHECK.same("EVENTS", 2, () -> x.count(4));
            CHECK.same("NOW", 10, () -> x.count(5));
            CHECK.same("FELL", 10, () -> x.taster(0, 2));
            CHECK.same("didn't", -1, () -> x.taster(1, 2));
            CHECK.same("FITS", 1, () -> x.cases(-1));
            CHECK.same("DAYS", 2, () -> x.count(10));
            CHECK.same("HAD", 2, () -> x.had(1, 0));
        }
        CHECK.same("undone as ever", 1, x::undo);
        CHECK.same("FELL no more", -1, () -> x.taster(0, 2));
    }

    /** All of an EVENT is in the image: who, the DISH, the TICK, with WINE or not, ATE or FELL. */
    private static void imageHasAllOfAnEvent() {
        TasterTable x = Check.made("dish 0 20;dish 0 20;poison 5 wine;poison 9;taster plain;taster plain;");
        x.ate(0, 1, 3, true);
        x.ate(1, 0, 4, false);
        x.ate(0, 0, 1, false);
        x.fell(0, 8);
        x.image();
        for (int i = 0; i < 4; i++) {
            x.undo();
        }
        x.fell(1, 6);
        x.ate(0, 1, 2, true);
        x.ate(0, 0, 3, true);
        x.ate(1, 1, 0, true);
        CHECK.same("another one FITS", 0, () -> x.cases(-1));
        x.restore();
        CHECK.same("one FITS", 1, () -> x.cases(-1));
        CHECK.same("DISH 1 by POISON 0", 3, () -> x.cases(0));
        CHECK.same("3 left", 3, x::undo);
        CHECK.same("he didn't FALL", -1, () -> x.taster(0, 2));
        CHECK.same("2 left", 2, x::undo);
        CHECK.same("NOW", 4, () -> x.count(5));
        CHECK.same("none has shown", 5, () -> x.waiting(7));
        CHECK.same("one has", 4, () -> x.waiting(8));
        CHECK.same("two have", 3, () -> x.waiting(12));
        CHECK.same("of each one", 2, () -> x.waiting(13));
    }

    /** The greatest image: 60 EVENTS and 300 DAYS. */
    private static void greatestImage() {
        TasterTable x = court("dish 0 20;dish 0 20;poison 5;taster plain;taster plain;", 8, 0, 700, 300);
        for (int i = 0; i < 59; i++) {
            x.ate(0, 0, 900 + i, false);
        }
        x.fell(0, 905);
        int last = x.day(299, 0);
        int had = x.had(0, 0);
        x.image();
        begins(x, 9, 0, 0);
        x.on(100);
        for (int i = 0; i < 60; i++) {
            x.undo();
        }
        CHECK.yes("restored", () -> x.restore() ? 1 : 0);
        CHECK.same("EVENTS", 60, () -> x.count(4));
        CHECK.same("NOW", 958, () -> x.count(5));
        CHECK.same("full", -1, () -> x.fell(1, 5));
        CHECK.same("CASES", 1, () -> x.cases(-1));
        CHECK.same("DAYS", 300, () -> x.count(10));
        CHECK.same("the last DAY", last, () -> x.day(299, 0));
        CHECK.same("HAD", had, () -> x.had(0, 0));
        CHECK.same("no DAY more", -1, () -> x.on(1));
    }

    /** Promise 28: "They are as the image again": the seed, the LIES and the CHANCE of the court too. */
    private static void restoredCourtGoesOn() {
        String text = "dish 0 20;dish 0 20;poison 5 hardens 9;taster plain;taster plain;taster plain;";
        TasterTable x = court(text, 42, 1, 600, 10);
        x.image();
        begins(x, 43, 2, 1000);
        x.on(30);
        x.restore();
        CHECK.same("on", 40, () -> x.on(30));
        TasterTable straight = court(text, 42, 1, 600, 40);
        for (int day = 0; day < 40; day++) {
            day(x, day, straight.day(day, 0), straight.day(day, 1), straight.day(day, 2), straight.day(day, 3));
        }
    }

    /** restore() brings back EVENTS and the court alone: not STATUS, the tape, a FAULT's place or the PLAN that is kept. */
    private static void restoreBringsNothingElse() {
        TasterTable x = Check.made("dish 0 20;poison 5;taster plain;taster slow;");
        x.plan(0, 0);
        x.image();
        x.plan(1, 0);
        Check.table(x, "dish 5 5;");
        Check.feed(x, "clean 5;");
        x.ate(0, 0, 1000, false);
        x.on(1);
        CHECK.yes("restored", () -> x.restore() ? 1 : 0);
        CHECK.same("the PLAN", 3, () -> x.planned(0, 0));
        CHECK.same("the FAULT's place", 7, x::fault);
        CHECK.same("the tape", 20, () -> x.count(6));
        for (int what = 7; what <= 9; what++) {
            int w = what;
            CHECK.same("STATUS " + (w - 7), 1, () -> x.count(w));
        }
    }
}
