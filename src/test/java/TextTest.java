/** Promises 1 to 9: a new object, the tape, texts and their faults, what a table tells. */
public final class TextTest {
    private static final Check CHECK = new Check("TextTest");

    public static void main(String[] args) {
        newObject();
        tape();
        tellsTable();
        withoutOptions();
        faults();
        faultsOfLimits();
        faultKeepsAll();
        newTableDropsAll();
        illegalLengths();
        shows();
        CHECK.finish();
    }

    private static void newObject() {
        TasterTable x = new TasterTable();
        int[] due = {0, 0, 0, 1, 0, 0, 0, 0, 0, 0, 0};
        for (int what = 0; what < due.length; what++) {
            int asked = what;
            CHECK.same("new count(" + what + ")", due[what], () -> x.count(asked));
        }
        CHECK.same("count(-1)", Check.NO_SUCH, () -> x.count(-1));
        CHECK.same("count(11)", Check.NO_SUCH, () -> x.count(11));
        CHECK.same("new fault", -1, x::fault);
        CHECK.same("new dish", Check.NO_SUCH, () -> x.dish(0, 0));
        CHECK.same("new poison", Check.NO_SUCH, () -> x.poison(0, 0));
        CHECK.same("new taster", Check.NO_SUCH, () -> x.taster(0, 0));
        CHECK.same("new shows", Check.NO_SUCH, () -> x.shows(0, 0, true));
        CHECK.same("new planned", Check.NO_SUCH, () -> x.planned(0, 0));
        CHECK.same("new had", Check.NO_SUCH, () -> x.had(0, 0));
        CHECK.same("new day", Check.NO_SUCH, () -> x.day(0, 0));
        CHECK.same("new worth", Check.NO_SUCH, () -> x.worth(0, 9));
        CHECK.same("NONE", -1, () -> TasterTable.NONE);
    }

    private static void tape() {
        TasterTable x = new TasterTable();
        for (int i = 1; i <= 35; i++) {
            CHECK.same("feed " + i, 20 * i, () -> x.feed(-1, 0, 1, 2, 3));
        }
        CHECK.same("feed beyond 700", -1, () -> x.feed(0, 0, 0, 0, 0));
        CHECK.same("tape of 700", 700, () -> x.count(6));
        CHECK.same("a full tape isn't refused as a text", 0, () -> x.count(7));
        CHECK.same("strange byte", 1, () -> x.table(700));
        CHECK.same("tape is empty behind a fault", 0, () -> x.count(6));
        Check.feed(x, "clean 7;         dish 1 2;");
        CHECK.same("only the first 8 bytes", 0, () -> x.table(8));
        CHECK.same("clean", 7, () -> x.count(3));
        CHECK.same("no dish", 0, () -> x.count(0));
        CHECK.same("tape is empty", 0, () -> x.count(6));
        CHECK.same("empty text", 0, () -> x.table(0));
        CHECK.same("clean is 1 again", 1, () -> x.count(3));
        Check.feed(x, "clean 12;");
        CHECK.same("a number is cut", 1, () -> x.table(7));
        CHECK.same("where the text ends", 7, x::fault);
        Check.feed(x, "clean 1;");
        CHECK.same("a word is cut", 1, () -> x.table(4));
        CHECK.same("so it is none that can stand there", 0, x::fault);
        Check.feed(x, "poison 5 winex;");
        CHECK.same("another word", 1, () -> x.table(13));
        CHECK.same("which can", 13, x::fault);
        String full = "dish 1 2;" + " ".repeat(682) + "clean 55;";
        CHECK.same("700 bytes", 0, () -> Check.table(x, full));
        CHECK.same("its last line", 55, () -> x.count(3));
    }

    private static void tellsTable() {
        TasterTable x = Check.made("dish 0 95 weight 99;dish 94 95 weight 0;poison 40 wine hardens 9 weight 99;"
                + "poison 1 weight 0;poison 7 hardens 0;taster liar cap 0;taster drunk cap 6;taster dog;taster slow;"
                + "taster plain;had 0 2 99;had 4 0 0;clean 9999;");
        int[] counts = {2, 3, 5, 9999};
        for (int what = 0; what < counts.length; what++) {
            int asked = what;
            CHECK.same("count(" + what + ")", counts[what], () -> x.count(asked));
        }
        rows("dish", new int[][] {{0, 95, 99}, {94, 95, 0}}, x::dish);
        rows("poison", new int[][] {{40, 1, 9, 99}, {1, 0, 0, 0}, {7, 0, 0, 1}}, x::poison);
        rows("taster", new int[][] {{4, 0, -1}, {2, 6, -1}, {3, 6, -1}, {1, 6, -1}, {0, 6, -1}}, x::taster);
        CHECK.same("had told", 99, () -> x.taster(0, 12));
        CHECK.same("had told 0", 0, () -> x.taster(4, 10));
        CHECK.same("had untold", 0, () -> x.taster(3, 11));
        CHECK.same("no such poison of a taster", Check.NO_SUCH, () -> x.taster(0, 13));
        CHECK.same("no such thing of a taster", Check.NO_SUCH, () -> x.taster(0, 9));
        CHECK.same("greatest what", Check.NO_SUCH, () -> x.taster(0, Integer.MAX_VALUE));
        CHECK.same("least what", Check.NO_SUCH, () -> x.taster(0, Integer.MIN_VALUE));
    }

    private interface Thing {
        int of(int number, int what);
    }

    private static void rows(String name, int[][] due, Thing thing) {
        for (int number = 0; number < due.length; number++) {
            for (int what = 0; what < due[number].length; what++) {
                int n = number;
                int w = what;
                CHECK.same(name + "(" + n + ", " + w + ")", due[n][w], () -> thing.of(n, w));
            }
            int n = number;
            CHECK.same(name + " what -1", Check.NO_SUCH, () -> thing.of(n, -1));
            CHECK.same(name + " what beyond", Check.NO_SUCH, () -> thing.of(n, due[n].length));
        }
        CHECK.same(name + "(-1)", Check.NO_SUCH, () -> thing.of(-1, 0));
        CHECK.same(name + " beyond", Check.NO_SUCH, () -> thing.of(due.length, 0));
    }

    private static void withoutOptions() {
        TasterTable x = Check.made("dish 3 4;poison 2;taster plain;");
        CHECK.same("weight of a dish", 1, () -> x.dish(0, 2));
        CHECK.same("wine", 0, () -> x.poison(0, 1));
        CHECK.same("hardens", 0, () -> x.poison(0, 2));
        CHECK.same("weight of a poison", 1, () -> x.poison(0, 3));
        CHECK.same("cap", 6, () -> x.taster(0, 1));
        CHECK.same("clean", 1, () -> x.count(3));
        TasterTable tight = Check.made("\n dish0003\n0004weight0007;poison2wine;tasterplain".replace("tasterplain", "taster plain;"));
        CHECK.same("no blanks are needed", 7, () -> tight.dish(0, 2));
        CHECK.same("leading noughts", 3, () -> tight.dish(0, 0));
        CHECK.same("wine behind a number", 1, () -> tight.poison(0, 1));
    }

    private static void faults() {
        fault("dish", 1, 4);
        fault("dish ", 1, 5);
        fault("dish 1 2", 1, 8);
        fault("dish 1 2  ", 1, 10);
        fault("dish 1 2;;", 1, 9);
        fault(";", 1, 0);
        fault("7;", 1, 0);
        fault("12345;", 1, 0);
        fault("dishes 1 2;", 1, 0);
        fault("dishz 1 2;", 1, 0);
        fault("adish 1 2;", 1, 0);
        fault("Dish 1 2;", 1, 0);
        fault("dish x 2;", 1, 5);
        fault("dish 1,2;", 1, 6);
        fault("dish\t1 2;", 1, 4);
        fault("dish\r1 2;", 1, 4);
        fault("dish -1 2;", 1, 5);
        fault("dish 1 2 3;", 1, 9);
        fault("dish 1 2 weight;", 1, 15);
        fault("dish 1 2 weight 1 weight 1;", 1, 18);
        fault("dish 1 2 wine;", 1, 9);
        fault("dish 1 12345;", 2, 7);
        fault("dish 12345 2;", 2, 5);
        fault("dish 95 95;", 2, 8);
        fault("dish 95 96;", 2, 8);
        fault("dish 4 4", 2, 7);
        fault("dish 4 3;", 2, 7);
        fault("dish 4 00005;", 2, 7);
        fault("dish 1 2 weight 100;", 2, 16);
        fault("dish 1 2 weight 12345;", 2, 16);
        fault("poison wine;", 1, 7);
        fault("poison 5 12345;", 1, 9);
        fault("poison 5 wine wine;", 1, 14);
        fault("poison 5 hardens 10;", 2, 17);
        fault("poison 5 weight 1 hardens 1;", 1, 18);
        fault("poison 5 hardens 1 wine;", 1, 19);
        fault("taster;", 1, 6);
        fault("taster 0;", 1, 7);
        fault("taster plain slow;", 1, 13);
        fault("taster plain cap;", 1, 16);
        fault("taster plain cap 7;", 2, 17);
        fault("taster plain cap 6 cap 6;", 1, 19);
        fault("had;", 1, 3);
        fault("had 0 0 1;", 3, 4);
        fault("had 12345 0 1;", 2, 4);
        fault("had 9999 0 1;", 3, 4);
        fault("had dog;", 1, 4);
        fault("taster dog;had 0 12345 1;", 2, 17);
        fault("taster dog;had 0 0 1;poison 5;", 3, 17);
        fault("taster dog;poison 5;had 1 0 1;", 3, 24);
        fault("taster dog;poison 5;had 0 0 100;", 2, 28);
        fault("taster dog;poison 5;had 0 0 12345;", 2, 28);
        fault("taster dog;poison 5;had 0 0;", 1, 27);
        fault("taster dog;poison 5;had 0 0 0;had 0 0 0;", 4, 36);
        fault("clean 10000;", 2, 6);
        fault("clean;", 1, 5);
        fault("clean 0;clean", 5, 8);
        fault("clean 1;clean 10000;", 5, 8);
        fault("" + (char) 0, 1, 0);
        fault("clean 1;" + (char) 255, 1, 8);
        fault("clean 1;" + (char) 0xE4, 1, 8);
    }

    private static void fault(String text, int due, int place) {
        TasterTable x = new TasterTable();
        CHECK.same("'" + text + "'", due, () -> Check.table(x, text));
        CHECK.same("'" + text + "' fault()", place, x::fault);
        CHECK.same("'" + text + "' is refused", 1, () -> x.count(7));
    }

    private static void faultsOfLimits() {
        fault("dish 1 2;".repeat(7), 2, 54);
        fault("dish 1 2;".repeat(6) + "dish", 2, 54);
        fault("poison 3;".repeat(6), 2, 45);
        fault("taster dog;".repeat(6), 2, 55);
        TasterTable x = Check.made("dish 1 2;".repeat(6) + "poison 3;".repeat(5) + "taster dog;".repeat(5)
                + "had 4 4 9;had 4 3 8;had 3 4 7;");
        CHECK.same("six dishes", 6, () -> x.count(0));
        CHECK.same("five poisons", 5, () -> x.count(1));
        CHECK.same("five tasters", 5, () -> x.count(2));
        CHECK.same("had 4 4", 9, () -> x.taster(4, 14));
        CHECK.same("had 3 4", 7, () -> x.taster(3, 14));
    }

    private static void faultKeepsAll() {
        TasterTable x = full();
        CHECK.same("a fault", 2, () -> Check.table(x, "dish 1 2;clean 5;taster dog cap 9;"));
        CHECK.same("its place", 32, x::fault);
        CHECK.same("dishes stay", 1, () -> x.count(0));
        CHECK.same("clean stays", 4, () -> x.count(3));
        CHECK.same("events stay", 1, () -> x.count(4));
        CHECK.same("days stay", 3, () -> x.count(10));
        CHECK.same("the plan stays", 1, () -> x.planned(0, 0));
        CHECK.same("the image stays", 1, () -> x.restore() ? 1 : 0);
        CHECK.same("refused", 1, () -> x.count(7));
    }

    private static TasterTable full() {
        TasterTable x = Check.made("dish 0 9;poison 3;taster plain;clean 4;");
        x.plan(0, 0);
        x.ate(0, 0, 5, false);
        x.begin(1, 0, 500);
        x.on(3);
        x.image();
        return x;
    }

    private static void newTableDropsAll() {
        TasterTable x = full();
        x.fell(0, 8);
        x.ate(0, 0, -1, false);
        x.on(100);
        x.on(100);
        x.on(100);
        Check.table(x, "dish");
        CHECK.same("a new table", 0, () -> Check.table(x, "dish 2 7;poison 3;taster plain;"));
        CHECK.same("no fault now", -1, x::fault);
        CHECK.same("clean is told anew", 1, () -> x.count(3));
        CHECK.same("events are gone", 0, () -> x.count(4));
        CHECK.same("now", 0, () -> x.count(5));
        CHECK.same("he didn't fall", -1, () -> x.taster(0, 2));
        CHECK.same("days are gone", 0, () -> x.count(10));
        CHECK.same("the court is gone", Check.NO_SUCH, () -> x.had(0, 0));
        CHECK.same("the plan is gone", Check.NO_SUCH, () -> x.planned(0, 0));
        CHECK.same("the image is gone", 0, () -> x.restore() ? 1 : 0);
        CHECK.same("status 0 stays", 1, () -> x.count(7));
        CHECK.same("status 1 stays", 1, () -> x.count(8));
        CHECK.same("status 2 stays", 1, () -> x.count(9));
        CHECK.same("another plan", 3, () -> x.plan(0, 1));
        CHECK.same("its tick", 4, () -> x.planned(0, 1));
        CHECK.same("what he had is told anew", 0, () -> Check.table(x, "poison 3;taster plain;had 0 0 5;"));
        CHECK.same("so often", 5, () -> x.taster(0, 10));
        Check.table(x, "poison 3;taster plain;");
        CHECK.same("not so often", 0, () -> x.taster(0, 10));
    }

    private static void illegalLengths() {
        TasterTable x = new TasterTable();
        CHECK.same("a fault", 1, () -> Check.table(x, "dish;"));
        Check.feed(x, "clean 3;");
        CHECK.same("too many", Check.ILLEGAL, () -> x.table(21));
        CHECK.same("below 0", Check.ILLEGAL, () -> x.table(-1));
        CHECK.same("least", Check.ILLEGAL, () -> x.table(Integer.MIN_VALUE));
        CHECK.same("greatest", Check.ILLEGAL, () -> x.table(Integer.MAX_VALUE));
        CHECK.same("the tape stays", 20, () -> x.count(6));
        CHECK.same("the fault's place stays", 4, x::fault);
        CHECK.same("status stays", 1, () -> x.count(7));
        CHECK.same("the tape is read", 0, () -> x.table(20));
        CHECK.same("clean", 3, () -> x.count(3));
    }

    private static void shows() {
        TasterTable x = Check.made("poison 5;poison 40 wine;poison 1 hardens 2;poison 8 hardens 9;"
                + "taster plain;taster slow;taster drunk;taster dog;taster liar;had 0 2 2;had 1 2 1;had 4 3 99;had 2 0 99;");
        int[][] dry = {{5, -1, -1, 8}, {10, -1, 2, 16}, {9, 44, 5, 12}, {3, -1, 1, 4}, {5, -1, 1, -1}};
        int[][] wet = {{5, 40, -1, 8}, {10, 80, 2, 16}, {9, 44, 5, 12}, {3, -1, 1, 4}, {5, 40, 1, -1}};
        for (int taster = 0; taster < 5; taster++) {
            for (int poison = 0; poison < 4; poison++) {
                int t = taster;
                int p = poison;
                CHECK.same("shows(" + t + ", " + p + ", false)", dry[t][p], () -> x.shows(t, p, false));
                CHECK.same("shows(" + t + ", " + p + ", true)", wet[t][p], () -> x.shows(t, p, true));
            }
        }
        CHECK.same("no such taster", Check.NO_SUCH, () -> x.shows(5, 0, true));
        CHECK.same("taster -1", Check.NO_SUCH, () -> x.shows(-1, 0, true));
        CHECK.same("no such poison", Check.NO_SUCH, () -> x.shows(0, 4, true));
        CHECK.same("poison -1", Check.NO_SUCH, () -> x.shows(0, -1, true));
    }
}
