/** Promises 22 to 28: the cook's trial, days of a court, the image. */
public final class CourtTest {
    private static final Check CHECK = new Check("CourtTest");
    private static final String TABLE = "dish 0 30 weight 4;dish 5 40 weight 0;dish 8 33 weight 9;"
            + "poison 6 weight 3;poison 9 hardens 3 weight 2;taster plain;taster dog;taster slow;had 0 1 1;";

    public static void main(String[] args) {
        trial();
        begin();
        on();
        seeds();
        failedDays();
        hadAtMost99();
        noWeights();
        image();
        CHECK.finish();
    }

    private static void trial() {
        TasterTable x = new TasterTable();
        for (int n = 1; n <= 12; n++) {
            for (int his = 0; his <= n; his++) {
                for (int ill = 0; ill <= n; ill++) {
                    for (int both = 0; both <= ill; both++) {
                        countedTrial(new TasterTable(), n, his, ill, both);
                    }
                }
            }
        }
        CHECK.same("1 by all of 30", 1, () -> x.trial(30, 15, 15, 15, 0));
        CHECK.same("all of 30", 155117520, () -> x.trial(30, 15, 15, 15, 1));
        CHECK.same("one less, upper", 155117519, () -> x.trial(30, 15, 15, 1, 0));
        CHECK.same("one less, lower", 155117520, () -> x.trial(30, 15, 15, 1, 1));
        CHECK.same("what 2", Check.NO_SUCH, () -> x.trial(5, 2, 2, 1, 2));
        CHECK.same("what is ahead", Check.NO_SUCH, () -> x.trial(0, 2, 2, 1, -1));
        int[][] wrong = {{0, 0, 0, 0}, {31, 1, 1, 1}, {-1, 0, 0, 0}, {5, -1, 2, 1}, {5, 6, 2, 1},
            {5, 2, -1, 0}, {5, 2, 6, 1}, {5, 2, 2, -1}, {5, 2, 2, 3}, {Integer.MAX_VALUE, 1, 1, 1}};
        for (int[] w : wrong) {
            CHECK.same("trial of " + w[0] + " " + w[1] + " " + w[2] + " " + w[3], Check.ILLEGAL,
                    () -> x.trial(w[0], w[1], w[2], w[3], 1));
        }
    }

    /** By going through all ways to choose the days: his days are the first ones. */
    private static void countedTrial(TasterTable x, int n, int his, int ill, int both) {
        int all = 0;
        int seldom = 0;
        for (int chosen = 0; chosen < 1 << n; chosen++) {
            if (Integer.bitCount(chosen) == ill) {
                all++;
                if (Integer.bitCount(chosen & ((1 << his) - 1)) >= both) {
                    seldom++;
                }
            }
        }
        int common = 1;
        for (int d = 2; d <= all; d++) {
            if (all % d == 0 && seldom % d == 0) {
                common = d;
            }
        }
        String call = "trial(" + n + ", " + his + ", " + ill + ", " + both + ")";
        CHECK.same(call + " upper", seldom / common, () -> x.trial(n, his, ill, both, 0));
        int lower = all / common;
        CHECK.same(call + " lower", lower, () -> x.trial(n, his, ill, both, 1));
    }

    private static void begin() {
        TasterTable x = Check.made(TABLE);
        CHECK.same("had ahead of days", Check.NO_SUCH, () -> x.had(0, 0));
        CHECK.same("lies 3", Check.ILLEGAL, () -> yes(x.begin(1, 3, 5)));
        CHECK.same("lies -1", Check.ILLEGAL, () -> yes(x.begin(1, -1, 5)));
        CHECK.same("chance -1", Check.ILLEGAL, () -> yes(x.begin(1, 0, -1)));
        CHECK.same("chance 1001", Check.ILLEGAL, () -> yes(x.begin(1, 0, 1001)));
        CHECK.same("begins", 1, () -> yes(x.begin(Integer.MIN_VALUE, 2, 1000)));
        CHECK.same("no day yet", 0, () -> x.count(10));
        CHECK.same("had at first", 1, () -> x.had(0, 1));
        CHECK.same("no such taster", Check.NO_SUCH, () -> x.had(3, 1));
        CHECK.same("no such poison", Check.NO_SUCH, () -> x.had(0, 2));
        CHECK.same("taster -1", Check.NO_SUCH, () -> x.had(-1, 0));
        CHECK.same("poison -1", Check.NO_SUCH, () -> x.had(0, -1));
        x.on(4);
        CHECK.same("days anew", 1, () -> yes(x.begin(7, 0, 0)));
        CHECK.same("none yet", 0, () -> x.count(10));
        CHECK.same("had as told", 1, () -> x.had(0, 1));
        TasterTable y = Check.made("dish 0 9;poison 4;taster plain;");
        y.begin(1, 0, 1000);
        y.on(2);
        CHECK.same("no plan against a lie", 0, () -> yes(y.begin(1, 1, 5)));
        CHECK.same("refused", 1, () -> y.count(9));
        CHECK.same("nothing changes", 2, () -> y.count(10));
        CHECK.same("it goes on", 3, () -> y.on(1));
    }

    private static void on() {
        TasterTable x = Check.made(TABLE);
        CHECK.same("101 days", Check.ILLEGAL, () -> x.on(101));
        CHECK.same("-1 days", Check.ILLEGAL, () -> x.on(-1));
        CHECK.same("none begun", -1, () -> x.on(0));
        CHECK.same("refused", 1, () -> x.count(9));
        x.begin(3, 0, 400);
        CHECK.same("0 days", 0, () -> x.on(0));
        CHECK.same("100", 100, () -> x.on(100));
        CHECK.same("200", 200, () -> x.on(100));
        CHECK.same("299", 299, () -> x.on(99));
        CHECK.same("301", -1, () -> x.on(2));
        CHECK.same("300", 300, () -> x.on(1));
        CHECK.same("0 more", 300, () -> x.on(0));
        CHECK.same("1 more", -1, () -> x.on(1));
        CHECK.same("refused", 3, () -> x.count(9));
        CHECK.same("illegal is ahead", Check.ILLEGAL, () -> x.on(101));
        CHECK.same("day 300", Check.NO_SUCH, () -> x.day(300, 0));
        CHECK.same("day -1", Check.NO_SUCH, () -> x.day(-1, 0));
        CHECK.same("what 4", Check.NO_SUCH, () -> x.day(299, 4));
        CHECK.same("what -1", Check.NO_SUCH, () -> x.day(299, -1));
    }

    /** Days told anew, draw by draw, in a table whose plan is easy: the dog tastes all. */
    private static void seeds() {
        for (int seed : new int[] {0, 1, -1, 77, 123456789, Integer.MIN_VALUE, Integer.MAX_VALUE}) {
            for (int chance : new int[] {0, 1, 500, 999, 1000}) {
                seeded(seed, chance);
            }
        }
    }

    private static void seeded(int seed, int chance) {
        TasterTable x = Check.made(TABLE);
        x.plan(0, 0);
        CHECK.same("the dog tastes all", 2, () -> x.planned(2, 0));
        x.begin(seed, 0, chance);
        x.on(60);
        long state = seed;
        int had = 0;
        for (int day = 0; day < 60; day++) {
            int dish = -1;
            int poison = -1;
            state = step(state);
            if ((state >> 16 & 32767) % 1000 < chance) {
                state = step(state);
                dish = (state >> 16 & 32767) % 13 < 4 ? 0 : 2;
                state = step(state);
                poison = (state >> 16 & 32767) % 5 < 3 ? 0 : 1;
            }
            int fell = dish >= 0 && !(poison == 1 && had >= 3) ? 2 : 0;
            int[] due = {dish, poison, fell, dish >= 0 && fell == 0 ? 1 : 0};
            had += poison == 1 ? 1 : 0;
            for (int what = 0; what < 4; what++) {
                int d = day;
                int w = what;
                CHECK.same("seed " + seed + " chance " + chance + " day(" + d + ", " + w + ")", due[w], () -> x.day(d, w));
            }
        }
        int times = had;
        CHECK.same("had by the dog", times, () -> x.had(1, 1));
        CHECK.same("had by another", 1, () -> x.had(0, 1));
        CHECK.same("in the court alone", 0, () -> x.taster(1, 11));
        CHECK.same("the table shows as before", 5, () -> x.shows(1, 1, false));
    }

    private static long step(long state) {
        return (int) (state * 1103515245L + 12345L);
    }

    private static void failedDays() {
        TasterTable x = Check.made("dish 0 30;poison 6 hardens 2;taster plain;taster plain;taster plain;had 0 0 1;");
        x.begin(9, 1, 1000);
        x.on(3);
        int[] fell = {3, 2, 0};
        int[] failed = {0, 1, 1};
        for (int day = 0; day < 3; day++) {
            int d = day;
            CHECK.same("who fell on " + d, fell[d], () -> x.day(d, 2));
            CHECK.same("failed on " + d, failed[d], () -> x.day(d, 3));
        }
        CHECK.same("had once more", 4, () -> x.had(0, 0));
        CHECK.same("had by the other", 3, () -> x.had(1, 0));
        CHECK.same("not of the set", 0, () -> x.had(2, 0));
    }

    private static void hadAtMost99() {
        TasterTable x = Check.made("dish 0 30;poison 6;taster plain;had 0 0 98;");
        x.begin(9, 0, 1000);
        x.on(1);
        CHECK.same("99", 99, () -> x.had(0, 0));
        x.on(5);
        CHECK.same("99 at most", 99, () -> x.had(0, 0));
        CHECK.same("he falls still", 1, () -> x.day(5, 2));
    }

    private static void noWeights() {
        String[] tables = {"", "dish 0 30;", "dish 0 30;taster plain;", "poison 5;taster plain;",
            "dish 0 30 weight 0;poison 5;taster plain;", "dish 0 30;poison 5 weight 0;taster plain;"};
        for (String table : tables) {
            TasterTable x = Check.made(table);
            x.begin(5, 0, 1000);
            CHECK.same("days of nothing", 20, () -> x.on(20));
            int[] due = {-1, -1, 0, 0};
            for (int what = 0; what < 4; what++) {
                int w = what;
                CHECK.same("'" + table + "' day(19, " + w + ")", due[w], () -> x.day(19, w));
            }
        }
    }

    private static void image() {
        TasterTable x = Check.made(TABLE);
        CHECK.same("no image", 0, () -> yes(x.restore()));
        x.ate(0, 0, 5, true);
        x.fell(0, 9);
        x.image();
        x.begin(5, 0, 1000);
        x.on(3);
        x.undo();
        x.undo();
        x.fell(1, 8);
        CHECK.same("as the image", 1, () -> yes(x.restore()));
        CHECK.same("no court", 0, () -> x.count(10));
        CHECK.same("none begun", Check.NO_SUCH, () -> x.had(0, 0));
        CHECK.same("so none goes on", -1, () -> x.on(1));
        CHECK.same("events", 2, () -> x.count(4));
        CHECK.same("now", 9, () -> x.count(5));
        CHECK.same("fell", 9, () -> x.taster(0, 2));
        CHECK.same("didn't fall", -1, () -> x.taster(1, 2));
        CHECK.same("undone as ever", 1, x::undo);
        CHECK.same("didn't fall then", -1, () -> x.taster(0, 2));
        CHECK.same("status stays", 1, () -> x.count(9));

        x.begin(5, 0, 1000);
        x.on(20);
        x.image();
        int dish = x.on(1) == 21 ? x.day(20, 0) : -7;
        int poison = x.day(20, 1);
        int had = x.had(1, 1);
        x.begin(6, 1, 3);
        x.on(50);
        x.plan(1, 0);
        CHECK.same("the later image", 1, () -> yes(x.restore()));
        CHECK.same("its days", 20, () -> x.count(10));
        CHECK.same("not more", Check.NO_SUCH, () -> x.day(20, 0));
        CHECK.same("its seed goes on", 21, () -> x.on(1));
        CHECK.same("the same dish", dish, () -> x.day(20, 0));
        CHECK.same("the same poison", poison, () -> x.day(20, 1));
        CHECK.same("had likewise", had, () -> x.had(1, 1));
        CHECK.same("again", 1, () -> yes(x.restore()));
        CHECK.same("its days again", 20, () -> x.count(10));
        CHECK.same("events of that image", 1, () -> x.count(4));
        CHECK.same("the kept plan is no part of it", 3, () -> x.planned(0, 0));
    }

    private static long yes(boolean answer) {
        return answer ? 1 : 0;
    }
}
