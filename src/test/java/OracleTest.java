import java.util.List;
import java.util.Random;

/** All promises, on tables, texts and events by fixed seeds, against the oracle. */
public final class OracleTest {
    private static final Check CHECK = new Check("OracleTest");
    private static final String[] KINDS = {"plain", "slow", "drunk", "dog", "liar"};
    private static final String[] SCRAPS = {"dish", "poison", "taster", "had", "clean", "weight", "wine", "hardens", "cap",
        "plain", "slow", "drunk", "dog", "liar", ";", " ", "\n", "0", "1", "4", "5", "6", "7", "9", "10", "40", "41", "95",
        "96", "99", "100", "9999", "10000", "00001", "x", "dis", "dishes", ",", "A", "\t", "dish 1 2;", "poison 3;",
        "taster dog;", "had 0 0 1;", "clean 3;", "dish 0 95 weight 0;", "taster plain cap 2;"};

    public static void main(String[] args) {
        int rounds = args.length > 0 ? Integer.parseInt(args[0]) : 1;
        for (int round = 0; round < 2000 * rounds; round++) {
            texts(new Random(round));
        }
        for (int round = 0; round < 600 * rounds; round++) {
            tables(new Random(77_000_000L + round));
        }
        for (int round = 0; round < 60 * rounds; round++) {
            greatTables(new Random(55_000_000L + round));
        }
        CHECK.finish();
    }

    // ---- texts that are often wrong ----

    private static void texts(Random random) {
        StringBuilder text = new StringBuilder(random.nextBoolean() ? tableText(random, 6) : "");
        int scraps = random.nextInt(4) + (text.length() == 0 ? 1 : 0);
        for (int i = 0; i < scraps; i++) {
            int at = random.nextInt(text.length() + 1);
            String scrap = SCRAPS[random.nextInt(SCRAPS.length)];
            int end = Math.min(text.length(), at + (random.nextBoolean() ? 0 : scrap.length()));
            text.replace(at, end, scrap);
        }
        if (random.nextInt(5) == 0) {
            text.setLength(random.nextInt(text.length() + 1));
        }
        String told = text.substring(0, Math.min(700, text.length()));
        Oracle oracle = new Oracle(told);
        TasterTable x = Check.made("clean 77;");
        CHECK.same("'" + told + "'", oracle.fault, () -> Check.table(x, told));
        CHECK.same("'" + told + "' fault()", oracle.place, x::fault);
        CHECK.same("'" + told + "' status", oracle.fault == 0 ? 0 : 1, () -> x.count(7));
        if (oracle.fault == 0) {
            sameTable(x, oracle);
        } else {
            CHECK.same("'" + told + "' changes nothing", 77, () -> x.count(3));
        }
    }

    private static void sameTable(TasterTable x, Oracle oracle) {
        CHECK.same("dishes", oracle.dishes.size(), () -> x.count(0));
        CHECK.same("poisons", oracle.poisons.size(), () -> x.count(1));
        CHECK.same("tasters", oracle.tasters.size(), () -> x.count(2));
        CHECK.same("clean", oracle.clean, () -> x.count(3));
        each(oracle.dishes, 3, (d, what) -> x.dish(d, what), "dish");
        each(oracle.poisons, 4, (p, what) -> x.poison(p, what), "poison");
        each(oracle.tasters, 2, (t, what) -> x.taster(t, what), "taster");
        for (int taster = 0; taster < oracle.tasters.size(); taster++) {
            for (int poison = 0; poison < oracle.poisons.size(); poison++) {
                int t = taster;
                int p = poison;
                CHECK.same("had", oracle.had[t][p], () -> x.taster(t, 10 + p));
                CHECK.same("shows", oracle.shows(t, p, false), () -> x.shows(t, p, false));
                CHECK.same("shows with wine", oracle.shows(t, p, true), () -> x.shows(t, p, true));
            }
        }
    }

    private interface Thing {
        int of(int number, int what);
    }

    private static void each(List<int[]> due, int whats, Thing thing, String name) {
        for (int number = 0; number < due.size(); number++) {
            for (int what = 0; what < whats; what++) {
                int n = number;
                int w = what;
                CHECK.same(name + "(" + n + ", " + w + ")", due.get(n)[w], () -> thing.of(n, w));
            }
        }
    }

    // ---- tables, with all that is asked of them ----

    private static String tableText(Random random, int most) {
        StringBuilder text = new StringBuilder();
        int dishes = random.nextInt(Math.min(6, most) + 1);
        int poisons = random.nextInt(Math.min(5, most) + 1);
        int tasters = random.nextInt(6);
        int longest = 1 + random.nextInt(random.nextBoolean() ? 40 : 12);
        boolean tight = random.nextBoolean();
        for (int i = 0; i < dishes; i++) {
            int ready = random.nextInt(random.nextBoolean() ? 20 : 95);
            text.append("dish ").append(ready).append(' ').append(ready + 1 + random.nextInt(95 - ready));
            option(text, random, "weight", random.nextInt(4) == 0 ? 100 : 5);
            text.append(';');
        }
        for (int i = 0; i < poisons; i++) {
            text.append("poison ").append(1 + random.nextInt(longest)).append(random.nextInt(4) == 0 ? " wine" : "");
            option(text, random, "hardens", random.nextInt(3) == 0 ? 10 : 3);
            option(text, random, "weight", random.nextInt(4) == 0 ? 100 : 5);
            text.append(';');
        }
        for (int i = 0; i < tasters; i++) {
            text.append("taster ").append(KINDS[random.nextInt(random.nextInt(3) == 0 ? 5 : 4)]);
            if (tight || random.nextBoolean()) {
                text.append(" cap ").append(random.nextInt(7));
            }
            text.append(";\n");
        }
        for (int t = 0; t < tasters; t++) {
            for (int p = 0; p < poisons; p++) {
                if (random.nextInt(8) == 0) {
                    text.append("had ").append(t).append(' ').append(p).append(' ')
                            .append(random.nextInt(random.nextInt(4) == 0 ? 100 : 4)).append(';');
                }
            }
        }
        return text.append(random.nextBoolean() ? "clean " + random.nextInt(30) + ";" : "").toString();
    }

    private static void option(StringBuilder text, Random random, String word, int below) {
        if (random.nextBoolean()) {
            text.append(' ').append(word).append(' ').append(random.nextInt(below));
        }
    }

    private static void tables(Random random) {
        String text = tableText(random, random.nextBoolean() ? 3 : 6);
        Oracle oracle = new Oracle(text);
        int rows = oracle.dishes.size() * (int) oracle.tasters.stream().filter(t -> t[0] != 4).count();
        if (rows > 24 || text.length() > 700) {
            return;
        }
        TasterTable x = Check.made(text);
        plans(x, oracle, text);
        for (int i = 0; i < 25; i++) {
            event(x, oracle, random);
            if (i % 4 == 0) {
                fitting(x, oracle, random, text);
            }
        }
        court(x, oracle, random, text);
    }

    /** Many dishes, and caps that bind: only their plans, for the oracle takes long. */
    private static void greatTables(Random random) {
        StringBuilder text = new StringBuilder();
        int poisons = 1 + random.nextInt(4);
        for (int dish = 5 + random.nextInt(2); dish > 0; dish--) {
            int ready = random.nextInt(10);
            text.append("dish ").append(ready).append(' ').append(ready + 5 + random.nextInt(60)).append(';');
        }
        for (int poison = 0; poison < poisons; poison++) {
            text.append("poison ").append(1 + random.nextInt(20)).append(random.nextInt(5) == 0 ? " wine" : "")
                    .append(" hardens ").append(random.nextInt(2)).append(';');
        }
        for (int taster = 0; taster < 5; taster++) {
            text.append("taster ").append(KINDS[random.nextInt(4)]).append(" cap ").append(1 + random.nextInt(5)).append(';');
        }
        for (int taster = 0; taster < 5; taster++) {
            for (int poison = 0; poison < poisons; poison++) {
                text.append(random.nextInt(5) == 0 ? "had " + taster + " " + poison + " 1;" : "");
            }
        }
        String told = text.toString();
        plans(Check.made(told), new Oracle(told), told);
    }

    private static void plans(TasterTable x, Oracle oracle, String text) {
        for (int lies = 0; lies <= 2; lies++) {
            int against = lies;
            int[] plan = oracle.plan(lies, -1);
            CHECK.same(text + " plan(" + lies + ", 0)", plan == null ? -1 : plan[0], () -> x.plan(against, 0));
            CHECK.same(text + " plan(" + lies + ", 1)", plan == null ? -1 : plan[1], () -> x.plan(against, 1));
            for (int dish = 0; plan != null && dish < oracle.dishes.size(); dish++) {
                int d = dish;
                CHECK.same(text + " set of " + d, plan[2 + d], () -> x.planned(d, 0));
                CHECK.same(text + " tick of " + d, plan[2 + oracle.dishes.size() + d], () -> x.planned(d, 1));
            }
            CHECK.same(text + " bars(" + lies + ")", oracle.bars(lies), () -> x.bars(against));
            for (int taster = 0; taster < oracle.tasters.size(); taster++) {
                int t = taster;
                CHECK.same(text + " worth(" + t + ", " + lies + ")", oracle.worth(t, lies), () -> x.worth(t, against));
            }
        }
    }

    /** Events that fit some case, most of the time, so that there is something to find. */
    private static void event(TasterTable x, Oracle oracle, Random random) {
        int dishes = oracle.dishes.size();
        int tasters = oracle.tasters.size();
        if (dishes == 0 || tasters == 0) {
            return;
        }
        int taster = random.nextInt(tasters);
        int tick = random.nextInt(3) == 0 ? random.nextInt(60) : random.nextInt(12);
        int size = oracle.events.size();
        switch (random.nextInt(6)) {
            case 0 -> {
                CHECK.same("undo", size - 1, x::undo);
                if (size > 0) {
                    oracle.events.remove(size - 1);
                }
            }
            case 1 -> {
                int fall = size == 0 ? tick : fallOfLast(oracle, random);
                int who = size == 0 ? taster : oracle.events.get(size - 1).taster();
                boolean first = oracle.fellAt(who) < 0;
                CHECK.same("fell", first ? size + 1 : -1, () -> x.fell(who, fall));
                if (first) {
                    oracle.events.add(new Oracle.Event(who, -1, fall, false));
                }
            }
            default -> {
                int dish = random.nextInt(dishes);
                boolean wine = random.nextBoolean();
                CHECK.same("ate", size + 1, () -> x.ate(taster, dish, tick, wine));
                oracle.events.add(new Oracle.Event(taster, dish, tick, wine));
            }
        }
    }

    private static int fallOfLast(Oracle oracle, Random random) {
        Oracle.Event last = oracle.events.get(oracle.events.size() - 1);
        if (oracle.poisons.isEmpty()) {
            return last.tick();
        }
        int ticks = oracle.shows(last.taster(), random.nextInt(oracle.poisons.size()), last.wine());
        return Math.min(999, last.tick() + Math.max(0, ticks));
    }

    private static void fitting(TasterTable x, Oracle oracle, Random random, String text) {
        String at = text + " " + oracle.events + " ";
        int now = oracle.now();
        CHECK.same(at + "now", now, () -> x.count(5));
        List<Integer> cases = oracle.cases(now);
        CHECK.same(at + "cases", cases.size(), () -> x.cases(-1));
        for (int i = 0; i <= cases.size(); i++) {
            int asked = i;
            CHECK.same(at + "cases(" + i + ")", i < cases.size() ? cases.get(i) : Check.NO_SUCH, () -> x.cases(asked));
        }
        for (int dish = -1; dish < oracle.dishes.size(); dish++) {
            int d = dish;
            long[] odds = oracle.odds(dish);
            CHECK.same(at + "odds(" + d + ", 0)", odds[0], () -> x.odds(d, 0));
            CHECK.same(at + "odds(" + d + ", 1)", odds[1], () -> x.odds(d, 1));
        }
        CHECK.same(at + "pairs", oracle.pairs(), x::pairs);
        int[] next = oracle.next();
        CHECK.same(at + "next(0)", next[0], () -> x.next(0));
        CHECK.same(at + "next(1)", next[1], () -> x.next(1));
        int later = now + random.nextInt(40);
        CHECK.same(at + "waiting(" + later + ")", oracle.cases(later).size(), () -> x.waiting(later));
        for (int taster = 0; taster < oracle.tasters.size(); taster++) {
            int t = taster;
            CHECK.same(at + "fell", oracle.fellAt(t), () -> x.taster(t, 2));
        }
    }

    private static void court(TasterTable x, Oracle oracle, Random random, String text) {
        int seed = random.nextInt();
        int lies = random.nextInt(3);
        int chance = random.nextInt(1001);
        boolean can = oracle.plan(lies, -1) != null;
        CHECK.same(text + " begin", can ? 1 : 0, () -> x.begin(seed, lies, chance) ? 1 : 0);
        if (!can) {
            return;
        }
        int[][] had = new int[5][];
        for (int taster = 0; taster < 5; taster++) {
            had[taster] = oracle.had[taster].clone();
        }
        List<int[]> days = oracle.days(seed, lies, chance, 40, had);
        CHECK.same(text + " on(25)", 25, () -> x.on(25));
        x.image();
        x.on(30);
        x.restore();
        CHECK.same(text + " on(15)", 40, () -> x.on(15));
        each(days, 4, (day, what) -> x.day(day, what), text + " seed " + seed + " day");
        for (int taster = 0; taster < oracle.tasters.size(); taster++) {
            for (int poison = 0; poison < oracle.poisons.size(); poison++) {
                int t = taster;
                int p = poison;
                CHECK.same(text + " had", had[t][p], () -> x.had(t, p));
            }
        }
    }
}
