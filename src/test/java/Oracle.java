import java.util.ArrayList;
import java.util.HashSet;
import java.util.List;
import java.util.Set;
import java.util.TreeMap;

/** The document told a second time, as plainly as can be: everything is tried out. */
final class Oracle {
    private static final List<String> KINDS = List.of("plain", "slow", "drunk", "dog", "liar");

    record Event(int taster, int dish, int tick, boolean wine) { }

    final List<int[]> dishes = new ArrayList<>();
    final List<int[]> poisons = new ArrayList<>();
    final List<int[]> tasters = new ArrayList<>();
    final int[][] had = new int[5][5];
    int clean = 1;
    int fault;
    int place = -1;
    final List<Event> events = new ArrayList<>();

    // ---- the text ----

    private static final class Stop extends RuntimeException {
        private static final long serialVersionUID = 1;
        final int fault;
        final int place;

        Stop(int fault, int place) {
            this.fault = fault;
            this.place = place;
        }
    }

    private record Token(String text, int place) {
        boolean isNumber() {
            return text.matches("[0-9]+");
        }
    }

    private final List<Token> tokens = new ArrayList<>();
    private int read;

    Oracle(String text) {
        java.util.regex.Matcher matcher = java.util.regex.Pattern
                .compile("[a-z]+|[0-9]+|[^ \n]", java.util.regex.Pattern.DOTALL).matcher(text);
        while (matcher.find()) {
            tokens.add(new Token(matcher.group(), matcher.start()));
        }
        tokens.add(new Token("", text.length()));
        try {
            boolean cleaned = false;
            Set<String> told = new HashSet<>();
            while (read < tokens.size() - 1) {
                Token first = tokens.get(read++);
                switch (first.text) {
                    case "dish" -> readDish(first);
                    case "poison" -> readPoison(first);
                    case "taster" -> readTaster(first);
                    case "had" -> readHad(told);
                    case "clean" -> {
                        if (cleaned) {
                            throw new Stop(5, first.place);
                        }
                        cleaned = true;
                        clean = number(0, 9999);
                    }
                    default -> throw new Stop(1, first.place);
                }
                if (!option(";")) {
                    throw new Stop(1, tokens.get(read).place);
                }
            }
        } catch (Stop stop) {
            fault = stop.fault;
            place = stop.place;
        }
    }

    private void readDish(Token first) {
        if (dishes.size() == 6) {
            throw new Stop(2, first.place);
        }
        int ready = number(0, 95);
        int served = number(ready + 1, 95);
        dishes.add(new int[] {ready, served, option("weight") ? number(0, 99) : 1});
    }

    private void readPoison(Token first) {
        if (poisons.size() == 5) {
            throw new Stop(2, first.place);
        }
        int delay = number(1, 40);
        int wine = option("wine") ? 1 : 0;
        int hardens = option("hardens") ? number(0, 9) : 0;
        poisons.add(new int[] {delay, wine, hardens, option("weight") ? number(0, 99) : 1});
    }

    private void readTaster(Token first) {
        if (tasters.size() == 5) {
            throw new Stop(2, first.place);
        }
        Token kind = tokens.get(read);
        if (!KINDS.contains(kind.text)) {
            throw new Stop(1, kind.place);
        }
        read++;
        tasters.add(new int[] {KINDS.indexOf(kind.text), option("cap") ? number(0, 6) : 6});
    }

    private void readHad(Set<String> told) {
        int taster = number(0, 9999);
        if (taster >= tasters.size()) {
            throw new Stop(3, tokens.get(read - 1).place);
        }
        int poison = number(0, 9999);
        if (poison >= poisons.size()) {
            throw new Stop(3, tokens.get(read - 1).place);
        }
        if (!told.add(taster + "/" + poison)) {
            throw new Stop(4, tokens.get(read - 1).place);
        }
        had[taster][poison] = number(0, 99);
    }

    private boolean option(String word) {
        if (tokens.get(read).text.equals(word)) {
            read++;
            return true;
        }
        return false;
    }

    private int number(int low, int high) {
        Token token = tokens.get(read);
        if (!token.isNumber()) {
            throw new Stop(1, token.place);
        }
        if (token.text.length() > 4 || Integer.parseInt(token.text) < low || Integer.parseInt(token.text) > high) {
            throw new Stop(2, token.place);
        }
        read++;
        return Integer.parseInt(token.text);
    }

    // ---- plans ----

    int shows(int taster, int poison, boolean wine, int times) {
        int[] p = poisons.get(poison);
        String kind = KINDS.get(tasters.get(taster)[0]);
        boolean hasWine = kind.equals("drunk") || wine && !kind.equals("dog");
        if (p[2] != 0 && times >= p[2] || p[1] == 1 && !hasWine) {
            return -1;
        }
        return switch (kind) {
            case "slow" -> p[0] + p[0];
            case "drunk" -> p[0] + 4;
            case "dog" -> p[0] - p[0] / 2;
            default -> p[0];
        };
    }

    int shows(int taster, int poison, boolean wine) {
        return shows(taster, poison, wine, had[taster][poison]);
    }

    /** The latest tick at which a set may taste a dish; -1: they aren't enough. */
    private int latest(int dish, int set, int lies, int poisonAlone) {
        for (int tick = dishes.get(dish)[1]; tick >= dishes.get(dish)[0]; tick--) {
            boolean enough = true;
            for (int poison = 0; poison < poisons.size(); poison++) {
                int telling = 0;
                for (int taster = 0; taster < tasters.size(); taster++) {
                    int ticks = shows(taster, poison, true);
                    if ((set & 1 << taster) != 0 && ticks >= 0 && tick + ticks <= dishes.get(dish)[1]) {
                        telling++;
                    }
                }
                enough &= telling > lies || poisonAlone >= 0 && poisonAlone != poison;
            }
            if (enough) {
                return tick;
            }
        }
        return -1;
    }

    private int[] bestRow;
    private int bestTasters;
    private int bestCold;

    /** Tasters, cold, then sets, then ticks by dishes; null: there is no plan. */
    int[] plan(int lies, int without) {
        bestRow = null;
        int all = 0;
        for (int taster = 0; taster < tasters.size(); taster++) {
            if (taster != without && tasters.get(taster)[0] != 4) {
                all |= 1 << taster;
            }
        }
        int[][] ticks = new int[dishes.size()][32];
        for (int dish = 0; dish < dishes.size(); dish++) {
            for (int set = 0; set < 32; set++) {
                ticks[dish][set] = (set & ~all) == 0 ? latest(dish, set, lies, -1) : -1;
            }
        }
        tryRows(new int[dishes.size()], 0, 0, 0, ticks);
        if (bestRow == null) {
            return null;
        }
        int[] told = new int[2 + 2 * dishes.size()];
        told[0] = bestTasters;
        told[1] = bestCold;
        for (int dish = 0; dish < dishes.size(); dish++) {
            told[2 + dish] = bestRow[dish];
            told[2 + dishes.size() + dish] = ticks[dish][bestRow[dish]];
        }
        return told;
    }

    /** All rows in their order, so that only a better one takes the place of an earlier one. */
    private void tryRows(int[] row, int dish, int company, int cold, int[][] ticks) {
        int tasting = Integer.bitCount(company);
        if (bestRow != null && (tasting > bestTasters || tasting == bestTasters && cold >= bestCold)) {
            return;
        }
        if (dish == row.length) {
            bestRow = row.clone();
            bestTasters = tasting;
            bestCold = cold;
            return;
        }
        for (int set = 0; set < 32; set++) {
            row[dish] = set;
            if (ticks[dish][set] >= 0 && capsHold(row, dish)) {
                tryRows(row, dish + 1, company | set, cold + dishes.get(dish)[1] - ticks[dish][set], ticks);
            }
        }
    }

    private boolean capsHold(int[] row, int last) {
        for (int taster = 0; taster < tasters.size(); taster++) {
            int tasted = 0;
            for (int dish = 0; dish <= last; dish++) {
                tasted += row[dish] >> taster & 1;
            }
            if (tasted > tasters.get(taster)[1]) {
                return false;
            }
        }
        return true;
    }

    int bars(int lies) {
        if (plan(lies, -1) != null) {
            return -1;
        }
        int all = 0;
        for (int taster = 0; taster < tasters.size(); taster++) {
            all |= tasters.get(taster)[0] == 4 ? 0 : 1 << taster;
        }
        for (int dish = 0; dish < dishes.size(); dish++) {
            for (int poison = 0; poison < poisons.size(); poison++) {
                if (latest(dish, all, lies, poison) < 0) {
                    return 10 * dish + poison;
                }
            }
        }
        return 99;
    }

    int worth(int taster, int lies) {
        int[] with = plan(lies, -1);
        int[] without = plan(lies, taster);
        if (with == null) {
            return 0;
        }
        return without == null ? -1 : 1000 * (without[0] - with[0]) + without[1] - with[1];
    }

    // ---- events ----

    int now() {
        return events.stream().mapToInt(Event::tick).max().orElse(0);
    }

    int fellAt(int taster) {
        return events.stream().filter(e -> e.dish < 0 && e.taster == taster).mapToInt(Event::tick).findFirst().orElse(-1);
    }

    /** When a taster falls, if all of these cases are so; -1: he doesn't. */
    private int falls(int taster, List<Integer> cases) {
        int least = -1;
        for (int number : cases) {
            for (Event e : events) {
                if (number > 0 && e.taster == taster && e.dish == (number - 1) / poisons.size()) {
                    int ticks = shows(taster, (number - 1) % poisons.size(), e.wine);
                    if (ticks >= 0 && (least < 0 || e.tick + ticks < least)) {
                        least = e.tick + ticks;
                    }
                }
            }
        }
        return least;
    }

    private boolean fit(List<Integer> cases, int tick) {
        for (int taster = 0; taster < tasters.size(); taster++) {
            int falls = falls(taster, cases);
            int fell = fellAt(taster);
            boolean fits = fell >= 0 ? falls == fell : falls < 0 || falls > tick;
            if (tasters.get(taster)[0] != 4 && !fits) {
                return false;
            }
        }
        return true;
    }

    List<Integer> cases(int tick) {
        List<Integer> found = new ArrayList<>();
        for (int number = 0; number <= dishes.size() * poisons.size(); number++) {
            if (fit(List.of(number), tick)) {
                found.add(number);
            }
        }
        return found;
    }

    long[] odds(int dish) {
        long with = 0;
        long all = 0;
        for (int number : cases(now())) {
            int of = number == 0 ? -1 : (number - 1) / poisons.size();
            long weight = number == 0 ? clean : dishes.get(of)[2] * poisons.get((number - 1) % poisons.size())[3];
            all += weight;
            with += of == dish ? weight : 0;
        }
        if (all == 0) {
            return new long[] {0, 1};
        }
        long common = java.math.BigInteger.valueOf(with).gcd(java.math.BigInteger.valueOf(all)).longValue();
        return new long[] {with / common, all / common};
    }

    int pairs() {
        int found = 0;
        for (int one = 1; one <= dishes.size() * poisons.size(); one++) {
            for (int other = 1; other < one; other++) {
                found += fit(List.of(one, other), now()) ? 1 : 0;
            }
        }
        return found;
    }

    int[] next() {
        int[] best = {-1, -1};
        List<Integer> fitting = cases(now());
        for (int taster = 0; taster < tasters.size(); taster++) {
            for (int dish = 0; dish < dishes.size(); dish++) {
                for (int wine = 0; wine < 2; wine++) {
                    if (tasters.get(taster)[0] == 4 || fellAt(taster) >= 0) {
                        continue;
                    }
                    TreeMap<Integer, Integer> groups = new TreeMap<>();
                    for (int number : fitting) {
                        boolean his = number > 0 && (number - 1) / poisons.size() == dish;
                        int ticks = his ? shows(taster, (number - 1) % poisons.size(), wine == 1) : -1;
                        groups.merge(ticks, 1, Integer::sum);
                    }
                    int greatest = groups.values().stream().mapToInt(Integer::intValue).max().orElse(0);
                    if (best[0] < 0 || greatest < best[1]) {
                        best = new int[] {20 * taster + 2 * dish + wine, greatest};
                    }
                }
            }
        }
        return best;
    }

    // ---- days ----

    private int seed;

    private int draw(int n) {
        seed = seed * 1103515245 + 12345;
        return (seed >> 16 & 32767) % n;
    }

    private int pick(List<int[]> things, int weightAt) {
        List<Integer> urn = new ArrayList<>();
        for (int i = 0; i < things.size(); i++) {
            for (int k = 0; k < things.get(i)[weightAt]; k++) {
                urn.add(i);
            }
        }
        return urn.isEmpty() ? -1 : urn.get(draw(urn.size()));
    }

    /** Rows of dish, poison, who fell, failed; hadNow is changed as days go. */
    List<int[]> days(int newSeed, int lies, int chance, int days, int[][] hadNow) {
        int[] plan = plan(lies, -1);
        List<int[]> told = new ArrayList<>();
        seed = newSeed;
        boolean some = dishes.stream().anyMatch(d -> d[2] > 0) && poisons.stream().anyMatch(p -> p[3] > 0);
        for (int day = 0; day < days; day++) {
            if (draw(1000) >= chance || !some) {
                told.add(new int[] {-1, -1, 0, 0});
                continue;
            }
            int dish = pick(dishes, 2);
            int poison = pick(poisons, 3);
            int fell = 0;
            for (int taster = 0; taster < tasters.size(); taster++) {
                if ((plan[2 + dish] & 1 << taster) != 0) {
                    int ticks = shows(taster, poison, true, hadNow[taster][poison]);
                    if (ticks >= 0 && plan[2 + dishes.size() + dish] + ticks <= dishes.get(dish)[1]) {
                        fell |= 1 << taster;
                    }
                    hadNow[taster][poison] = Math.min(99, hadNow[taster][poison] + 1);
                }
            }
            told.add(new int[] {dish, poison, fell, Integer.bitCount(fell) <= lies ? 1 : 0});
        }
        return told;
    }
}
