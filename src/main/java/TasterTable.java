import java.util.Arrays;
import java.util.NoSuchElementException;

/** Tasters at one table: what the document promises, by its numbers, is said at each method. */
public final class TasterTable {
    public static final int NONE = -1;

    private static final int MAX_DISHES = 6;
    private static final int MAX_POISONS = 5;
    private static final int MAX_TASTERS = 5;
    private static final int MAX_LIES = 2;
    private static final int MAX_TAPE = 700;
    private static final int FEED_BYTES = 20;
    private static final int MAX_EVENTS = 60;
    private static final int LAST_EVENT_TICK = 999;
    private static final int LAST_WAITING_TICK = 2000;
    private static final int MAX_DAYS = 300;
    private static final int MAX_DAYS_AT_ONCE = 100;
    private static final int MAX_CHANCE = 1000;
    private static final int MAX_TRIAL_DAYS = 30;
    private static final int MAX_HAD = 99;
    private static final int CAPS_BAR = 99;

    private static final int SLOW = 1;
    private static final int DRUNK = 2;
    private static final int DOG = 3;
    private static final int LIAR = 4;

    private Board board;
    /** A text is read into this one, so that a fault leaves the board as it was. */
    private Board draft;
    private final Reader reader;
    private final Planner planner;
    private final Judge judge;
    private final Log log;
    private final Log logImage;
    private final Court court;
    private final Court courtImage;
    private boolean hasImage;
    /** The lies of the plan that is kept; the table being the same, they tell the plan. */
    private int keptLies;
    private int faultPlace;
    private int refusedTexts;
    private int refusedEvents;
    private int refusedDays;

    /** Promise 1. */
    public TasterTable() {
        board = new Board();
        draft = new Board();
        reader = new Reader();
        planner = new Planner();
        judge = new Judge();
        log = new Log();
        logImage = new Log();
        court = new Court();
        courtImage = new Court();
        keptLies = NONE;
        faultPlace = NONE;
    }

    /** Promise 2. */
    public int feed(int a, int b, int c, int d, int e) {
        if (reader.tapeLength + FEED_BYTES > MAX_TAPE) {
            return NONE;
        }
        reader.addBytes(a);
        reader.addBytes(b);
        reader.addBytes(c);
        reader.addBytes(d);
        reader.addBytes(e);
        return reader.tapeLength;
    }

    /** Promise 3. */
    public int table(int n) throws IllegalArgumentException {
        if (n < 0 || n > reader.tapeLength) {
            throw new IllegalArgumentException("the tape has not so many bytes");
        }
        int fault = reader.read(n, draft);
        if (fault != 0) {
            faultPlace = reader.place;
            refusedTexts++;
            return fault;
        }
        faultPlace = NONE;
        takeDraft();
        return 0;
    }

    private void takeDraft() {
        Board old = board;
        board = draft;
        draft = old;
        planner.forget();
        log.clear();
        court.end();
        hasImage = false;
        keptLies = NONE;
    }

    /** Promise 4. */
    public int fault() {
        return faultPlace;
    }

    /** Promise 5. */
    public int count(int what) throws NoSuchElementException {
        switch (what) {
            case 0: return board.dishes;
            case 1: return board.poisons;
            case 2: return board.tasters;
            case 3: return board.clean;
            case 4: return log.events;
            case 5: return log.latestTick();
            case 6: return reader.tapeLength;
            case 7: return refusedTexts;
            case 8: return refusedEvents;
            case 9: return refusedDays;
            case 10: return court.days;
            default: throw new NoSuchElementException("no such count");
        }
    }

    /** Promise 6. */
    public int dish(int dish, int what) throws NoSuchElementException {
        needDish(dish);
        switch (what) {
            case 0: return board.ready[dish];
            case 1: return board.served[dish];
            case 2: return board.dishWeight[dish];
            default: throw new NoSuchElementException("no such thing of a dish");
        }
    }

    /** Promise 7. */
    public int poison(int poison, int what) throws NoSuchElementException {
        needPoison(poison);
        switch (what) {
            case 0: return board.delay[poison];
            case 1: return board.needsWine[poison];
            case 2: return board.hardens[poison];
            case 3: return board.poisonWeight[poison];
            default: throw new NoSuchElementException("no such thing of a poison");
        }
    }

    /** Promise 8. */
    public int taster(int taster, int what) throws NoSuchElementException {
        needTaster(taster);
        switch (what) {
            case 0: return board.kind[taster];
            case 1: return board.cap[taster];
            case 2: return log.fellAt[taster];
            default: break;
        }
        if (what < 10 || what - 10 >= board.poisons) {
            throw new NoSuchElementException("no such thing of a taster");
        }
        return board.hadBefore[hadIndex(taster, what - 10)];
    }

    /** Promise 9. */
    public int shows(int taster, int poison, boolean wine) throws NoSuchElementException {
        needTaster(taster);
        needPoison(poison);
        return board.showTicks(taster, poison, wine);
    }

    /** Promise 10. */
    public int plan(int lies, int what) throws NoSuchElementException, IllegalArgumentException {
        needZeroOrOne(what);
        needLies(lies);
        Plan found = planner.planFor(board, lies, NONE);
        if (!found.exists) {
            return NONE;
        }
        keptLies = lies;
        return what == 0 ? found.tasters : found.cold;
    }

    /** Promise 11. */
    public int planned(int dish, int what) throws NoSuchElementException {
        needDish(dish);
        needZeroOrOne(what);
        if (keptLies == NONE) {
            throw new NoSuchElementException("no plan is kept");
        }
        Plan kept = planner.planFor(board, keptLies, NONE);
        return what == 0 ? kept.sets[dish] : kept.ticks[dish];
    }

    /** Promise 12. */
    public int bars(int lies) throws IllegalArgumentException {
        needLies(lies);
        for (int dish = 0; dish < board.dishes; dish++) {
            for (int poison = 0; poison < board.poisons; poison++) {
                if (board.witnesses(dish, poison) <= lies) {
                    return 10 * dish + poison;
                }
            }
        }
        return planner.planFor(board, lies, NONE).exists ? NONE : CAPS_BAR;
    }

    /** Promise 13. */
    public int worth(int taster, int lies) throws NoSuchElementException, IllegalArgumentException {
        needTaster(taster);
        needLies(lies);
        Plan with = planner.planFor(board, lies, NONE);
        if (!with.exists) {
            return 0;
        }
        Plan without = planner.planFor(board, lies, taster);
        if (!without.exists) {
            return NONE;
        }
        return 1000 * (without.tasters - with.tasters) + without.cold - with.cold;
    }

    /** Promise 14. */
    public int ate(int taster, int dish, int tick, boolean wine) throws NoSuchElementException {
        needTaster(taster);
        needDish(dish);
        return answerEvent(log.addMeal(taster, dish, tick, wine));
    }

    /** Promise 15. */
    public int fell(int taster, int tick) throws NoSuchElementException {
        needTaster(taster);
        return answerEvent(log.addFall(taster, tick));
    }

    private int answerEvent(boolean taken) {
        if (!taken) {
            refusedEvents++;
            return NONE;
        }
        return log.events;
    }

    /** Promise 16. */
    public int undo() {
        return log.dropLast() ? log.events : NONE;
    }

    /** Promise 17. */
    public int cases(int i) throws NoSuchElementException {
        judge.hear(board, log, log.latestTick());
        if (i == NONE) {
            return judge.fitting;
        }
        int found = judge.caseAt(i);
        if (found == NONE) {
            throw new NoSuchElementException("no such case");
        }
        return found;
    }

    /** Promise 18. */
    public int odds(int dish, int what) throws NoSuchElementException {
        if (dish != NONE) {
            needDish(dish);
        }
        needZeroOrOne(what);
        judge.hear(board, log, log.latestTick());
        return partOf(judge.weightOf(dish), judge.weightOfAll(), what);
    }

    /** Promise 19. */
    public int pairs() {
        judge.hear(board, log, log.latestTick());
        return judge.fittingPairs();
    }

    /** Promise 20. */
    public int next(int what) throws NoSuchElementException {
        needZeroOrOne(what);
        judge.hear(board, log, log.latestTick());
        judge.chooseTrial();
        return what == 0 ? judge.trialCode : judge.trialGroup;
    }

    /** Promise 21. */
    public int waiting(int tick) throws IllegalArgumentException {
        if (tick < log.latestTick() || tick > LAST_WAITING_TICK) {
            throw new IllegalArgumentException("no tick to wait for");
        }
        judge.hear(board, log, tick);
        return judge.fitting;
    }

    /** Promise 22. */
    public int trial(int days, int his, int ill, int both, int what)
            throws NoSuchElementException, IllegalArgumentException {
        needZeroOrOne(what);
        if (days < 1 || days > MAX_TRIAL_DAYS || his < 0 || his > days
                || ill < 0 || ill > days || both < 0 || both > ill) {
            throw new IllegalArgumentException("no such trial");
        }
        long ways = 0;
        for (int k = both; k <= ill; k++) {
            ways += choose(his, k) * choose(days - his, ill - k);
        }
        return partOf(ways, choose(days, ill), what);
    }

    /** Promise 23. */
    public boolean begin(int seed, int lies, int chance) throws IllegalArgumentException {
        needLies(lies);
        if (chance < 0 || chance > MAX_CHANCE) {
            throw new IllegalArgumentException("no such chance");
        }
        if (!planner.planFor(board, lies, NONE).exists) {
            refusedDays++;
            return false;
        }
        court.open(seed, lies, chance, board);
        return true;
    }

    /** Promise 24. */
    public int on(int days) throws IllegalArgumentException {
        if (days < 0 || days > MAX_DAYS_AT_ONCE) {
            throw new IllegalArgumentException("not so many days at once");
        }
        if (!court.begun || court.days + days > MAX_DAYS) {
            refusedDays++;
            return NONE;
        }
        Plan followed = planner.planFor(board, court.lies, NONE);
        for (int i = 0; i < days; i++) {
            court.passDay(board, followed);
        }
        return court.days;
    }

    /** Promise 25. */
    public int day(int day, int what) throws NoSuchElementException {
        if (day < 0 || day >= court.days) {
            throw new NoSuchElementException("that day has not been");
        }
        switch (what) {
            case 0: return court.dishOn[day];
            case 1: return court.poisonOn[day];
            case 2: return court.fellOn[day];
            case 3: return court.failedOn[day];
            default: throw new NoSuchElementException("no such thing of a day");
        }
    }

    /** Promise 26. */
    public int had(int taster, int poison) throws NoSuchElementException {
        needTaster(taster);
        needPoison(poison);
        if (!court.begun) {
            throw new NoSuchElementException("no days have begun");
        }
        return court.hadSince[hadIndex(taster, poison)];
    }

    /** Promise 27. */
    public void image() {
        logImage.copyFrom(log);
        courtImage.copyFrom(court);
        hasImage = true;
    }

    /** Promise 28. */
    public boolean restore() {
        if (!hasImage) {
            return false;
        }
        log.copyFrom(logImage);
        court.copyFrom(courtImage);
        return true;
    }

    private void needDish(int dish) {
        if (dish < 0 || dish >= board.dishes) {
            throw new NoSuchElementException("no such dish");
        }
    }

    private void needPoison(int poison) {
        if (poison < 0 || poison >= board.poisons) {
            throw new NoSuchElementException("no such poison");
        }
    }

    private void needTaster(int taster) {
        if (taster < 0 || taster >= board.tasters) {
            throw new NoSuchElementException("no such taster");
        }
    }

    private static void needZeroOrOne(int what) {
        if (what != 0 && what != 1) {
            throw new NoSuchElementException("no such what");
        }
    }

    private static void needLies(int lies) {
        if (lies < 0 || lies > MAX_LIES) {
            throw new IllegalArgumentException("no plan against so many lies");
        }
    }

    private static int hadIndex(int taster, int poison) {
        return taster * MAX_POISONS + poison;
    }

    /** The upper part (what 0) or the lower part of a fraction in lowest terms; nothing by nothing is 0 by 1. */
    private static int partOf(long upper, long lower, int what) {
        if (lower <= 0) {
            return what == 0 ? 0 : 1;
        }
        long common = commonDivisor(upper, lower);
        if (common <= 0) {
            return what == 0 ? 0 : 1;
        }
        return (int) ((what == 0 ? upper : lower) / common);
    }

    private static long commonDivisor(long a, long b) {
        long greater = a;
        long smaller = b;
        // Euclid's steps for numbers of 63 bits are fewer than a hundred.
        for (int step = 0; step < 100 && smaller != 0; step++) {
            long rest = greater % smaller;
            greater = smaller;
            smaller = rest;
        }
        return greater;
    }

    /** How many ways there are to choose k of n. */
    private static long choose(int n, int k) {
        if (k < 0 || k > n) {
            return 0;
        }
        long ways = 1;
        for (int i = 1; i <= k; i++) {
            ways = ways * (n - k + i) / i;
        }
        return ways;
    }

    /** What a text tells. */
    private static final class Board {
        int dishes;
        final int[] ready = new int[MAX_DISHES];
        final int[] served = new int[MAX_DISHES];
        final int[] dishWeight = new int[MAX_DISHES];
        int poisons;
        final int[] delay = new int[MAX_POISONS];
        final int[] needsWine = new int[MAX_POISONS];
        final int[] hardens = new int[MAX_POISONS];
        final int[] poisonWeight = new int[MAX_POISONS];
        int tasters;
        final int[] kind = new int[MAX_TASTERS];
        final int[] cap = new int[MAX_TASTERS];
        final int[] hadBefore = new int[MAX_TASTERS * MAX_POISONS];
        int clean = 1;

        void clear() {
            dishes = 0;
            poisons = 0;
            tasters = 0;
            clean = 1;
            Arrays.fill(hadBefore, 0);
        }

        int showTicks(int taster, int poison, boolean wine) {
            return showTicks(taster, poison, wine, hadBefore[hadIndex(taster, poison)]);
        }

        /** SHOWS in a taster who has had the poison so many times; NONE: never. */
        int showTicks(int taster, int poison, boolean wine, int times) {
            if (hardens[poison] > 0 && times >= hardens[poison]) {
                return NONE;
            }
            boolean drinks = kind[taster] == DRUNK || (wine && kind[taster] != DOG);
            if (needsWine[poison] != 0 && !drinks) {
                return NONE;
            }
            switch (kind[taster]) {
                case SLOW: return 2 * delay[poison];
                case DRUNK: return delay[poison] + 4;
                case DOG: return (delay[poison] + 1) / 2;
                default: return delay[poison];
            }
        }

        /** How many tell of the poison in time, if all but liars taste the dish when it is ready. */
        int witnesses(int dish, int poison) {
            int found = 0;
            for (int taster = 0; taster < tasters; taster++) {
                int ticks = showTicks(taster, poison, true);
                if (kind[taster] != LIAR && ticks != NONE && ticks <= served[dish] - ready[dish]) {
                    found++;
                }
            }
            return found;
        }
    }

    /** Holds the tape and reads it, token by token; the first fault stays, and behind it nothing is stored. */
    private static final class Reader {
        private static final int END = 0;
        private static final int WORD = 1;
        private static final int NUMBER = 2;
        private static final int SEMICOLON = 3;
        private static final int STRANGE = 4;

        private static final int MISPLACED = 1;
        private static final int TOO_MUCH = 2;
        private static final int UNTOLD = 3;
        private static final int TOLD_TWICE = 4;
        private static final int SECOND_CLEAN = 5;

        private static final int MAX_DIGITS = 4;
        /** The value of any number with too many digits: above all that may stand anywhere. */
        private static final int TOO_LONG = 10000;

        private final byte[] text = new byte[MAX_TAPE];
        int tapeLength;
        private int length;
        private int at;
        private int token;
        private int start;
        private int value;
        private int fault;
        private boolean cleanTold;
        /** By tasters: the poisons (bits) of which it was told how often he had them. */
        private final int[] hadTold = new int[MAX_TASTERS];
        int place;

        /** The four bytes of a number, the highest first, come behind the tape. */
        void addBytes(int number) {
            for (int shift = 24; shift >= 0 && tapeLength < MAX_TAPE; shift -= 8) {
                text[tapeLength] = (byte) (number >> shift);
                tapeLength++;
            }
        }

        /** Reads the tape's first so many bytes into the board and empties it: 0, or the fault, whose place is kept. */
        int read(int bytes, Board board) {
            length = Math.min(bytes, tapeLength);
            tapeLength = 0;
            at = 0;
            fault = 0;
            place = NONE;
            cleanTold = false;
            Arrays.fill(hadTold, 0);
            board.clear();
            scan();
            for (int lines = 0; lines < length && token != END && fault == 0; lines++) {
                if (isWord("dish")) {
                    readDish(board);
                } else if (isWord("poison")) {
                    readPoison(board);
                } else if (isWord("taster")) {
                    readTaster(board);
                } else if (isWord("had")) {
                    readHad(board);
                } else if (isWord("clean")) {
                    readClean(board);
                } else {
                    fail(MISPLACED);
                }
            }
            return fault;
        }

        private void readDish(Board board) {
            int dish = board.dishes;
            if (dish >= MAX_DISHES) {
                fail(TOO_MUCH);
                return;
            }
            scan();
            int ready = number(0, 95);
            int served = number(ready + 1, 95);
            int weight = option("weight", 99, 1);
            endLine();
            if (fault == 0) {
                board.ready[dish] = ready;
                board.served[dish] = served;
                board.dishWeight[dish] = weight;
                board.dishes++;
            }
        }

        private void readPoison(Board board) {
            int poison = board.poisons;
            if (poison >= MAX_POISONS) {
                fail(TOO_MUCH);
                return;
            }
            scan();
            int delay = number(1, 40);
            boolean wine = fault == 0 && isWord("wine");
            if (wine) {
                scan();
            }
            int hardens = option("hardens", 9, 0);
            int weight = option("weight", 99, 1);
            endLine();
            if (fault == 0) {
                board.delay[poison] = delay;
                board.needsWine[poison] = wine ? 1 : 0;
                board.hardens[poison] = hardens;
                board.poisonWeight[poison] = weight;
                board.poisons++;
            }
        }

        private void readTaster(Board board) {
            int taster = board.tasters;
            if (taster >= MAX_TASTERS) {
                fail(TOO_MUCH);
                return;
            }
            scan();
            int kind = kindOfWord();
            int cap = option("cap", 6, 6);
            endLine();
            if (fault == 0) {
                board.kind[taster] = kind;
                board.cap[taster] = cap;
                board.tasters++;
            }
        }

        private int kindOfWord() {
            int kind = NONE;
            if (isWord("plain")) {
                kind = 0;
            } else if (isWord("slow")) {
                kind = SLOW;
            } else if (isWord("drunk")) {
                kind = DRUNK;
            } else if (isWord("dog")) {
                kind = DOG;
            } else if (isWord("liar")) {
                kind = LIAR;
            }
            if (kind == NONE) {
                fail(MISPLACED);
            } else {
                scan();
            }
            return kind;
        }

        private void readHad(Board board) {
            scan();
            int taster = toldNumber(board.tasters, 0);
            int poison = toldNumber(board.poisons, taster == NONE ? 0 : hadTold[taster]);
            int times = number(0, MAX_HAD);
            endLine();
            if (fault == 0 && taster != NONE && poison != NONE) {
                hadTold[taster] |= 1 << poison;
                board.hadBefore[hadIndex(taster, poison)] = times;
            }
        }

        private void readClean(Board board) {
            if (cleanTold) {
                fail(SECOND_CLEAN);
                return;
            }
            scan();
            int clean = number(0, 9999);
            endLine();
            if (fault == 0) {
                cleanTold = true;
                board.clean = clean;
            }
        }

        private int number(int low, int high) {
            if (fault != 0) {
                return low;
            }
            if (token != NUMBER) {
                fail(MISPLACED);
                return low;
            }
            int found = value;
            if (found < low || found > high) {
                fail(TOO_MUCH);
                return low;
            }
            scan();
            return found;
        }

        /** The number of a taster or a poison that was told ahead, and is none of the used ones; NONE: a fault. */
        private int toldNumber(int told, int used) {
            if (fault != 0) {
                return NONE;
            }
            if (token != NUMBER) {
                fail(MISPLACED);
            } else if (value == TOO_LONG) {
                fail(TOO_MUCH);
            } else if (value >= told) {
                fail(UNTOLD);
            } else if ((used >> value & 1) != 0) {
                fail(TOLD_TWICE);
            }
            if (fault != 0) {
                return NONE;
            }
            int found = value;
            scan();
            return found;
        }

        private int option(String word, int high, int without) {
            if (fault != 0 || !isWord(word)) {
                return without;
            }
            scan();
            return number(0, high);
        }

        private void endLine() {
            if (fault != 0) {
                return;
            }
            if (token == SEMICOLON) {
                scan();
            } else {
                fail(MISPLACED);
            }
        }

        private void fail(int kind) {
            if (fault == 0) {
                fault = kind;
                place = start;
            }
        }

        private boolean isWord(String word) {
            if (token != WORD || at - start != word.length()) {
                return false;
            }
            for (int i = 0; i < word.length(); i++) {
                if (text[start + i] != word.charAt(i)) {
                    return false;
                }
            }
            return true;
        }

        private void scan() {
            while (at < length && (text[at] == 32 || text[at] == 10)) {
                at++;
            }
            start = at;
            if (at >= length) {
                token = END;
            } else if (isLetter(text[at])) {
                token = WORD;
                while (at < length && isLetter(text[at])) {
                    at++;
                }
            } else if (isDigit(text[at])) {
                token = NUMBER;
                value = 0;
                while (at < length && isDigit(text[at])) {
                    value = at - start < MAX_DIGITS ? value * 10 + text[at] - '0' : TOO_LONG;
                    at++;
                }
            } else {
                token = text[at] == ';' ? SEMICOLON : STRANGE;
                at++;
            }
        }

        private static boolean isLetter(int sign) {
            return sign >= 'a' && sign <= 'z';
        }

        private static boolean isDigit(int sign) {
            return sign >= '0' && sign <= '9';
        }
    }

    /** What was found of a plan against some lies, perhaps without a taster. */
    private static final class Plan {
        boolean known;
        boolean exists;
        int tasters;
        int cold;
        final int[] sets = new int[MAX_DISHES];
        final int[] ticks = new int[MAX_DISHES];
    }

    /** Finds plans; each is looked for once a table. */
    private static final class Planner {
        private static final int ALL_SETS = 1 << MAX_TASTERS;
        /** More cold than any plan can have (6 dishes by 95 ticks), and all the bits of a noted cold. */
        private static final int NEVER = 1023;
        private static final int NOTE_BITS = 10;
        /** With so many dishes to go or fewer, what was found is noted. */
        private static final int NOTED_DISHES = 4;
        /** By dishes to go: where their notes start, one of them for each row of caps that are left. */
        private static final int[] NOTES_FROM = {0, 0, 32, 275, 1299};
        /** 2, 3, 4 and 5 to the fifth together. */
        private static final int MAX_NOTES = 4424;

        private final Plan[] plans = new Plan[(MAX_LIES + 1) * (MAX_TASTERS + 1)];
        private Board board;
        /** By sets: the cold of a dish that they taste; NONE: they are not enough, however early. */
        private final int[] coldOf = new int[ALL_SETS];
        /** Sets that get colder without any one of them, in order: the plan has no others. */
        private final int[] leanSets = new int[ALL_SETS];
        private int leanCount;
        private final int[] capsLeft = new int[MAX_TASTERS];
        private final int[] row = new int[MAX_DISHES];
        private final int[] notes = new int[MAX_NOTES];
        /** Notes of an earlier search bear another number. */
        private int search;

        Planner() {
            for (int i = 0; i < plans.length; i++) {
                plans[i] = new Plan();
            }
        }

        void forget() {
            for (int i = 0; i < plans.length; i++) {
                plans[i].known = false;
            }
        }

        /** The plan against so many lies, in which one taster (NONE: nobody) tastes nothing. */
        Plan planFor(Board newBoard, int lies, int without) {
            Plan plan = plans[lies * (MAX_TASTERS + 1) + without + 1];
            if (plan.known) {
                return plan;
            }
            plan.known = true;
            plan.exists = false;
            board = newBoard;
            int free = freeTasters(without);
            weighSets(lies, free);
            gatherLeanSets();
            for (int size = 0; size <= MAX_TASTERS && !plan.exists; size++) {
                for (int company = 0; company < ALL_SETS; company++) {
                    if ((company & ~free) == 0 && Integer.bitCount(company) == size) {
                        tryCompany(company, plan);
                    }
                }
            }
            for (int dish = 0; dish < board.dishes && plan.exists; dish++) {
                plan.ticks[dish] = board.served[dish] - coldOf[plan.sets[dish]];
            }
            return plan;
        }

        private int freeTasters(int without) {
            int free = 0;
            for (int taster = 0; taster < board.tasters; taster++) {
                if (taster != without && board.kind[taster] != LIAR) {
                    free |= 1 << taster;
                }
            }
            return free;
        }

        private void weighSets(int lies, int free) {
            for (int set = 0; set < ALL_SETS; set++) {
                coldOf[set] = (set & ~free) == 0 ? coldOfSet(set, lies) : NONE;
            }
        }

        private int coldOfSet(int set, int lies) {
            int cold = 0;
            for (int poison = 0; poison < board.poisons; poison++) {
                int ticks = ticksToTell(set, poison, lies);
                if (ticks == NONE) {
                    return NONE;
                }
                cold = Math.max(cold, ticks);
            }
            return cold;
        }

        /** After how many ticks a poison shows in more of a set than lie; NONE: never. */
        private int ticksToTell(int set, int poison, int lies) {
            int first = NEVER;
            int second = NEVER;
            int third = NEVER;
            for (int taster = 0; taster < board.tasters; taster++) {
                int ticks = (set >> taster & 1) != 0 ? board.showTicks(taster, poison, true) : NONE;
                if (ticks != NONE) {
                    third = Math.min(third, Math.max(second, ticks));
                    second = Math.min(second, Math.max(first, ticks));
                    first = Math.min(first, ticks);
                }
            }
            int found = lies == 0 ? first : lies == 1 ? second : third;
            return found == NEVER ? NONE : found;
        }

        private void gatherLeanSets() {
            leanCount = 0;
            for (int set = 0; set < ALL_SETS; set++) {
                if (coldOf[set] != NONE && isLean(set)) {
                    leanSets[leanCount] = set;
                    leanCount++;
                }
            }
        }

        private boolean isLean(int set) {
            for (int taster = 0; taster < MAX_TASTERS; taster++) {
                int bit = 1 << taster;
                if ((set & bit) != 0 && coldOf[set ^ bit] == coldOf[set]) {
                    return false;
                }
            }
            return true;
        }

        /** Looks for the best plan in which only these taste, and keeps it if it is better. */
        private void tryCompany(int company, Plan plan) {
            int dishes = board.dishes;
            int least = dishes == 0 ? 0 : coldOf[company];
            if (least == NONE || least > shortestTime()) {
                return;
            }
            if (plan.exists && least * dishes > plan.cold) {
                return;
            }
            int cold = least * dishes;
            if (!chooseSameSet(company, least)) {
                startSearch(company);
                cold = leastCold(0);
                if (cold >= NEVER) {
                    return;
                }
                chooseRow();
            }
            if (!plan.exists || cold < plan.cold || (cold == plan.cold && rowIsBefore(plan.sets))) {
                plan.exists = true;
                plan.tasters = Integer.bitCount(company);
                plan.cold = cold;
                System.arraycopy(row, 0, plan.sets, 0, dishes);
            }
        }

        private int shortestTime() {
            int shortest = NEVER;
            for (int dish = 0; dish < board.dishes; dish++) {
                shortest = Math.min(shortest, timeOf(dish));
            }
            return shortest;
        }

        private int timeOf(int dish) {
            return board.served[dish] - board.ready[dish];
        }

        /** No row is better than the first set of least cold for every dish, if its caps allow it. */
        private boolean chooseSameSet(int company, int least) {
            for (int set = 0; set < ALL_SETS && board.dishes > 0; set++) {
                if ((set & ~company) == 0 && coldOf[set] == least) {
                    Arrays.fill(row, set);
                    return capsAllow(set);
                }
            }
            return board.dishes == 0;
        }

        private boolean capsAllow(int set) {
            for (int taster = 0; taster < board.tasters; taster++) {
                if ((set >> taster & 1) != 0 && board.cap[taster] < board.dishes) {
                    return false;
                }
            }
            return true;
        }

        private void startSearch(int company) {
            search++;
            for (int taster = 0; taster < MAX_TASTERS; taster++) {
                capsLeft[taster] = (company >> taster & 1) != 0 ? board.cap[taster] : 0;
            }
        }

        /** The least cold of this dish and those behind it, by the caps that are left; NEVER: caps bar them. */
        private int leastCold(int dish) {
            int toGo = board.dishes - dish;
            if (toGo <= 0) {
                return 0;
            }
            int place = notePlace(toGo);
            if (place != NONE && notes[place] >> NOTE_BITS == search) {
                return notes[place] & NEVER;
            }
            int open = openTasters();
            int least = NEVER;
            for (int i = 0; i < leanCount; i++) {
                least = Math.min(least, coldWith(dish, leanSets[i], open));
            }
            if (place != NONE) {
                notes[place] = search << NOTE_BITS | least;
            }
            return least;
        }

        private int coldWith(int dish, int set, int open) {
            if ((set & ~open) != 0 || coldOf[set] > timeOf(dish)) {
                return NEVER;
            }
            changeCaps(set, -1);
            int cold = coldOf[set] + leastCold(dish + 1);
            changeCaps(set, 1);
            return cold;
        }

        /** A cap above the dishes to go is like one of just so many, so that few rows of caps are unlike. */
        private int notePlace(int toGo) {
            if (toGo > NOTED_DISHES) {
                return NONE;
            }
            int key = 0;
            for (int taster = 0; taster < MAX_TASTERS; taster++) {
                key = key * (toGo + 1) + Math.min(capsLeft[taster], toGo);
            }
            int place = NOTES_FROM[toGo] + key;
            return place >= 0 && place < notes.length ? place : NONE;
        }

        private int openTasters() {
            int open = 0;
            for (int taster = 0; taster < MAX_TASTERS; taster++) {
                if (capsLeft[taster] > 0) {
                    open |= 1 << taster;
                }
            }
            return open;
        }

        private void changeCaps(int set, int by) {
            for (int taster = 0; taster < MAX_TASTERS; taster++) {
                if ((set >> taster & 1) != 0) {
                    capsLeft[taster] += by;
                }
            }
        }

        /** The first row of sets that has the least cold. */
        private void chooseRow() {
            for (int dish = 0; dish < board.dishes; dish++) {
                int least = leastCold(dish);
                int open = openTasters();
                for (int i = 0; i < leanCount; i++) {
                    if (coldWith(dish, leanSets[i], open) == least) {
                        row[dish] = leanSets[i];
                        break;
                    }
                }
                changeCaps(row[dish], -1);
            }
        }

        private boolean rowIsBefore(int[] sets) {
            for (int dish = 0; dish < board.dishes; dish++) {
                if (row[dish] != sets[dish]) {
                    return row[dish] < sets[dish];
                }
            }
            return false;
        }
    }

    /** The events, in the order in which they were told. */
    private static final class Log {
        int events;
        final int[] who = new int[MAX_EVENTS];
        /** NONE: he fell. */
        final int[] dishEaten = new int[MAX_EVENTS];
        final int[] tickOf = new int[MAX_EVENTS];
        final int[] withWine = new int[MAX_EVENTS];
        final int[] fellAt = new int[MAX_TASTERS];

        Log() {
            Arrays.fill(fellAt, NONE);
        }

        void clear() {
            events = 0;
            Arrays.fill(fellAt, NONE);
        }

        boolean addMeal(int taster, int dish, int tick, boolean wine) {
            return add(taster, dish, tick, wine);
        }

        boolean addFall(int taster, int tick) {
            if (fellAt[taster] != NONE || !add(taster, NONE, tick, false)) {
                return false;
            }
            fellAt[taster] = tick;
            return true;
        }

        private boolean add(int taster, int dish, int tick, boolean wine) {
            if (events >= MAX_EVENTS || tick < 0 || tick > LAST_EVENT_TICK) {
                return false;
            }
            who[events] = taster;
            dishEaten[events] = dish;
            tickOf[events] = tick;
            withWine[events] = wine ? 1 : 0;
            events++;
            return true;
        }

        boolean dropLast() {
            if (events <= 0) {
                return false;
            }
            events--;
            if (dishEaten[events] == NONE) {
                fellAt[who[events]] = NONE;
            }
            return true;
        }

        int latestTick() {
            int latest = 0;
            for (int event = 0; event < events; event++) {
                latest = Math.max(latest, tickOf[event]);
            }
            return latest;
        }

        void copyFrom(Log other) {
            events = other.events;
            System.arraycopy(other.who, 0, who, 0, events);
            System.arraycopy(other.dishEaten, 0, dishEaten, 0, events);
            System.arraycopy(other.tickOf, 0, tickOf, 0, events);
            System.arraycopy(other.withWine, 0, withWine, 0, events);
            System.arraycopy(other.fellAt, 0, fellAt, 0, MAX_TASTERS);
        }
    }

    /** Says which cases fit the events; every answer is of the last hearing. */
    private static final class Judge {
        private static final int MAX_CASES = 1 + MAX_DISHES * MAX_POISONS;
        /** Later than any tick that is asked for. */
        private static final int NEVER = 1 << 20;

        private Board board;
        private Log log;
        private int now;
        private int caseCount;
        /** By tasters and cases: when he falls by it. */
        private final int[] falls = new int[MAX_TASTERS * MAX_CASES];
        private final int[] fits = new int[MAX_CASES];
        int fitting;
        int trialCode;
        int trialGroup;

        void hear(Board newBoard, Log newLog, int tick) {
            board = newBoard;
            log = newLog;
            now = tick;
            caseCount = 1 + board.dishes * board.poisons;
            Arrays.fill(falls, NEVER);
            for (int event = 0; event < log.events; event++) {
                if (log.dishEaten[event] != NONE) {
                    hearMeal(event);
                }
            }
            fitting = 0;
            for (int number = 0; number < caseCount; number++) {
                fits[number] = fitTogether(number, number) ? 1 : 0;
                fitting += fits[number];
            }
        }

        private void hearMeal(int event) {
            int taster = log.who[event];
            for (int poison = 0; poison < board.poisons; poison++) {
                int ticks = board.showTicks(taster, poison, log.withWine[event] != 0);
                if (ticks != NONE) {
                    int place = taster * MAX_CASES + caseOf(log.dishEaten[event], poison);
                    falls[place] = Math.min(falls[place], log.tickOf[event] + ticks);
                }
            }
        }

        private int caseOf(int dish, int poison) {
            return 1 + dish * board.poisons + poison;
        }

        /** Whether two cases at once (or one, if they are the same) fit all that was seen. */
        private boolean fitTogether(int one, int other) {
            for (int taster = 0; taster < board.tasters; taster++) {
                int from = taster * MAX_CASES;
                int falling = Math.min(falls[from + one], falls[from + other]);
                int seen = log.fellAt[taster];
                boolean agrees = seen == NONE ? falling > now : falling == seen;
                if (board.kind[taster] != LIAR && !agrees) {
                    return false;
                }
            }
            return true;
        }

        /** The i-th case that fits; NONE: there is none. */
        int caseAt(int i) {
            int passed = 0;
            for (int number = 0; number < caseCount; number++) {
                if (fits[number] != 0) {
                    if (passed == i) {
                        return number;
                    }
                    passed++;
                }
            }
            return NONE;
        }

        /** The weight of all cases that fit with this dish, or (NONE) with nothing poisoned. */
        int weightOf(int dish) {
            if (dish == NONE) {
                return fits[0] * board.clean;
            }
            int weight = 0;
            for (int poison = 0; poison < board.poisons; poison++) {
                weight += fits[caseOf(dish, poison)] * board.dishWeight[dish] * board.poisonWeight[poison];
            }
            return weight;
        }

        int weightOfAll() {
            int weight = weightOf(NONE);
            for (int dish = 0; dish < board.dishes; dish++) {
                weight += weightOf(dish);
            }
            return weight;
        }

        int fittingPairs() {
            int found = 0;
            for (int one = 1; one < caseCount; one++) {
                for (int other = one + 1; other < caseCount; other++) {
                    if (fitTogether(one, other)) {
                        found++;
                    }
                }
            }
            return found;
        }

        /** Sets the code and the greatest group of the best trial; NONE and NONE, if there is no trial. */
        void chooseTrial() {
            trialCode = NONE;
            trialGroup = NONE;
            for (int taster = 0; taster < board.tasters; taster++) {
                if (board.kind[taster] == LIAR || log.fellAt[taster] != NONE) {
                    continue;
                }
                for (int choice = 0; choice < 2 * board.dishes; choice++) {
                    int group = greatestGroup(taster, choice / 2, choice % 2 != 0);
                    if (trialCode == NONE || group < trialGroup) {
                        trialCode = 20 * taster + choice;
                        trialGroup = group;
                    }
                }
            }
        }

        private int greatestGroup(int taster, int dish, boolean wine) {
            int greatest = 0;
            int telling = 0;
            for (int poison = 0; poison < board.poisons; poison++) {
                int ticks = trialTicks(taster, dish, poison, wine);
                if (ticks == NONE) {
                    continue;
                }
                telling++;
                int alike = 0;
                for (int other = 0; other < board.poisons; other++) {
                    if (trialTicks(taster, dish, other, wine) == ticks) {
                        alike++;
                    }
                }
                greatest = Math.max(greatest, alike);
            }
            return Math.max(greatest, fitting - telling);
        }

        /** After how many ticks he falls by a trial of the dish; NONE: never, or that case doesn't fit. */
        private int trialTicks(int taster, int dish, int poison, boolean wine) {
            return fits[caseOf(dish, poison)] == 0 ? NONE : board.showTicks(taster, poison, wine);
        }
    }

    /** Days by a seed. */
    private static final class Court {
        boolean begun;
        private int seed;
        int lies;
        private int chance;
        int days;
        final int[] hadSince = new int[MAX_TASTERS * MAX_POISONS];
        final int[] dishOn = new int[MAX_DAYS];
        final int[] poisonOn = new int[MAX_DAYS];
        final int[] fellOn = new int[MAX_DAYS];
        final int[] failedOn = new int[MAX_DAYS];

        void end() {
            begun = false;
            days = 0;
        }

        void open(int newSeed, int newLies, int newChance, Board board) {
            begun = true;
            seed = newSeed;
            lies = newLies;
            chance = newChance;
            days = 0;
            System.arraycopy(board.hadBefore, 0, hadSince, 0, hadSince.length);
        }

        void passDay(Board board, Plan plan) {
            if (days >= MAX_DAYS) {
                return;
            }
            int dish = NONE;
            int poison = NONE;
            int allDishes = sum(board.dishWeight, board.dishes);
            int allPoisons = sum(board.poisonWeight, board.poisons);
            if (draw(1000) < chance && allDishes > 0 && allPoisons > 0) {
                dish = pick(board.dishWeight, board.dishes, draw(allDishes));
                poison = pick(board.poisonWeight, board.poisons, draw(allPoisons));
            }
            boolean poisoned = dish != NONE && poison != NONE;
            int fallen = poisoned ? whoFall(board, plan, dish, poison) : 0;
            dishOn[days] = dish;
            poisonOn[days] = poison;
            fellOn[days] = fallen;
            failedOn[days] = poisoned && Integer.bitCount(fallen) <= lies ? 1 : 0;
            if (poisoned) {
                harden(plan.sets[dish], poison);
            }
            days++;
        }

        private int whoFall(Board board, Plan plan, int dish, int poison) {
            int fallen = 0;
            int cold = board.served[dish] - plan.ticks[dish];
            for (int taster = 0; taster < board.tasters; taster++) {
                int ticks = board.showTicks(taster, poison, true, hadSince[hadIndex(taster, poison)]);
                if ((plan.sets[dish] >> taster & 1) != 0 && ticks != NONE && ticks <= cold) {
                    fallen |= 1 << taster;
                }
            }
            return fallen;
        }

        private void harden(int set, int poison) {
            for (int taster = 0; taster < MAX_TASTERS; taster++) {
                int place = hadIndex(taster, poison);
                if ((set >> taster & 1) != 0) {
                    hadSince[place] = Math.min(MAX_HAD, hadSince[place] + 1);
                }
            }
        }

        private int draw(int n) {
            seed = seed * 1103515245 + 12345;
            return n <= 0 ? 0 : (seed >>> 16 & 0x7FFF) % n;
        }

        private static int sum(int[] weights, int count) {
            int together = 0;
            for (int i = 0; i < count; i++) {
                together += weights[i];
            }
            return together;
        }

        /** The first by whom the weights together are more than what was drawn. */
        private static int pick(int[] weights, int count, int drawn) {
            int together = 0;
            for (int i = 0; i < count; i++) {
                together += weights[i];
                if (together > drawn) {
                    return i;
                }
            }
            return NONE;
        }

        void copyFrom(Court other) {
            begun = other.begun;
            seed = other.seed;
            lies = other.lies;
            chance = other.chance;
            days = other.days;
            System.arraycopy(other.hadSince, 0, hadSince, 0, hadSince.length);
            System.arraycopy(other.dishOn, 0, dishOn, 0, days);
            System.arraycopy(other.poisonOn, 0, poisonOn, 0, days);
            System.arraycopy(other.fellOn, 0, fellOn, 0, days);
            System.arraycopy(other.failedOn, 0, failedOn, 0, days);
        }
    }
}
