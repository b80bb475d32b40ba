import java.util.Arrays;

/**
 * A maker of machines from formulas about time. The document (DOC.md) says what each call promises;
 * its words (way, put off, good step, position, safe) are used here in its sense.
 */
public final class MachineMaker {
    public static final int BAD = -1;
    public static final int ROOM = -2;

    private static final int TRUE = 0;
    private static final int FALSE = 1;
    private static final int BIT = 2;
    private static final int NO_BIT = 3;
    private static final int AND = 4;
    private static final int OR = 5;
    private static final int NEXT = 6;
    private static final int UNTIL = 7;
    private static final int RELEASE = 8;

    private static final int MOST_FORMULAS = 28;
    private static final int MOST_WAYS = 60;
    private static final int MOST_STATES = 16;
    private static final int MOST_POSITIONS = 100;
    private static final int MOST_BOUND = 3;
    private static final int MOST_WORD_LETTERS = 8;

    private static final int BITS = 4;
    private static final int LETTERS = 16;
    /** How many inputs there are, and how many outputs. */
    private static final int SIGNALS = 4;

    private static final int NONE = -1;

    private static final int NEITHER = 0;
    private static final int MACHINE = 1;
    private static final int OPPONENT = 2;

    private final Book book = new Book();
    private final Word word = new Word(book);
    private final WayTable table = new WayTable(book);
    private final Automaton automaton = new Automaton(book, table);
    private final Game game = new Game(automaton);
    private final Winner winner = new Winner(game);

    public MachineMaker() {
    }

    public int formula(int kind, int a, int b) {
        if (!book.canBuild(kind, a, b)) {
            return BAD;
        }
        return book.build(kind, Book.looksAtFirst(kind) ? a : 0, Book.looksAtSecond(kind) ? b : 0);
    }

    public int dual(int f) {
        return book.knows(f) ? book.buildDual(f, 0) : BAD;
    }

    public int formulas() {
        return book.count;
    }

    public int has(int f, long first, int n, long again, int m) {
        if (!book.knows(f) || n < 0 || n > MOST_WORD_LETTERS || m < 1 || m > MOST_WORD_LETTERS) {
            return BAD;
        }
        word.write(first, n, again, m);
        return word.beginsWith(f) ? 1 : 0;
    }

    public int ways(int f, int letter) {
        if (!book.knows(f) || letter < 0 || letter >= LETTERS) {
            return BAD;
        }
        return table.learn(f, letter) ? table.count(f, letter) : ROOM;
    }

    public int states(int f) {
        if (!book.knows(f)) {
            return BAD;
        }
        return automaton.build(f) ? automaton.count : ROOM;
    }

    public int solve(int f, int bound) {
        if (!book.knows(f) || bound < 0 || bound > MOST_BOUND) {
            return BAD;
        }
        winner.forget();
        int dual = book.buildDual(f, 0);
        if (dual == ROOM || !automaton.build(dual) || !game.explore(bound)) {
            return ROOM;
        }
        if (game.isWonBy(MACHINE)) {
            winner.takeMachine();
            return MACHINE;
        }
        if (!automaton.build(f) || !game.explore(bound)) {
            return ROOM;
        }
        if (game.isWonBy(OPPONENT)) {
            winner.takeOpponent();
            return OPPONENT;
        }
        return NEITHER;
    }

    public int size(int what) {
        switch (what) {
            case 0:
                return winner.count;
            case 1:
                return winner.positions;
            case 2:
                return winner.safePositions;
            default:
                return BAD;
        }
    }

    public int gives(int state, int input) {
        if (!winner.knows(state)) {
            return BAD;
        }
        if (winner.kind == OPPONENT) {
            return winner.answers[state * SIGNALS];
        }
        return isSignal(input) ? winner.answers[state * SIGNALS + input] : BAD;
    }

    public int next(int state, int by) {
        return winner.knows(state) && isSignal(by) ? winner.followers[state * SIGNALS + by] : BAD;
    }

    private static boolean isSignal(int number) {
        return number >= 0 && number < SIGNALS;
    }

    /** The formulas. A part is there before its whole, so parts have the lower numbers. */
    private static final class Book {
        private static final int[] DUAL_KINDS = {FALSE, TRUE, NO_BIT, BIT, OR, AND, NEXT, RELEASE, UNTIL};

        private final int[] kinds = new int[MOST_FORMULAS];
        private final int[] firsts = new int[MOST_FORMULAS];
        private final int[] seconds = new int[MOST_FORMULAS];
        /** For each formula the set of itself, its parts, theirs, and so on: bit p for formula p. */
        private final int[] partSets = new int[MOST_FORMULAS];
        /** Kept so that parts that many formulas share are not gone through again and again. */
        private final int[] duals = new int[MOST_FORMULAS];
        private int count;

        Book() {
            Arrays.fill(duals, NONE);
        }

        boolean knows(int f) {
            return f >= 0 && f < count;
        }

        static boolean hasTwoParts(int kind) {
            return kind == AND || kind == OR || kind == UNTIL || kind == RELEASE;
        }

        static boolean hasParts(int kind) {
            return kind == NEXT || hasTwoParts(kind);
        }

        static boolean looksAtFirst(int kind) {
            return kind != TRUE && kind != FALSE;
        }

        static boolean looksAtSecond(int kind) {
            return hasTwoParts(kind);
        }

        boolean canBuild(int kind, int a, int b) {
            if (kind == TRUE || kind == FALSE) {
                return true;
            }
            if (kind == BIT || kind == NO_BIT) {
                return a >= 0 && a < BITS;
            }
            if (kind == NEXT) {
                return knows(a);
            }
            return hasTwoParts(kind) && knows(a) && knows(b);
        }

        /** The formula's number, or ROOM. What a kind does not look at has to be 0 here. */
        int build(int kind, int a, int b) {
            for (int f = 0; f < count; f++) {
                if (kinds[f] == kind && firsts[f] == a && seconds[f] == b) {
                    return f;
                }
            }
            if (count >= MOST_FORMULAS) {
                return ROOM;
            }
            int made = count;
            kinds[made] = kind;
            firsts[made] = a;
            seconds[made] = b;
            partSets[made] = 1 << made;
            if (hasParts(kind)) {
                partSets[made] |= partSets[a];
            }
            if (hasTwoParts(kind)) {
                partSets[made] |= partSets[b];
            }
            count++;
            return made;
        }

        /** The depth can't reach the limit, as a part's number is lower than its whole's. */
        private int buildDual(int f, int depth) {
            if (depth >= MOST_FORMULAS) {
                return ROOM;
            }
            if (duals[f] != NONE) {
                return duals[f];
            }
            int kind = kinds[f];
            int a = firsts[f];
            int b = seconds[f];
            if (hasParts(kind)) {
                a = buildDual(a, depth + 1);
            }
            if (hasTwoParts(kind) && a != ROOM) {
                b = buildDual(b, depth + 1);
            }
            if (a == ROOM || b == ROOM) {
                return ROOM;
            }
            int dual = build(DUAL_KINDS[kind], a, b);
            if (dual != ROOM) {
                duals[f] = dual;
            }
            return dual;
        }

        boolean isPart(int part, int whole) {
            return (partSets[whole] >> part & 1) != 0;
        }
    }

    /** A word that repeats at last, as the finitely many places that differ; a set of places is bits. */
    private static final class Word {
        private final Book book;
        private final int[] letters = new int[2 * MOST_WORD_LETTERS];
        /** For each formula the places at which it holds. */
        private final int[] holding = new int[MOST_FORMULAS];
        private int length;
        /** The place that follows the last one. */
        private int repeated;

        Word(Book book) {
            this.book = book;
        }

        void write(long first, int n, long again, int m) {
            for (int i = 0; i < n; i++) {
                letters[i] = (int) (first >> BITS * i) & LETTERS - 1;
            }
            for (int i = 0; i < m; i++) {
                letters[n + i] = (int) (again >> BITS * i) & LETTERS - 1;
            }
            length = n + m;
            repeated = n;
        }

        boolean beginsWith(int f) {
            for (int part = 0; part <= f; part++) {
                if (book.isPart(part, f)) {
                    holding[part] = placesOf(part);
                }
            }
            return (holding[f] & 1) != 0;
        }

        private int placesOf(int f) {
            int a = book.firsts[f];
            int b = book.seconds[f];
            switch (book.kinds[f]) {
                case TRUE:
                    return everywhere();
                case BIT:
                    return placesWithBit(a);
                case NO_BIT:
                    return everywhere() & ~placesWithBit(a);
                case AND:
                    return holding[a] & holding[b];
                case OR:
                    return holding[a] | holding[b];
                case NEXT:
                    return placesAhead(holding[a]);
                case UNTIL:
                    return placesOfUntil(holding[a], holding[b]);
                case RELEASE:
                    return placesOfRelease(holding[a], holding[b]);
                default:
                    return 0;
            }
        }

        private int everywhere() {
            return (1 << length) - 1;
        }

        private int placesWithBit(int bit) {
            int places = 0;
            for (int i = 0; i < length; i++) {
                places |= (letters[i] >> bit & 1) << i;
            }
            return places;
        }

        /** The places whose next place is one of these. */
        private int placesAhead(int places) {
            return places >> 1 | (places >> repeated & 1) << length - 1;
        }

        /** As many rounds as there are places reach the farthest place of g that counts. */
        private int placesOfUntil(int f, int g) {
            int places = g;
            for (int round = 0; round < length; round++) {
                places = g | f & placesAhead(places);
            }
            return places;
        }

        private int placesOfRelease(int f, int g) {
            int places = g;
            for (int round = 0; round < length; round++) {
                places = g & (f | placesAhead(places));
            }
            return places;
        }
    }

    /**
     * Up to 60 ways, each once. A way is one number, so that joining two is one "or": bit f for a
     * formula f that is to hold next, bit MOST_FORMULAS + f for an UNTIL f that is put off.
     */
    private static final class WaySet {
        /** Ascending, so that an equal one is found quickly. */
        private final long[] ways = new long[MOST_WAYS];
        private int count;
        /** Whether there were more than 60; then the ways are not all here. */
        private boolean over;

        void clear() {
            count = 0;
            over = false;
        }

        void add(long way) {
            int low = 0;
            int high = count;
            while (low < high) {
                int middle = (low + high) / 2;
                if (ways[middle] < way) {
                    low = middle + 1;
                } else {
                    high = middle;
                }
            }
            if (low < count && ways[low] == way) {
                return;
            }
            if (count >= MOST_WAYS) {
                over = true;
                return;
            }
            for (int i = count; i > low; i--) {
                ways[i] = ways[i - 1];
            }
            ways[low] = way;
            count++;
        }

        static long toHoldNext(int f) {
            return 1L << f;
        }

        static long putOff(int f) {
            return 1L << MOST_FORMULAS + f;
        }

        static int nextSet(long way) {
            return (int) (way & (1L << MOST_FORMULAS) - 1);
        }

        static int putOffSet(long way) {
            return (int) (way >> MOST_FORMULAS);
        }
    }

    /** The ways of formulas by letters: they never change, so each is found once and kept. */
    private static final class WayTable {
        private static final int UNKNOWN = -1;
        private static final int TOO_MANY = -2;
        /** At least MOST_WAYS, so that doubling once always makes room for one formula more. */
        private static final int FIRST_LENGTH = 512;

        private final Book book;
        private final int[] starts = new int[MOST_FORMULAS * LETTERS];
        private final int[] counts = new int[MOST_FORMULAS * LETTERS];
        private long[] kept = new long[FIRST_LENGTH];
        private int used;
        private final WaySet found = new WaySet();
        private final WaySet joinedOnce = new WaySet();
        private final WaySet joinedTwice = new WaySet();

        WayTable(Book book) {
            this.book = book;
            Arrays.fill(counts, UNKNOWN);
        }

        private static int cell(int f, int letter) {
            return f * LETTERS + letter;
        }

        int count(int f, int letter) {
            return counts[cell(f, letter)];
        }

        /** Whether the formula and all its parts have room; only then may their ways be asked for. */
        boolean learn(int f, int letter) {
            for (int part = 0; part <= f; part++) {
                if (!book.isPart(part, f)) {
                    continue;
                }
                int cell = cell(part, letter);
                if (counts[cell] == UNKNOWN) {
                    find(part, letter);
                    keepFound(cell);
                }
                if (counts[cell] == TOO_MANY) {
                    return false;
                }
            }
            return true;
        }

        private void keepFound(int cell) {
            if (found.over) {
                counts[cell] = TOO_MANY;
                return;
            }
            if (used + found.count > kept.length) {
                kept = Arrays.copyOf(kept, 2 * kept.length);
            }
            System.arraycopy(found.ways, 0, kept, used, found.count);
            starts[cell] = used;
            counts[cell] = found.count;
            used += found.count;
        }

        private void find(int f, int letter) {
            int kind = book.kinds[f];
            int a = book.firsts[f];
            int b = book.seconds[f];
            found.clear();
            switch (kind) {
                case TRUE:
                    found.add(0L);
                    break;
                case BIT:
                case NO_BIT:
                    if ((letter >> a & 1) == (kind == BIT ? 1 : 0)) {
                        found.add(0L);
                    }
                    break;
                case AND:
                    findJoined(a, b, letter);
                    break;
                case OR:
                    addEach(found, a, letter, 0L);
                    addEach(found, b, letter, 0L);
                    break;
                case NEXT:
                    found.add(WaySet.toHoldNext(a));
                    break;
                case UNTIL:
                    addEach(found, b, letter, 0L);
                    addEach(found, a, letter, WaySet.toHoldNext(f) | WaySet.putOff(f));
                    break;
                case RELEASE:
                    findJoined(b, a, letter);
                    addEach(found, b, letter, WaySet.toHoldNext(f));
                    break;
                default:
                    break;
            }
        }

        private void findJoined(int a, int b, int letter) {
            int cell = cell(a, letter);
            for (int i = 0; i < counts[cell] && !found.over; i++) {
                addEach(found, b, letter, kept[starts[cell] + i]);
            }
        }

        /** Adds each way of a formula, joined with one more. */
        private void addEach(WaySet ways, int f, int letter, long more) {
            int cell = cell(f, letter);
            for (int i = 0; i < counts[cell] && !ways.over; i++) {
                ways.add(kept[starts[cell] + i] | more);
            }
        }

        /** The ways of a set of learnt formulas; over when too many were joined on the way. */
        WaySet waysOfSet(int set, int letter) {
            WaySet joined = joinedOnce;
            WaySet spare = joinedTwice;
            joined.clear();
            joined.add(0L);
            for (int f = 0; f < MOST_FORMULAS && set >> f != 0 && !joined.over; f++) {
                if ((set >> f & 1) == 0) {
                    continue;
                }
                spare.clear();
                for (int i = 0; i < joined.count && !spare.over; i++) {
                    addEach(spare, f, letter, joined.ways[i]);
                }
                WaySet former = joined;
                joined = spare;
                spare = former;
            }
            return joined;
        }
    }

    /** The automaton of the formula that it was built for last. */
    private static final class Automaton {
        private final Book book;
        private final WayTable table;
        private final int[] untils = new int[MOST_FORMULAS];
        private int untilCount;
        private final int[] sets = new int[MOST_STATES];
        private final int[] numbers = new int[MOST_STATES];
        private int count;
        /** For a state and a letter the set of states that steps lead to, and good steps alone. */
        private final int[] steps = new int[MOST_STATES * LETTERS];
        private final int[] goodSteps = new int[MOST_STATES * LETTERS];

        Automaton(Book book, WayTable table) {
            this.book = book;
            this.table = table;
        }

        /** Whether there is room for it. */
        boolean build(int f) {
            for (int letter = 0; letter < LETTERS; letter++) {
                if (!table.learn(f, letter)) {
                    return false;
                }
            }
            listUntils(f);
            sets[0] = 1 << f;
            numbers[0] = 0;
            count = 1;
            for (int state = 0; state < count && state < MOST_STATES; state++) {
                for (int letter = 0; letter < LETTERS; letter++) {
                    if (!addSteps(state, letter)) {
                        return false;
                    }
                }
            }
            return true;
        }

        private void listUntils(int f) {
            untilCount = 0;
            for (int part = 0; part <= f; part++) {
                if (book.isPart(part, f) && book.kinds[part] == UNTIL) {
                    untils[untilCount] = part;
                    untilCount++;
                }
            }
        }

        private boolean addSteps(int state, int letter) {
            WaySet found = table.waysOfSet(sets[state], letter);
            if (found.over) {
                return false;
            }
            int cell = state * LETTERS + letter;
            steps[cell] = 0;
            goodSteps[cell] = 0;
            for (int i = 0; i < found.count; i++) {
                long way = found.ways[i];
                int waiting = firstPutOff(numbers[state], WaySet.putOffSet(way));
                int to = stateOf(WaySet.nextSet(way), waiting == NONE ? 0 : waiting);
                if (to == NONE) {
                    return false;
                }
                steps[cell] |= 1 << to;
                if (waiting == NONE) {
                    goodSteps[cell] |= 1 << to;
                }
            }
            return true;
        }

        private int firstPutOff(int from, int putOff) {
            for (int i = from; i < untilCount; i++) {
                if ((putOff >> untils[i] & 1) != 0) {
                    return i;
                }
            }
            return NONE;
        }

        /** The state, a new one if need be; NONE when there is no room for it. */
        private int stateOf(int set, int number) {
            for (int state = 0; state < count; state++) {
                if (sets[state] == set && numbers[state] == number) {
                    return state;
                }
            }
            if (count >= MOST_STATES) {
                return NONE;
            }
            sets[count] = set;
            numbers[count] = number;
            count++;
            return count - 1;
        }
    }

    /** The game of the automaton, with the positions that can be come to. */
    private static final class Game {
        private static final int COUNTER_BITS = 4;
        private static final long LOST = -1L;

        private final Automaton automaton;
        /** A row of counters is one number: each state's counter, and 1 more, in four bits. */
        private final long[] rows = new long[MOST_POSITIONS];
        private int count;
        /** For a position and a letter the position that comes; NONE if the game is lost. */
        private final int[] followers = new int[MOST_POSITIONS * LETTERS];
        private final boolean[] safe = new boolean[MOST_POSITIONS];
        private int safeCount;

        Game(Automaton automaton) {
            this.automaton = automaton;
        }

        /** Whether there is room for the positions. */
        boolean explore(int bound) {
            rows[0] = raised(0L, 0, 0);
            count = 1;
            for (int position = 0; position < count && position < MOST_POSITIONS; position++) {
                for (int letter = 0; letter < LETTERS; letter++) {
                    long row = rowAfter(rows[position], letter, bound);
                    int to = row == LOST ? NONE : positionOf(row);
                    if (to == ROOM) {
                        return false;
                    }
                    followers[position * LETTERS + letter] = to;
                }
            }
            return true;
        }

        private static int counterOf(long row, int state) {
            return (int) (row >> COUNTER_BITS * state & (1 << COUNTER_BITS) - 1) - 1;
        }

        /** The row with a state's counter not below this one. */
        private static long raised(long row, int state, int counter) {
            int former = counterOf(row, state);
            return former >= counter ? row : row + ((long) (counter - former) << COUNTER_BITS * state);
        }

        private static long allRaised(long row, int states, int counter) {
            long result = row;
            for (int state = 0; state < MOST_STATES && states >> state != 0; state++) {
                if ((states >> state & 1) != 0) {
                    result = raised(result, state, counter);
                }
            }
            return result;
        }

        private long rowAfter(long row, int letter, int bound) {
            long after = 0L;
            for (int state = 0; state < automaton.count; state++) {
                int counter = counterOf(row, state);
                if (counter < 0) {
                    continue;
                }
                int cell = state * LETTERS + letter;
                if (automaton.goodSteps[cell] != 0 && counter >= bound) {
                    return LOST;
                }
                after = allRaised(after, automaton.steps[cell], counter);
                after = allRaised(after, automaton.goodSteps[cell], counter + 1);
            }
            return after;
        }

        /** The position, a new one if need be; ROOM when there is no room for it. */
        private int positionOf(long row) {
            for (int position = 0; position < count; position++) {
                if (rows[position] == row) {
                    return position;
                }
            }
            if (count >= MOST_POSITIONS) {
                return ROOM;
            }
            rows[count] = row;
            count++;
            return count - 1;
        }

        int follower(int position, int input, int output) {
            return followers[position * LETTERS + input + SIGNALS * output];
        }

        /** Finds the positions that are safe for this player, and whether the beginning is. */
        boolean isWonBy(int player) {
            for (int position = 0; position < count; position++) {
                safe[position] = true;
            }
            safeCount = count;
            boolean changed = true;
            for (int round = 0; round <= MOST_POSITIONS && changed; round++) {
                changed = dropUnsafe(player);
            }
            return safe[0];
        }

        private boolean dropUnsafe(int player) {
            int former = safeCount;
            for (int position = 0; position < count; position++) {
                if (safe[position] && !canStaySafe(position, player)) {
                    safe[position] = false;
                    safeCount--;
                }
            }
            return safeCount != former;
        }

        private boolean canStaySafe(int position, int player) {
            if (player == OPPONENT) {
                return safeInput(position) != NONE;
            }
            for (int input = 0; input < SIGNALS; input++) {
                if (safeOutput(position, input) == NONE) {
                    return false;
                }
            }
            return true;
        }

        private boolean isSafeBy(int position, int input, int output) {
            int to = follower(position, input, output);
            return to != NONE && safe[to];
        }

        /** The least output that keeps a machine safe, or NONE. */
        int safeOutput(int position, int input) {
            for (int output = 0; output < SIGNALS; output++) {
                if (isSafeBy(position, input, output)) {
                    return output;
                }
            }
            return NONE;
        }

        /** The least input that keeps an opponent safe, or NONE. */
        int safeInput(int position) {
            for (int input = 0; input < SIGNALS; input++) {
                boolean safeByAll = true;
                for (int output = 0; output < SIGNALS && safeByAll; output++) {
                    safeByAll = isSafeBy(position, input, output);
                }
                if (safeByAll) {
                    return input;
                }
            }
            return NONE;
        }
    }

    /** The machine or opponent of the latest solve, kept apart from the game, which changes. */
    private static final class Winner {
        private final Game game;
        private int kind = NEITHER;
        private int count;
        private int positions;
        private int safePositions;
        private final int[] positionOfState = new int[MOST_POSITIONS];
        private final int[] stateOfPosition = new int[MOST_POSITIONS];
        /** For a state and an input a machine's output, or for each number an opponent's input. */
        private final int[] answers = new int[MOST_POSITIONS * SIGNALS];
        private final int[] followers = new int[MOST_POSITIONS * SIGNALS];

        Winner(Game game) {
            this.game = game;
        }

        boolean knows(int state) {
            return state >= 0 && state < count;
        }

        void forget() {
            kind = NEITHER;
            count = 0;
            positions = 0;
            safePositions = 0;
        }

        void takeMachine() {
            begin(MACHINE);
            for (int state = 0; state < count && state < MOST_POSITIONS; state++) {
                int position = positionOfState[state];
                for (int input = 0; input < SIGNALS; input++) {
                    addStep(state, input, input, game.safeOutput(position, input));
                }
            }
        }

        void takeOpponent() {
            begin(OPPONENT);
            for (int state = 0; state < count && state < MOST_POSITIONS; state++) {
                int input = game.safeInput(positionOfState[state]);
                for (int output = 0; output < SIGNALS; output++) {
                    addStep(state, output, input, output);
                }
            }
        }

        private void begin(int player) {
            kind = player;
            positions = game.count;
            safePositions = game.safeCount;
            Arrays.fill(stateOfPosition, NONE);
            count = 0;
            stateOf(0);
        }

        private void addStep(int state, int by, int input, int output) {
            if (input == NONE || output == NONE) {
                return;
            }
            int cell = state * SIGNALS + by;
            answers[cell] = kind == MACHINE ? output : input;
            followers[cell] = stateOf(game.follower(positionOfState[state], input, output));
        }

        /** The state of a position, a new one if need be. */
        private int stateOf(int position) {
            if (stateOfPosition[position] == NONE) {
                positionOfState[count] = position;
                stateOfPosition[position] = count;
                count++;
            }
            return stateOfPosition[position];
        }
    }
}
