import java.util.Arrays;

/** Runs of calls that a counting rule chooses, on the program and on the model: all answers are alike. */
public final class ModelTest {

    private long seed;
    private MachineMaker maker;
    private Model model;
    private final int[] seen = new int[16];
    private int wrong;

    /** A number 0 .. bound - 1 from a fixed rule, so that each run is the same each time. */
    private int pick(int bound) {
        seed = seed * 6364136223846793005L + 1442695040888963407L;
        return (int) ((seed >>> 33) % bound);
    }

    private void compare(int run, String call, int got, int want) {
        if (got != want) {
            wrong++;
            System.out.println("run " + run + ": " + call + " answered " + got + ", the model " + want);
        }
    }

    /** A number of a formula, now and then one that is not there; late ones more often. */
    private int someFormula() {
        int count = model.list.size();
        if (pick(40) == 0) {
            return pick(2) == 0 ? count + pick(3) : -1 - pick(3);
        }
        if (count == 0) {
            return 0;
        }
        return pick(2) == 0 ? count - 1 - pick(Math.min(count, 3)) : pick(count);
    }

    private void makeFormula(int run, int style) {
        int[][] kinds = {
            {0, 1, 2, 3, 4, 5, 6, 7, 8},
            {2, 2, 3, 3, 4, 5, 5, 7, 8, 8},
            {2, 3, 4, 4, 5, 6, 6, 7, 8},
            {0, 1, 2, 3, 4, 5, 7, 7, 8, 8},
            {2, 3, 4, 5, 6, 6, 6, 8},
        };
        int[] row = kinds[style];
        int kind = pick(40) == 0 ? pick(14) - 2 : row[pick(row.length)];
        int a = kind == 2 || kind == 3 ? (pick(30) == 0 ? pick(8) - 2 : pick(4)) : someFormula();
        int b = someFormula();
        compare(run, "formula(" + kind + ", " + a + ", " + b + ")", maker.formula(kind, a, b),
            model.formula(kind, a, b));
    }

    private void solveAndLook(int run) {
        int f = someFormula();
        int bound = pick(30) == 0 ? pick(8) - 2 : pick(4);
        int want = model.solve(f, bound);
        compare(run, "solve(" + f + ", " + bound + ")", maker.solve(f, bound), want);
        seen[want + 3]++;
        look(run);
        for (int by = 0; by < 4 && want > 0; by++) {
            followWinner(run, f, by, want == 1);
        }
    }

    /** What comes when one input is given for ever to a machine, or one output to an opponent: who wins is right. */
    private void followWinner(int run, int f, int by, boolean machine) {
        int[] cameAt = new int[maker.size(0)];
        Arrays.fill(cameAt, -1);
        int[] letters = new int[maker.size(0)];
        int state = 0;
        int place = 0;
        while (cameAt[state] < 0) {
            cameAt[state] = place;
            letters[place] = machine ? by + 4 * maker.gives(state, by) : maker.gives(state, by) + 4 * by;
            state = maker.next(state, by);
            place++;
        }
        int n = cameAt[state];
        if (n > 8 || place - n > 8) {
            return;
        }
        long first = 0;
        long again = 0;
        for (int i = 0; i < place; i++) {
            first |= i < n ? (long) letters[i] << 4 * i : 0L;
            again |= i >= n ? (long) letters[i] << 4 * (i - n) : 0L;
        }
        compare(run, "the winner of " + f + " by " + by, maker.has(f, first, n, again, place - n), machine ? 1 : 0);
    }

    private void look(int run) {
        for (int what = -1; what <= 3; what++) {
            compare(run, "size(" + what + ")", maker.size(what), model.size(what));
        }
        for (int state = -1; state <= model.size(0); state++) {
            for (int by = -1; by <= 4; by++) {
                compare(run, "gives(" + state + ", " + by + ")", maker.gives(state, by), model.gives(state, by));
                compare(run, "next(" + state + ", " + by + ")", maker.next(state, by), model.next(state, by));
            }
        }
    }

    private void ask(int run) {
        int f = someFormula();
        switch (pick(6)) {
            case 0 -> compare(run, "dual(" + f + ")", maker.dual(f), model.dual(f));
            case 1 -> compare(run, "states(" + f + ")", maker.states(f), model.states(f));
            case 2, 3 -> {
                int letter = pick(20) == 0 ? pick(20) - 2 : pick(16);
                compare(run, "ways(" + f + ", " + letter + ")", maker.ways(f, letter), model.ways(f, letter));
            }
            default -> askWord(run, f);
        }
        compare(run, "formulas()", maker.formulas(), model.list.size());
    }

    private void askWord(int run, int f) {
        int n = pick(20) == 0 ? pick(14) - 2 : pick(9);
        int m = pick(20) == 0 ? pick(14) - 2 : 1 + pick(8);
        long first = (long) pick(Integer.MAX_VALUE) << 20 ^ pick(Integer.MAX_VALUE) ^ (long) pick(4) << 62;
        long again = (long) pick(Integer.MAX_VALUE) << 20 ^ pick(Integer.MAX_VALUE) ^ (long) pick(4) << 62;
        int got = maker.has(f, first, n, again, m);
        compare(run, "has(" + f + ", " + first + ", " + n + ", " + again + ", " + m + ")", got,
            model.has(f, first, n, again, m));
        // the automaton of the model says the same as the word: the document's own claim
        if (got >= 0 && pick(8) == 0) {
            try {
                compare(run, "accepts " + f, got, model.accepts(f, first, n, again, m) ? 1 : 0);
            } catch (Model.NoRoom e) {
                // nothing to compare
            }
        }
    }

    private void oneRun(int run) {
        seed = run * 7919L + 17;
        maker = new MachineMaker();
        model = new Model();
        look(run);
        int style = pick(5);
        int makes = 4 + pick(30);
        for (int i = 0; i < makes; i++) {
            makeFormula(run, style);
            if (pick(3) == 0) {
                ask(run);
            }
        }
        for (int i = 0; i < 4; i++) {
            solveAndLook(run);
            ask(run);
            makeFormula(run, style);
        }
        look(run);
    }

    public static void main(String[] args) {
        ModelTest test = new ModelTest();
        int from = args.length > 1 ? Integer.parseInt(args[1]) : 0;
        int runs = args.length > 0 ? Integer.parseInt(args[0]) : 1500;
        for (int run = from; run < from + runs; run++) {
            test.oneRun(run);
        }
        System.out.println("solved: no room " + test.seen[1] + ", bad " + test.seen[2] + ", neither "
            + test.seen[3] + ", machine " + test.seen[4] + ", opponent " + test.seen[5]);
        System.out.println(test.wrong == 0 ? "program and model agree" : test.wrong + " answers differ");
        if (test.wrong != 0) {
            System.exit(1);
        }
    }
}
