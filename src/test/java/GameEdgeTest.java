/** The sentences of "Terms" on automata, games and solving that name an edge, but for those on room. */
public final class GameEdgeTest extends Check {

    /** For ever again and again BIT a, and for ever again and again BIT b (or NO BIT of them). */
    private static int againAndAgain(MachineMaker m, int a, int b) {
        int yes = m.formula(TRUE, 0, 0);
        int both = m.formula(AND, m.formula(UNTIL, yes, a), m.formula(UNTIL, yes, b));
        return m.formula(RELEASE, m.formula(FALSE, 0, 0), both);
    }

    // ---- The automaton

    private static void statesAreSetsAndNumbers() {
        sentence("its STATES are a set of formulas and a number");
        MachineMaker m = new MachineMaker();
        int f = againAndAgain(m, m.formula(BIT, 2, 0), m.formula(BIT, 3, 0));
        // the formula alone 0; with the first UNTIL 0; with the second 1; with both 0, and with both 1
        due("one set with two numbers is two states", m.states(f), 5);
    }

    private static void beginsWithTheFormulaAlone() {
        sentence("It begins with the formula alone, and 0");
        MachineMaker m = of(new int[] {FALSE, 0, 0}, new int[] {TRUE, 0, 0}, new int[] {UNTIL, 1, 0});
        due("FALSE: the beginning alone", m.states(0), 1);
        due("TRUE: the beginning, and the empty set", m.states(1), 2);
        // if it began with another number, it would come to itself with 0
        due("an UNTIL that comes to itself is the beginning", m.states(2), 1);
    }

    private static void untilsOfTheFormulaAlone() {
        sentence("UNTILS are those among the formula and its parts (and theirs, and so on)");
        MachineMaker m = of(new int[] {TRUE, 0, 0}, new int[] {BIT, 2, 0}, new int[] {BIT, 3, 0},
            new int[] {UNTIL, 0, 1}, new int[] {UNTIL, 0, 2});
        due("an UNTIL that is no part is not counted: 0 is the second one's number", m.states(4), 2);
        // the deep one counts: put off, it makes its steps not good, so the bound is never passed
        int deep = nexts(m, 3, 2);
        due("the dual of the deep one", m.solve(m.dual(deep), 1), NEITHER);
        due("two good steps, then none", m.solve(m.dual(deep), 2), MACHINE);
    }

    private static void untilsByAscendingNumbers() {
        sentence("by ascending numbers");
        MachineMaker m = of(new int[] {BIT, 2, 0}, new int[] {BIT, 3, 0}, new int[] {UNTIL, 0, 1},
            new int[] {UNTIL, 1, 2});
        // the part is the first UNTIL, the whole the second: the whole 0 and, put off, 1; the part 0; none 0
        due("the whole comes to itself with 1", m.states(3), 4);
    }

    private static void thereAreNOfThem() {
        sentence("there are n of them");
        MachineMaker m = of(new int[] {BIT, 2, 0}, new int[] {BIT, 3, 0}, new int[] {TRUE, 0, 0},
            new int[] {UNTIL, 0, 1}, new int[] {UNTIL, 1, 0}, new int[] {UNTIL, 2, 0}, new int[] {UNTIL, 2, 1});
        int two = m.formula(RELEASE, m.formula(FALSE, 0, 0), m.formula(AND, 5, 6));
        // the third of these three is the first of the two that are asked about next
        due("three UNTILS", m.states(chain(m, AND, 3, 4, 5)), 9);
        due("the third one is not one of two", m.states(two), 5);
        due("a machine puts both off for ever", m.solve(m.dual(two), 0), MACHINE);
        dueSizes("two UNTILS after three", m, 2, 6, 6);
    }

    private static void fromItsOwnNumberOn() {
        sentence("from its own number on, the first of the UNTILS that is put off");
        MachineMaker m = new MachineMaker();
        int f = againAndAgain(m, m.formula(BIT, 0, 0), m.formula(NO_BIT, 0, 0));
        // by each letter one of the two is put off; once it is the lower one in a state with number 1,
        // the step is good all the same, so that no machine can win against inputs that change
        due("those below its number are not looked at, bound 0", m.solve(m.dual(f), 0), NEITHER);
        for (int bound = 1; bound <= 3; bound++) {
            due("those below its number are not looked at, bound " + bound, m.solve(m.dual(f), bound), OPPONENT);
        }
        MachineMaker own = of(new int[] {TRUE, 0, 0}, new int[] {BIT, 2, 0}, new int[] {UNTIL, 0, 1});
        due("its own is looked at: to put off for ever is no good step", own.solve(own.dual(2), 0), MACHINE);
        dueSizes("its own", own, 1, 1, 1);
    }

    private static void goodWhenNoneIsPutOff() {
        sentence("if none is, it is 0, and the step is GOOD");
        MachineMaker m = withNoUntils();
        due("no UNTILS at all: each step is good, two pass the bound 1", m.solve(2, 1), NEITHER);
        due("two do not pass the bound 2", m.solve(2, 2), MACHINE);
        MachineMaker two = new MachineMaker();
        int f = againAndAgain(two, two.formula(BIT, 2, 0), two.formula(BIT, 3, 0));
        due("a machine puts both off for ever", two.solve(two.dual(f), 0), MACHINE);
        // with states 0, a (first put off), b (second, number 1), c (both) and d (both, number 1) the positions
        // without a good step are 0, c, bc, ac, cd, bcd; by BIT 3 alone b and d make a good one
        dueSizes("two UNTILS with bound 0", two, 2, 6, 6);
    }

    /** BIT 2 at the place after the next one. */
    private static MachineMaker withNoUntils() {
        return of(new int[] {BIT, 2, 0}, new int[] {NEXT, 0, 0}, new int[] {NEXT, 1, 0});
    }

    // ---- The game

    private static void countersFromBelowToTheBound() {
        sentence("If one would be greater than K, the game is LOST");
        MachineMaker m = withNoUntils();
        int third = m.formula(NEXT, 2, 0);
        int fourth = m.formula(NEXT, third, 0);
        // n NEXTs are n good steps, so the counter comes to n ahead of the output that ends them
        int[][] due = {{0, 0}, {1, 1}, {2, 2}, {third, 3}};
        for (int[] row : due) {
            due(row[1] + " good steps, bound " + row[1], m.solve(row[0], row[1]), MACHINE);
            due(row[1] + " good steps, positions", m.size(1), row[1] + 2);
            if (row[1] > 0) {
                due(row[1] + " good steps, bound " + (row[1] - 1), m.solve(row[0], row[1] - 1), NEITHER);
            }
        }
        due("4 good steps, bound 3", m.solve(fourth, 3), NEITHER);
    }

    private static void onlyTheBeginningAtFirst() {
        sentence("At first the beginning's is 0, others -1");
        MachineMaker m = withNoUntils();
        // the beginning 0; then the formula below it 1; the lowest 2; no counter, or the empty set's 3
        due("two NEXTs with bound 3", m.solve(2, 3), MACHINE);
        dueSizes("two NEXTs with bound 3", m, 4, 5, 4);
        due("two NEXTs with bound 2", m.solve(2, 2), MACHINE);
        dueSizes("two NEXTs with bound 2", m, 4, 4, 4);
    }

    private static void theGreatestCounts() {
        sentence("the greatest of the counters not below 0 of the states from which a step leads to it");
        // never output 0; the game of BIT 2 at last: the empty set has 1 from the beginning, 2 from itself
        MachineMaker m = of(new int[] {FALSE, 0, 0}, new int[] {NO_BIT, 2, 0}, new int[] {RELEASE, 0, 1});
        for (int bound = 0; bound <= 3; bound++) {
            due("bound " + bound, m.solve(2, bound), MACHINE);
            dueSizes("the empty set's counter grows, bound " + bound, m, 1, bound + 1, 1);
        }
    }

    private static void aGoodOneCounts() {
        sentence("each 1 more if the step is good (if there are several steps, a good one counts)");
        MachineMaker m = of(new int[] {TRUE, 0, 0}, new int[] {BIT, 2, 0}, new int[] {UNTIL, 0, 1},
            new int[] {NEXT, 2, 0}, new int[] {OR, 3, 2});
        int f = m.dual(4);
        // to the UNTIL by NEXT it is good, by putting off it is not
        due("lost by the first step with bound 0", m.solve(f, 0), NEITHER);
        due("not lost with bound 1", m.solve(f, 1), MACHINE);
        dueTable("bound 1", m, new int[][] {{0, 0, 0, 0}, {0, 0, 0, 0}}, new int[][] {{1, 1, 1, 1}, {1, 1, 1, 1}});
        MachineMaker other = of(new int[] {TRUE, 0, 0}, new int[] {BIT, 2, 0}, new int[] {UNTIL, 0, 1},
            new int[] {NEXT, 2, 0}, new int[] {OR, 2, 3});
        due("the other way round, bound 0", other.solve(other.dual(4), 0), NEITHER);
    }

    private static void noneLeadsToIt() {
        sentence("-1 if there are none");
        MachineMaker m = of(new int[] {BIT, 2, 0});
        for (int bound = 0; bound <= 3; bound++) {
            due("bound " + bound, m.solve(0, bound), MACHINE);
            // the beginning, no counter at all, and the empty set's from 1 to the bound
            dueSizes("bound " + bound, m, 2, bound + 2, 2);
            due("no counter at all stays so", m.next(1, 3), 1);
        }
    }

    private static void byAnyLetters() {
        sentence("A POSITION is a row of counters that can be come to, by any letters, without being lost");
        MachineMaker m = of(new int[] {BIT, 0, 0}, new int[] {BIT, 2, 0}, new int[] {OR, 0, 1});
        due("BIT 0 or BIT 2, bound 0", m.solve(2, 0), MACHINE);
        dueSizes("the lost ones are not positions", m, 2, 2, 2);
        due("bound 3", m.solve(2, 3), MACHINE);
        dueSizes("those that the machine never comes to are", m, 2, 5, 2);
    }

    // ---- Safe positions

    private static void safeForEachInput() {
        sentence("for each input there is an output by whose letter a position of the set comes");
        for (int input = 0; input <= 3; input++) {
            MachineMaker m = new MachineMaker();
            int other = m.formula(OR, m.formula((input & 1) == 0 ? BIT : NO_BIT, 0, 0),
                m.formula((input & 2) == 0 ? BIT : NO_BIT, 1, 0));
            due("no output for input " + input, m.solve(other, 0), OPPONENT);
            due("that is the one that is given", m.gives(0, 0), input);
            int saved = m.formula(OR, other, m.formula(AND, m.formula(BIT, 2, 0), m.formula(BIT, 3, 0)));
            due("output 3 alone for input " + input, m.solve(saved, 0), MACHINE);
            due("that is the answer", m.gives(0, input), 3);
        }
    }

    private static void safeForEachOutput() {
        sentence("there is an input with which for each output a position of the set comes");
        for (int output = 0; output <= 3; output++) {
            MachineMaker m = new MachineMaker();
            int exact = m.formula(AND, m.formula((output & 1) != 0 ? BIT : NO_BIT, 2, 0),
                m.formula((output & 2) != 0 ? BIT : NO_BIT, 3, 0));
            // after this output alone four good steps come, which is too many for either
            int f = m.formula(AND, exact, nexts(m, exact, 4));
            due("only output " + output + " is lost", m.solve(f, 3), NEITHER);
            dueNeither("only output " + output + " is lost", m);
            int atOnce = m.formula(AND, exact, m.formula(NEXT, exact, 0));
            due("only output " + output + " is lost at once", m.solve(atOnce, 0), NEITHER);
        }
    }

    // ---- Who wins, and how

    private static void leastOutput() {
        sentence("it answers the least output by which a safe position comes");
        MachineMaker m = of(new int[] {TRUE, 0, 0}, new int[] {BIT, 2, 0}, new int[] {BIT, 3, 0},
            new int[] {AND, 1, 2});
        for (int f = 0; f <= 3; f++) {
            due("a machine whose least output is " + f, m.solve(f, 1), MACHINE);
            dueTable("least output " + f, m, new int[][] {{f, f, f, f}, {0, 0, 0, 0}},
                new int[][] {{1, 1, 1, 1}, {1, 1, 1, 1}});
        }
        int none = m.formula(AND, m.formula(NO_BIT, 2, 0), m.formula(NO_BIT, 3, 0));
        due("output 0 alone, then 3 alone", m.solve(m.formula(AND, none, m.formula(NEXT, 3, 0)), 1), MACHINE);
        dueTable("0, then 3", m, new int[][] {{0, 0, 0, 0}, {3, 3, 3, 3}, {0, 0, 0, 0}},
            new int[][] {{1, 1, 1, 1}, {2, 2, 2, 2}, {2, 2, 2, 2}});
    }

    private static void leastInput() {
        sentence("at each it gives the least input with which for each output a safe position comes");
        MachineMaker m = of(new int[] {FALSE, 0, 0}, new int[] {NO_BIT, 0, 0}, new int[] {NO_BIT, 1, 0},
            new int[] {OR, 1, 2});
        for (int f = 0; f <= 3; f++) {
            due("an opponent whose least input is " + f, m.solve(f, 1), OPPONENT);
            dueTable("least input " + f, m, new int[][] {{f, f, f, f}, {0, 0, 0, 0}},
                new int[][] {{1, 1, 1, 1}, {1, 1, 1, 1}});
        }
    }

    /** Output 0 says what an input bit was some steps ahead; answers the formula, which a machine has. */
    private static int echo(MachineMaker m, int bit, int steps) {
        int set = m.formula(AND, m.formula(BIT, bit, 0), nexts(m, m.formula(NO_BIT, 2, 0), steps));
        int unset = m.formula(AND, m.formula(NO_BIT, bit, 0), nexts(m, m.formula(BIT, 2, 0), steps));
        return m.dual(m.formula(UNTIL, m.formula(TRUE, 0, 0), m.formula(OR, set, unset)));
    }

    private static void numberedAsTheyAreComeTo() {
        sentence("its states are positions, numbered as they are come to: 0 the beginning");
        MachineMaker m = new MachineMaker();
        due("input 1 one step ahead", m.solve(echo(m, 1, 1), 1), MACHINE);
        dueSizes("input 1 one step ahead", m, 3, 3, 3);
        dueTable("input 1 one step ahead", m, new int[][] {{0, 0, 0, 0}, {0, 0, 0, 0}, {1, 1, 1, 1}},
            new int[][] {{1, 1, 2, 2}, {1, 1, 2, 2}, {1, 1, 2, 2}});
        sentence("from each, in the order of the numbers, for the inputs 0 .. 3");
        m = new MachineMaker();
        due("input 0 two steps ahead", m.solve(echo(m, 0, 2), 2), MACHINE);
        // 1 and 2 have seen one input; 3 to 6 keep the last two
        dueTable("input 0 two steps ahead", m, new int[][] {{0, 0, 0, 0}, {0, 0, 0, 0}, {0, 0, 0, 0}, {0, 0, 0, 0},
            {0, 0, 0, 0}, {1, 1, 1, 1}, {1, 1, 1, 1}}, new int[][] {{1, 2, 1, 2}, {3, 4, 3, 4}, {5, 6, 5, 6},
            {3, 4, 3, 4}, {5, 6, 5, 6}, {3, 4, 3, 4}, {5, 6, 5, 6}});
    }

    private static void opponentNumberedLikewise() {
        sentence("its states likewise");
        // output 0 has to say what input 1 will be one step later, which nobody can
        MachineMaker m = new MachineMaker();
        int one = m.formula(AND, m.formula(BIT, 2, 0), m.formula(NEXT, m.formula(BIT, 1, 0), 0));
        int nought = m.formula(AND, m.formula(NO_BIT, 2, 0), m.formula(NEXT, m.formula(NO_BIT, 1, 0), 0));
        due("an opponent", m.solve(m.formula(OR, one, nought), 1), OPPONENT);
        dueTable("what will be one step later", m,
            new int[][] {{0, 0, 0, 0}, {2, 2, 2, 2}, {0, 0, 0, 0}, {0, 0, 0, 0}},
            new int[][] {{1, 2, 1, 2}, {3, 3, 3, 3}, {3, 3, 3, 3}, {3, 3, 3, 3}});
    }

    private static void otherwiseNeither() {
        sentence("Otherwise neither");
        MachineMaker m = withNoUntils();
        due("first a machine", m.solve(2, 3), MACHINE);
        due("then neither", m.solve(2, 0), NEITHER);
        dueNeither("neither", m);
    }

    public static void main(String[] args) {
        statesAreSetsAndNumbers();
        beginsWithTheFormulaAlone();
        untilsOfTheFormulaAlone();
        untilsByAscendingNumbers();
        thereAreNOfThem();
        fromItsOwnNumberOn();
        goodWhenNoneIsPutOff();
        countersFromBelowToTheBound();
        onlyTheBeginningAtFirst();
        theGreatestCounts();
        aGoodOneCounts();
        noneLeadsToIt();
        byAnyLetters();
        safeForEachInput();
        safeForEachOutput();
        leastOutput();
        leastInput();
        numberedAsTheyAreComeTo();
        opponentNumberedLikewise();
        otherwiseNeither();
        finish("each edge of automata and games holds");
    }
}
