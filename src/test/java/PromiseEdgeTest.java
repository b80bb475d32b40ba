/** The sentences of the promises 1 to 11 that name an edge: one test for each, headed by its words. */
public final class PromiseEdgeTest extends Check {
    private static final int[] NO_FORMULA_OF_ONE = {-1, 1, 2, 27, 28, LEAST, GREATEST};

    // ---- Promise 1

    private static void newObject() {
        sentence("No formulas; nothing was solved");
        MachineMaker m = new MachineMaker();
        due("formulas", m.formulas(), 0);
        dueNeither("nothing was solved", m);
        due("no formula 0: dual", m.dual(0), BAD);
        due("no formula 0: has", m.has(0, 0L, 0, 0L, 1), BAD);
        due("no formula 0: ways", m.ways(0, 0), BAD);
        due("no formula 0: states", m.states(0), BAD);
        due("no formula 0: solve", m.solve(0, 0), BAD);
        due("no formula 0: NEXT", m.formula(NEXT, 0, 0), BAD);
        due("no formula 0: AND", m.formula(AND, 0, 0), BAD);
        due("still no formulas", m.formulas(), 0);
        dueNeither("still nothing was solved", m);
        MachineMaker other = of(new int[] {BIT, 2, 0});
        due("another object solves", other.solve(0, 0), MACHINE);
        due("this one has no formulas for that", m.formulas(), 0);
        dueNeither("this one did not solve", m);
        due("nor has a third", new MachineMaker().formulas(), 0);
    }

    // ---- Promise 2

    private static void kindBounds() {
        sentence("A formula of a kind 0 .. 8");
        MachineMaker m = of(new int[] {BIT, 0, 0});
        for (int kind : new int[] {-1, 9, 10, LEAST, GREATEST}) {
            due("kind " + kind, m.formula(kind, 0, 0), BAD);
        }
        due("nothing was made", m.formulas(), 1);
        due("kind 0", m.formula(0, 0, 0), 1);
        due("kind 8", m.formula(8, 0, 0), 2);
    }

    private static void bitBounds() {
        sentence("of a bit a (2, 3)");
        MachineMaker m = new MachineMaker();
        for (int kind : new int[] {BIT, NO_BIT}) {
            for (int bit : new int[] {-1, 4, 28, LEAST, GREATEST}) {
                due("kind " + kind + " of bit " + bit, m.formula(kind, bit, 0), BAD);
            }
        }
        due("nothing was made", m.formulas(), 0);
        for (int bit = 0; bit <= 3; bit++) {
            due("BIT " + bit + ", no formula is looked at", m.formula(BIT, bit, 99), 2 * bit);
            due("NO BIT " + bit, m.formula(NO_BIT, bit, -99), 2 * bit + 1);
        }
    }

    private static void partBounds() {
        sentence("one formula a (6) or two, a and b (4, 5, 7, 8)");
        MachineMaker m = of(new int[] {BIT, 0, 0});
        for (int none : NO_FORMULA_OF_ONE) {
            due("NEXT of " + none, m.formula(NEXT, none, 0), BAD);
            for (int kind : new int[] {AND, OR, UNTIL, RELEASE}) {
                due("kind " + kind + " of " + none + " and 0", m.formula(kind, none, 0), BAD);
                due("kind " + kind + " of 0 and " + none, m.formula(kind, 0, none), BAD);
                due("kind " + kind + " of " + none + " twice", m.formula(kind, none, none), BAD);
            }
        }
        due("nothing was made", m.formulas(), 1);
        due("of the last one", m.formula(AND, 0, 0), 1);
        due("of the last one, which was just made", m.formula(UNTIL, 1, 1), 2);
        due("of the one that would be made", m.formula(RELEASE, 3, 0), BAD);
        due("as the second part", m.formula(OR, 0, 3), BAD);
    }

    private static void whatAKindDoesNotLookAt() {
        sentence("A formula of a kind 0 .. 8, of a bit a (2, 3), one formula a (6)");
        MachineMaker m = new MachineMaker();
        due("TRUE", m.formula(TRUE, LEAST, GREATEST), 0);
        due("FALSE", m.formula(FALSE, GREATEST, LEAST), 1);
        due("BIT 3", m.formula(BIT, 3, LEAST), 2);
        due("NO BIT 3", m.formula(NO_BIT, 3, GREATEST), 3);
        due("NEXT", m.formula(NEXT, 3, LEAST), 4);
        due("TRUE again", m.formula(TRUE, 1, 2), 0);
        due("FALSE again", m.formula(FALSE, 3, 4), 1);
        due("BIT 3 again", m.formula(BIT, 3, 5), 2);
        due("NO BIT 3 again", m.formula(NO_BIT, 3, 6), 3);
        due("NEXT again", m.formula(NEXT, 3, 7), 4);
    }

    private static void fullOfFormulas() {
        sentence("ROOM when it is not there yet, and there are 28");
        MachineMaker m = withFormulas(27);
        due("the 28th", m.formula(UNTIL, 0, 26), 27);
        int[][] fresh = {{TRUE, 0, 0}, {FALSE, 0, 0}, {BIT, 1, 0}, {NO_BIT, 0, 0}, {AND, 0, 0}, {OR, 27, 27},
            {NEXT, 27, 0}, {UNTIL, 26, 0}, {RELEASE, 0, 26}};
        for (int[] call : fresh) {
            due("kind " + call[0] + " when full", m.formula(call[0], call[1], call[2]), ROOM);
        }
        due("BIT 0 is there", m.formula(BIT, 0, 0), 0);
        due("NEXT is there", m.formula(NEXT, 25, 0), 26);
        due("UNTIL is there", m.formula(UNTIL, 0, 26), 27);
        sentence("BAD when kind, bit or a formula is not so");
        due("kind, when full", m.formula(9, 0, 0), BAD);
        due("bit, when full", m.formula(NO_BIT, 4, 0), BAD);
        due("first formula, when full", m.formula(AND, 28, 0), BAD);
        due("second formula, when full", m.formula(AND, 0, 28), BAD);
        due("still 28", m.formulas(), 28);
    }

    private static void fullAndAsked() {
        sentence("ROOM when it is not there yet, and there are 28");
        MachineMaker m = withFormulas(26);
        m.formula(NO_BIT, 0, 0);
        m.formula(NEXT, 26, 0);
        due("full", m.formula(TRUE, 0, 0), ROOM);
        due("formulas", m.formulas(), 28);
        due("a dual that is there", m.dual(1), 27);
        due("and back", m.dual(27), 1);
        due("has", m.has(27, 0L, 1, 0L, 1), 1);
        due("ways", m.ways(27, 0), 1);
        due("states", m.states(27), 3);
        due("solve one whose dual is there", m.solve(27, 1), OPPONENT);
        dueTable("its opponent", m, new int[][] {{0, 0, 0, 0}, {1, 1, 1, 1}, {0, 0, 0, 0}},
            new int[][] {{1, 1, 1, 1}, {2, 2, 2, 2}, {2, 2, 2, 2}});
    }

    // ---- Promise 3

    private static void dualOfNoFormula() {
        sentence("BAD when there is no such formula");
        MachineMaker m = of(new int[] {BIT, 0, 0});
        for (int none : NO_FORMULA_OF_ONE) {
            due("dual of " + none, m.dual(none), BAD);
        }
        due("nothing was made", m.formulas(), 1);
        due("dual of 0", m.dual(0), 1);
        due("dual of 1, which is there now", m.dual(1), 0);
        MachineMaker full = withFormulas(28);
        due("dual of 28, when full", full.dual(28), BAD);
        due("dual of -1, when full", full.dual(-1), BAD);
    }

    private static void dualPartsFirst() {
        sentence("it is made, its parts first (those of the first part first), as far as it is not there");
        MachineMaker m = of(new int[] {TRUE, 0, 0}, new int[] {BIT, 1, 0}, new int[] {UNTIL, 0, 1},
            new int[] {NEXT, 1, 0}, new int[] {AND, 2, 3});
        due("dual of AND of UNTIL and NEXT", m.dual(4), 9);
        due("FALSE first", m.formula(FALSE, 0, 0), 5);
        due("then NO BIT", m.formula(NO_BIT, 1, 0), 6);
        due("then RELEASE of them", m.formula(RELEASE, 5, 6), 7);
        due("then NEXT", m.formula(NEXT, 6, 0), 8);
        due("then OR", m.formula(OR, 7, 8), 9);
        due("made once", m.dual(4), 9);
        due("10", m.formulas(), 10);
        MachineMaker turned = of(new int[] {BIT, 1, 0}, new int[] {BIT, 2, 0}, new int[] {OR, 1, 0});
        due("the first part has the greater number", turned.dual(2), 5);
        due("its dual is made first", turned.formula(NO_BIT, 2, 0), 3);
        MachineMaker partly = of(new int[] {NO_BIT, 1, 0}, new int[] {BIT, 1, 0}, new int[] {NEXT, 1, 0});
        due("only what is not there is made", partly.dual(2), 3);
        due("one alone", partly.formulas(), 4);
    }

    private static void dualWithoutRoom() {
        sentence("ROOM when there were more than 28 then: what was made of it stays");
        MachineMaker m = withFormulas(14);
        due("14 more are 28", m.dual(13), 27);
        m = of(new int[] {TRUE, 0, 0});
        nexts(m, m.formula(BIT, 0, 0), 13);
        due("14 more are 29", m.dual(14), ROOM);
        due("13 were made", m.formulas(), 28);
        due("NO BIT stays", m.formula(NO_BIT, 0, 0), 15);
        due("the last NEXT stays", m.formula(NEXT, 26, 0), 27);
        due("the dual that stands one below", m.dual(13), 27);
        due("asked again", m.dual(14), ROOM);
        due("its last part's dual has its own dual", m.dual(27), 13);
        MachineMaker first = withFormulas(25);
        int b1 = first.formula(BIT, 1, 0);
        int both = first.formula(AND, b1, 0);
        due("no room for the second part's", first.dual(both), ROOM);
        due("the first part's was made", first.formula(NO_BIT, 1, 0), 27);
        due("not the second part's", first.formula(NO_BIT, 0, 0), ROOM);
        MachineMaker full = withFormulas(28);
        due("no room at all", full.dual(0), ROOM);
        due("28 as before", full.formulas(), 28);
    }

    private static void dualOfADeepOne() {
        sentence("ROOM when there were more than 28 then: what was made of it stays");
        MachineMaker m = withFormulas(25);
        due("24 NEXTs", m.dual(24), ROOM);
        due("three were made", m.formulas(), 28);
        due("the lowest first", m.dual(0), 25);
        due("then the two above", m.dual(2), 27);
        m = withFormulas(27);
        due("26 NEXTs", m.dual(26), ROOM);
        due("NO BIT was made", m.formula(NO_BIT, 0, 0), 27);
        MachineMaker second = of(new int[] {BIT, 0, 0});
        int top = 0;
        for (int i = 0; i < 24; i++) {
            top = second.formula(AND, 0, top);
        }
        due("24 ANDs, deep in the second part", second.dual(top), ROOM);
        due("NO BIT and two ORs were made", second.formulas(), 28);
        due("the ORs are those of the lowest ANDs", second.dual(2), 27);
    }

    // ---- Promise 4

    private static void countsOfFormulas() {
        sentence("How many formulas there are");
        MachineMaker m = new MachineMaker();
        for (int count = 0; count <= 28; count++) {
            due("formulas", m.formulas(), count);
            m.formula(count == 0 ? BIT : NEXT, count == 0 ? 0 : count - 1, 0);
        }
        due("never more than 28", m.formulas(), 28);
        m = of(new int[] {BIT, 0, 0}, new int[] {BIT, 0, 0}, new int[] {BIT, 4, 0}, new int[] {NEXT, 0, 0});
        due("one alike and a refused one", m.formulas(), 2);
        m.dual(0);
        due("a dual", m.formulas(), 3);
        m.solve(1, 4);
        due("a refused solve makes none", m.formulas(), 3);
        m.solve(1, 0);
        due("a solve makes the dual", m.formulas(), 4);
        m.has(1, 0L, 0, 0L, 1);
        m.ways(1, 0);
        m.states(1);
        due("asking makes none", m.formulas(), 4);
    }

    // ---- Promise 5

    private static void wordLengths() {
        sentence("BAD when there is no such formula, n is not 0 .. 8, or m not 1 .. 8");
        MachineMaker m = of(new int[] {TRUE, 0, 0});
        for (int none : NO_FORMULA_OF_ONE) {
            due("formula " + none, m.has(none, 0L, 0, 0L, 1), BAD);
        }
        for (int n : new int[] {-1, 9, LEAST, GREATEST}) {
            due("n = " + n, m.has(0, 0L, n, 0L, 1), BAD);
        }
        for (int length : new int[] {0, -1, 9, LEAST, GREATEST}) {
            due("m = " + length, m.has(0, 0L, 0, 0L, length), BAD);
        }
        for (int n = 0; n <= 8; n++) {
            for (int length = 1; length <= 8; length++) {
                due("n = " + n + ", m = " + length, m.has(0, 0L, n, 0L, length), 1);
            }
        }
        due("nothing is made", m.formulas(), 1);
    }

    private static void wordLetters() {
        sentence("begins with n letters, four bits each in a number, the lowest first");
        MachineMaker m = of(new int[] {BIT, 3, 0});
        int eighth = nexts(m, 0, 7);
        int ninth = nexts(m, eighth, 1);
        due("no first letters: the number is not looked at", m.has(0, -1L, 0, 0L, 1), 0);
        due("the eighth of the first letters", m.has(eighth, 0x80000000L, 8, 0L, 1), 1);
        due("its lower bits are not it", m.has(eighth, 0x7FFFFFFFL, 8, 0L, 1), 0);
        due("what is above the eighth is not looked at", m.has(ninth, -1L << 32, 8, 0L, 1), 0);
        due("a number below 0", m.has(eighth, Long.MIN_VALUE, 8, 0L, 1), 0);
        due("seven letters: the eighth is a repeated one", m.has(eighth, -1L, 7, 0L, 1), 0);
        sentence("and then for ever repeats m letters, likewise");
        due("the eighth of the repeated letters", m.has(eighth, 0L, 0, 0x80000000L, 8), 1);
        due("what is above the eighth", m.has(ninth, 0L, 0, -1L << 32, 8), 0);
        due("the ninth place is the first again", m.has(ninth, 0L, 0, 0x8L, 8), 1);
        due("one letter for ever, what is above is not looked at", m.has(ninth, 0L, 0, ~15L, 1), 0);
        due("seven letters: the ninth place is the second again", m.has(ninth, 0L, 0, 0x80L, 7), 1);
        due("eight and eight: the ninth place", m.has(ninth, 0L, 8, 0x8L, 8), 1);
        MachineMaker far = of(new int[] {BIT, 3, 0});
        due("eight and eight: place 16 is place 8", far.has(nexts(far, 0, 16), 8L, 8, 0x00000008L, 8), 1);
        due("eight and eight: place 16 is not place 0", far.has(nexts(far, 0, 16), 8L, 8, 0x88888880L, 8), 0);
        due("eight and eight: place 15 is the last", far.has(nexts(far, 0, 15), 0L, 8, 0x80000000L, 8), 1);
    }

    // ---- Promises 6 and 7

    private static void waysRefused() {
        sentence("BAD when there is no such formula or letter");
        MachineMaker m = of(new int[] {BIT, 0, 0});
        for (int none : NO_FORMULA_OF_ONE) {
            due("ways of " + none, m.ways(none, 0), BAD);
        }
        for (int letter : new int[] {-1, 16, LEAST, GREATEST}) {
            due("ways by " + letter, m.ways(0, letter), BAD);
        }
        due("by the last letter", m.ways(0, 15), 1);
        due("by the first letter", m.ways(0, 0), 0);
    }

    /** Three choices, of 3, 4 and 5 NEXTs, are 60 ways; with one of none more, by BIT 0, 61. */
    private static void sixtyWays() {
        sentence("ROOM when it, or a part (and so on), has more than 60");
        MachineMaker m = withFormulas(13);
        int b0 = 0;
        int sixty = chain(m, AND, chain(m, OR, 1, 2, 3), chain(m, OR, 4, 5, 6, 7), chain(m, OR, 8, 9, 10, 11, 12));
        due("60 ways by letter 0", m.ways(sixty, 0), 60);
        due("60 ways by letter 15", m.ways(sixty, 15), 60);
        int more = m.formula(OR, sixty, b0);
        due("60 ways without BIT 0", m.ways(more, 14), 60);
        due("61 ways with BIT 0", m.ways(more, 15), ROOM);
        int never = m.formula(AND, m.formula(FALSE, 0, 0), more);
        due("no way, a part has 60", m.ways(never, 0), 0);
        due("no way, but a part has 61", m.ways(never, 1), ROOM);
        int later = m.formula(NEXT, never, 0);
        due("one way, the part of a part has 60", m.ways(later, 0), 1);
        due("one way, but the part of a part has 61", m.ways(later, 1), ROOM);
        due("those without it still answer", m.ways(sixty, 1), 60);
        due("BAD ahead of ROOM", m.ways(more, 31), BAD);
        sentence("or there is NO ROOM for ways");
        due("states, 61 of the formula", m.states(more), ROOM);
        due("states, 61 of a part", m.states(never), ROOM);
        due("states, 61 of the part of a part", m.states(later), ROOM);
    }

    private static void statesRefused() {
        sentence("BAD when there is no such formula");
        MachineMaker m = of(new int[] {BIT, 0, 0});
        for (int none : NO_FORMULA_OF_ONE) {
            due("states of " + none, m.states(none), BAD);
        }
        due("states of 0", m.states(0), 2);
        sentence("ROOM when there are more than 16");
        MachineMaker deep = withFormulas(28);
        due("14 NEXTs: 16", deep.states(14), 16);
        for (int f = 15; f <= 27; f++) {
            due(f + " NEXTs", deep.states(f), ROOM);
        }
        due("16 once more", deep.states(14), 16);
        due("13 NEXTs: 15", deep.states(13), 15);
        due("BAD, when full", deep.states(28), BAD);
    }

    // ---- Promise 8

    private static void solveRefused() {
        sentence("Solves a formula with a bound 0 .. 3");
        MachineMaker m = of(new int[] {BIT, 2, 0});
        for (int bound : new int[] {-1, 4, LEAST, GREATEST}) {
            due("bound " + bound, m.solve(0, bound), BAD);
        }
        sentence("BAD when a number is not so");
        for (int none : NO_FORMULA_OF_ONE) {
            due("formula " + none, m.solve(none, 0), BAD);
            due("formula " + none + " and bound 4", m.solve(none, 4), BAD);
        }
        due("no dual was made", m.formulas(), 1);
        dueNeither("nothing was solved", m);
        for (int bound = 0; bound <= 3; bound++) {
            due("bound " + bound, m.solve(0, bound), MACHINE);
            due("positions with bound " + bound, m.size(1), bound + 2);
        }
    }

    private static void solveAnswers() {
        sentence("1 there is a machine, 2 an opponent, 0 neither");
        MachineMaker m = of(new int[] {BIT, 2, 0}, new int[] {BIT, 0, 0}, new int[] {NEXT, 0, 0});
        due("output 0", m.solve(0, 0), 1);
        due("input 0", m.solve(1, 0), 2);
        due("output 0 next, which the bound does not reach", m.solve(2, 0), 0);
        due("output 0 next", m.solve(2, 1), 1);
    }

    private static void solveWithoutRoomForTheDual() {
        sentence("ROOM when there is NO ROOM (also for the DUAL, by number)");
        MachineMaker m = withFormulas(14);
        due("the dual's are 28", m.solve(13, 3), NEITHER);
        due("28", m.formulas(), 28);
        m = of(new int[] {TRUE, 0, 0});
        nexts(m, m.formula(BIT, 2, 0), 13);
        due("the dual's would be 29", m.solve(14, 3), ROOM);
        due("what was made of it stays", m.formulas(), 28);
        due("NO BIT stays", m.formula(NO_BIT, 2, 0), 15);
        due("one whose dual was made of it", m.solve(2, 3), MACHINE);
        due("once more", m.solve(14, 3), ROOM);
        due("BAD, when full", m.solve(14, 4), BAD);
        MachineMaker full = withFormulas(28);
        due("no room for NO BIT", full.solve(0, 0), ROOM);
        due("28 as before", full.formulas(), 28);
    }

    /** BIT 2 is 0; 15 of its NEXTs have no room for the dual; 0 with a NEXT has neither with bound 0. */
    private static void solveThenThereIsNeither() {
        sentence("then, and with 0, there is neither");
        MachineMaker m = of(new int[] {BIT, 2, 0});
        int far = nexts(m, 0, 15);
        due("a machine", m.solve(0, 0), MACHINE);
        due("then no room for a number", m.solve(far, 0), ROOM);
        dueNeither("no room for a number", m);
        due("a machine again", m.solve(0, 0), MACHINE);
        due("then neither", m.solve(1, 0), NEITHER);
        dueNeither("neither", m);
        MachineMaker o = of(new int[] {BIT, 0, 0});
        int deep = nexts(o, 0, 12);
        due("an opponent", o.solve(0, 0), OPPONENT);
        due("then neither", o.solve(deep, 0), NEITHER);
        dueNeither("neither after an opponent", o);
    }

    // ---- Promises 9, 10 and 11

    private static void sizeOfWhat() {
        sentence("-1 for others");
        MachineMaker m = of(new int[] {BIT, 2, 0});
        for (int round = 0; round < 2; round++) {
            for (int what : new int[] {-1, 3, 4, LEAST, GREATEST}) {
                due("size of " + what, m.size(what), -1);
            }
            m.solve(0, 3);
        }
        sentence("0 how many states the machine or opponent has (0: there is neither), 1 how many positions the game "
            + "had that it was found in, 2 how many of these were safe (0 for both: neither)");
        dueSizes("a machine", m, 2, 5, 2);
        due("an opponent", m.solve(m.formula(FALSE, 0, 0), 3), OPPONENT);
        dueSizes("an opponent", m, 2, 2, 2);
        due("neither", m.solve(m.formula(NEXT, 0, 0), 0), NEITHER);
        dueSizes("neither", m, 0, 0, 0);
    }

    private static void sizeOfTheLatest() {
        sentence("Of the latest solve() (whatever it answered, but BAD)");
        MachineMaker m = of(new int[] {BIT, 2, 0});
        due("a machine", m.solve(0, 1), MACHINE);
        int[][] refused = {{0, 4}, {0, -1}, {-1, 0}, {28, 0}, {m.formulas(), 3}};
        for (int[] call : refused) {
            due("solve of " + call[0] + " with " + call[1], m.solve(call[0], call[1]), BAD);
            dueSizes("after a refused one", m, 2, 3, 2);
            due("after a refused one, gives", m.gives(0, 0), 1);
            due("after a refused one, next", m.next(0, 0), 1);
        }
        int top = nexts(m, m.formula(BIT, 0, 0), 5);
        m.states(top);
        m.ways(top, 3);
        m.dual(top);
        m.has(top, 0L, 0, 0L, 1);
        dueSizes("after other calls", m, 2, 3, 2);
        due("after other calls, gives", m.gives(0, 0), 1);
        due("after other calls, next", m.next(0, 0), 1);
        due("the same again with bound 3", m.solve(0, 3), MACHINE);
        dueSizes("with bound 3", m, 2, 5, 2);
        due("an opponent", m.solve(m.formula(BIT, 0, 0), 0), OPPONENT);
        dueSizes("an opponent", m, 2, 2, 2);
        due("refused after it", m.solve(0, 4), BAD);
        dueSizes("an opponent still", m, 2, 2, 2);
        due("an opponent still gives, whatever the input", m.gives(0, 4), 0);
    }

    private static void machineStatesAndInputs() {
        sentence("BAD when there is no such state or input");
        MachineMaker m = of(new int[] {BIT, 2, 0});
        m.solve(0, 0);
        for (int state : new int[] {-1, 2, 3, 100, LEAST, GREATEST}) {
            for (int input = 0; input <= 3; input++) {
                due("gives of state " + state, m.gives(state, input), BAD);
                due("next of state " + state, m.next(state, input), BAD);
            }
        }
        for (int input : new int[] {-1, 4, LEAST, GREATEST}) {
            for (int state = 0; state <= 1; state++) {
                due("gives to " + input, m.gives(state, input), BAD);
                due("next by " + input, m.next(state, input), BAD);
            }
        }
        dueTable("the states and inputs that there are", m, new int[][] {{1, 1, 1, 1}, {0, 0, 0, 0}},
            new int[][] {{1, 1, 1, 1}, {1, 1, 1, 1}});
    }

    private static void opponentStatesAndOutputs() {
        MachineMaker m = of(new int[] {NO_BIT, 1, 0});
        m.solve(0, 0);
        sentence("the input that an opponent's state gives (input is not looked at then)");
        for (int input : new int[] {0, 3, -1, 4, LEAST, GREATEST}) {
            due("gives of the first state, input " + input, m.gives(0, input), 2);
            due("gives of the last state, input " + input, m.gives(1, input), 0);
        }
        sentence("BAD when there is no such state or input");
        for (int state : new int[] {-1, 2, 3, 100, LEAST, GREATEST}) {
            due("gives of state " + state, m.gives(state, 0), BAD);
            due("next of state " + state, m.next(state, 0), BAD);
        }
        sentence("of an opponent by an output; BAD when there is no such state or number");
        for (int by : new int[] {-1, 4, LEAST, GREATEST}) {
            due("next by " + by, m.next(0, by), BAD);
            due("next of the last state by " + by, m.next(1, by), BAD);
        }
        for (int by = 0; by <= 3; by++) {
            due("next by " + by, m.next(0, by), 1);
            due("next of the last state by " + by, m.next(1, by), 1);
        }
    }

    private static void lastStateOfAMachine() {
        sentence("BAD when there is no such state or input");
        MachineMaker m = of(new int[] {NO_BIT, 0, 0}, new int[] {BIT, 2, 0}, new int[] {NEXT, 1, 0},
            new int[] {AND, 2, 2}, new int[] {NO_BIT, 1, 0}, new int[] {OR, 2, 4}, new int[] {AND, 5, 5},
            new int[] {UNTIL, 6, 2}, new int[] {RELEASE, 1, 7}, new int[] {UNTIL, 0, 8});
        due("a machine with 60 states", m.solve(9, 3), MACHINE);
        dueSizes("a machine with 60 states", m, 60, 88, 60);
        due("state 57", m.next(57, 3), 26);
        due("state 59, output", m.gives(59, 3), 1);
        due("state 59, next", m.next(59, 3), 41);
        due("state 60, output", m.gives(60, 3), BAD);
        due("state 60, next", m.next(60, 3), BAD);
        due("a smaller one", m.solve(1, 0), MACHINE);
        due("it has its own states alone", m.size(0), 2);
        due("the states of the greater one are gone", m.gives(2, 0), BAD);
        due("and their next ones", m.next(2, 0), BAD);
    }

    private static void lastStateOfAnOpponent() {
        sentence("BAD when there is no such state or number");
        MachineMaker m = of(new int[] {NO_BIT, 1, 0}, new int[] {NO_BIT, 2, 0}, new int[] {BIT, 3, 0},
            new int[] {FALSE, 0, 0}, new int[] {BIT, 1, 0}, new int[] {UNTIL, 4, 4}, new int[] {UNTIL, 5, 0},
            new int[] {UNTIL, 5, 6}, new int[] {AND, 1, 7}, new int[] {UNTIL, 2, 8});
        due("an opponent with 43 states", m.solve(9, 2), OPPONENT);
        dueSizes("an opponent with 43 states", m, 43, 49, 43);
        due("state 42, input", m.gives(42, 99), 2);
        due("state 42, next", m.next(42, 1), 39);
        due("state 42, itself", m.next(42, 3), 42);
        due("state 43, input", m.gives(43, 0), BAD);
        due("state 43, next", m.next(43, 0), BAD);
        int later = m.formula(NEXT, 0, 0);
        due("a smaller one", m.solve(later, 3), OPPONENT);
        due("it has its own states alone", m.size(0), 3);
        due("the states of the greater one are gone", m.gives(3, 0), BAD);
        due("and their next ones", m.next(3, 0), BAD);
    }

    public static void main(String[] args) {
        newObject();
        kindBounds();
        bitBounds();
        partBounds();
        whatAKindDoesNotLookAt();
        fullOfFormulas();
        fullAndAsked();
        dualOfNoFormula();
        dualPartsFirst();
        dualWithoutRoom();
        dualOfADeepOne();
        countsOfFormulas();
        wordLengths();
        wordLetters();
        waysRefused();
        sixtyWays();
        statesRefused();
        solveRefused();
        solveAnswers();
        solveWithoutRoomForTheDual();
        solveThenThereIsNeither();
        sizeOfWhat();
        sizeOfTheLatest();
        machineStatesAndInputs();
        opponentStatesAndOutputs();
        lastStateOfAMachine();
        lastStateOfAnOpponent();
        finish("each edge of the promises holds");
    }
}
