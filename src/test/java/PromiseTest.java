/** Each promise by hand: ordinary inputs, the edges that the document names, wrong inputs. */
public final class PromiseTest {
    private static final int TRUE = 0;
    private static final int FALSE = 1;
    private static final int BIT = 2;
    private static final int NO_BIT = 3;
    private static final int AND = 4;
    private static final int OR = 5;
    private static final int NEXT = 6;
    private static final int UNTIL = 7;
    private static final int RELEASE = 8;
    private static final int BAD = MachineMaker.BAD;
    private static final int ROOM = MachineMaker.ROOM;

    private static int wrong = 0;

    private static void due(String what, int got, int want) {
        if (got != want) {
            wrong++;
            System.out.println(what + ": answered " + got + ", due is " + want);
        }
    }

    private static void dueSizes(String what, MachineMaker m, int states, int positions, int safe) {
        due(what + ", states", m.size(0), states);
        due(what + ", positions", m.size(1), positions);
        due(what + ", safe", m.size(2), safe);
    }

    /** A row of NEXTs above a formula; answers the topmost. */
    private static int nexts(MachineMaker m, int f, int count) {
        int top = f;
        for (int i = 0; i < count; i++) {
            top = m.formula(NEXT, top, 0);
        }
        return top;
    }

    private static int chain(MachineMaker m, int kind, int... parts) {
        int whole = parts[0];
        for (int i = 1; i < parts.length; i++) {
            whole = m.formula(kind, whole, parts[i]);
        }
        return whole;
    }

    private static MachineMaker fullOfFormulas() {
        MachineMaker m = new MachineMaker();
        nexts(m, m.formula(BIT, 0, 0), 27);
        return m;
    }

    private static void newObject() {
        MachineMaker m = new MachineMaker();
        due("new: formulas", m.formulas(), 0);
        dueSizes("new", m, 0, 0, 0);
        due("new: gives", m.gives(0, 0), BAD);
        due("new: next", m.next(0, 0), BAD);
        due("new: dual", m.dual(0), BAD);
        due("new: has", m.has(0, 0L, 0, 0L, 1), BAD);
        due("new: ways", m.ways(0, 0), BAD);
        due("new: states", m.states(0), BAD);
        due("new: solve", m.solve(0, 0), BAD);
        MachineMaker other = new MachineMaker();
        m.formula(TRUE, 0, 0);
        m.solve(0, 0);
        due("another object: formulas", other.formulas(), 0);
        due("another object: size", other.size(0), 0);
    }

    private static void formulaMakes() {
        MachineMaker m = new MachineMaker();
        due("TRUE", m.formula(TRUE, -7, 99), 0);
        due("TRUE again", m.formula(TRUE, 3, 4), 0);
        due("FALSE", m.formula(FALSE, 8, -8), 1);
        due("BIT 3", m.formula(BIT, 3, 77), 2);
        due("BIT 3 again", m.formula(BIT, 3, -1), 2);
        due("NO BIT 3", m.formula(NO_BIT, 3, 5), 3);
        due("AND", m.formula(AND, 2, 3), 4);
        due("AND the other way round", m.formula(AND, 3, 2), 5);
        due("OR", m.formula(OR, 2, 3), 6);
        due("NEXT", m.formula(NEXT, 6, 55), 7);
        due("NEXT again", m.formula(NEXT, 6, -55), 7);
        due("UNTIL", m.formula(UNTIL, 2, 3), 8);
        due("RELEASE", m.formula(RELEASE, 2, 3), 9);
        due("UNTIL again", m.formula(UNTIL, 2, 3), 8);
        due("of itself twice", m.formula(AND, 9, 9), 10);
        due("BIT 0", m.formula(BIT, 0, 0), 11);
        due("count", m.formulas(), 12);
    }

    private static void formulaRefuses() {
        MachineMaker m = new MachineMaker();
        m.formula(BIT, 0, 0);
        int[][] calls = {{-1, 0, 0}, {9, 0, 0}, {Integer.MAX_VALUE, 0, 0}, {Integer.MIN_VALUE, 0, 0}, {BIT, -1, 0},
            {BIT, 4, 0}, {NO_BIT, -1, 0}, {NO_BIT, 4, 0}, {AND, 0, 1}, {AND, 1, 0}, {OR, 0, -1}, {OR, -1, 0},
            {NEXT, 1, 0}, {NEXT, -1, 0}, {UNTIL, 0, 1}, {UNTIL, 1, 0}, {RELEASE, 0, 28}, {RELEASE, 28, 0},
            {AND, Integer.MAX_VALUE, Integer.MIN_VALUE}};
        for (int[] call : calls) {
            due("formula of kind " + call[0] + " of " + call[1] + " and " + call[2],
                m.formula(call[0], call[1], call[2]), BAD);
        }
        due("nothing was made", m.formulas(), 1);
    }

    private static void formulaRoom() {
        MachineMaker m = fullOfFormulas();
        due("28 formulas", m.formulas(), 28);
        due("the 29th", m.formula(TRUE, 0, 0), ROOM);
        due("one that is there", m.formula(NEXT, 26, 0), 27);
        due("the first one", m.formula(BIT, 0, 0), 0);
        due("bad though full", m.formula(AND, 0, 28), BAD);
        due("bad bit though full", m.formula(NO_BIT, 4, 0), BAD);
        due("still 28", m.formulas(), 28);
    }

    private static void dualMakes() {
        MachineMaker m = new MachineMaker();
        m.formula(TRUE, 0, 0);      // 0
        m.formula(BIT, 1, 0);       // 1
        m.formula(UNTIL, 0, 1);     // 2
        m.formula(NEXT, 1, 0);      // 3
        m.formula(AND, 2, 3);       // 4
        // FALSE 5, NO BIT 6, RELEASE 7, NEXT 8, OR 9: the first part's parts come first
        due("dual of AND", m.dual(4), 9);
        due("count", m.formulas(), 10);
        due("FALSE", m.formula(FALSE, 0, 0), 5);
        due("NO BIT", m.formula(NO_BIT, 1, 0), 6);
        due("RELEASE", m.formula(RELEASE, 5, 6), 7);
        due("NEXT", m.formula(NEXT, 6, 0), 8);
        due("OR", m.formula(OR, 7, 8), 9);
        for (int f = 0; f < 10; f++) {
            due("dual of the dual of " + f, m.dual(m.dual(f)), f);
        }
        due("made once", m.formulas(), 10);
        due("RELEASE of AND and TRUE", m.formula(RELEASE, 4, 0), 10);
        due("its dual", m.dual(10), 11);
        due("parts in their order", m.formula(UNTIL, 9, 5), 11);
    }

    private static void dualRefuses() {
        MachineMaker m = new MachineMaker();
        m.formula(BIT, 0, 0);
        due("dual of -1", m.dual(-1), BAD);
        due("dual of 1", m.dual(1), BAD);
        due("dual of the greatest", m.dual(Integer.MAX_VALUE), BAD);
        int top = nexts(m, 0, 24);
        due("25 formulas", m.formulas(), 25);
        due("a dual with no room", m.dual(top), ROOM);
        due("what was made stays", m.formulas(), 28);
        due("NO BIT stays", m.formula(NO_BIT, 0, 0), 25);
        due("NEXT of it stays", m.formula(NEXT, 25, 0), 26);
        due("a dual that is there", m.dual(2), 27);
        due("and back", m.dual(27), 2);
        due("one deeper", m.dual(3), ROOM);
        due("bad though full", m.dual(28), BAD);
        MachineMaker full = fullOfFormulas();
        due("no room at all", full.dual(0), ROOM);
        due("28 as before", full.formulas(), 28);
    }

    /** Each of a row is both parts of the next, which must not be gone through 2 to the 14 times a call. */
    private static void dualOfShared() {
        MachineMaker m = new MachineMaker();
        int top = m.formula(BIT, 0, 0);
        for (int i = 0; i < 13; i++) {
            top = m.formula(AND, top, top);
        }
        due("dual of a shared row", m.dual(top), 27);
        due("and back", m.dual(27), 13);
        due("count", m.formulas(), 28);
        MachineMaker deep = new MachineMaker();
        top = deep.formula(BIT, 0, 0);
        for (int i = 0; i < 27; i++) {
            top = deep.formula(OR, top, top);
        }
        due("no room for the dual of a deep one", deep.dual(top), ROOM);
        due("a deep word", deep.has(top, 0L, 0, 1L, 1), 1);
        due("a deep word without", deep.has(top, 1L, 1, 0L, 1), 1);
        due("deep ways", deep.ways(top, 1), 1);
        due("deep states", deep.states(top), 2);
    }

    private static void formulasCounts() {
        MachineMaker m = new MachineMaker();
        m.formula(BIT, 0, 0);
        m.formula(BIT, 0, 0);
        m.formula(BIT, 7, 0);
        due("one alike, one bad", m.formulas(), 1);
        m.dual(0);
        due("a dual counts", m.formulas(), 2);
        m.formula(NEXT, 0, 0);
        m.solve(2, 0);
        due("a dual made by solve counts", m.formulas(), 4);
        m.has(2, 0L, 0, 0L, 1);
        m.ways(2, 0);
        m.states(2);
        due("asking makes none", m.formulas(), 4);
    }

    private static void hasKinds() {
        MachineMaker m = new MachineMaker();
        int yes = m.formula(TRUE, 0, 0);
        int no = m.formula(FALSE, 0, 0);
        due("TRUE", m.has(yes, 0L, 0, 0L, 1), 1);
        due("FALSE", m.has(no, 0L, 0, 15L, 1), 0);
        for (int bit = 0; bit < 4; bit++) {
            for (int letter = 0; letter < 16; letter++) {
                int there = letter >> bit & 1;
                int set = m.formula(BIT, bit, 0);
                int unset = m.formula(NO_BIT, bit, 0);
                due("BIT, first letter", m.has(set, letter, 1, ~letter, 1), there);
                due("NO BIT, first letter", m.has(unset, letter, 1, ~letter, 1), 1 - there);
                due("BIT, repeated letter", m.has(set, ~letter, 0, letter, 1), there);
            }
        }
        int b0 = m.formula(BIT, 0, 0);
        int b1 = m.formula(BIT, 1, 0);
        int and = m.formula(AND, b0, b1);
        int or = m.formula(OR, b0, b1);
        int[] ands = {0, 0, 0, 1};
        int[] ors = {0, 1, 1, 1};
        for (int letter = 0; letter < 4; letter++) {
            due("AND", m.has(and, 0L, 0, letter, 1), ands[letter]);
            due("OR", m.has(or, 0L, 0, letter, 1), ors[letter]);
        }
        int next = m.formula(NEXT, b0, 0);
        due("NEXT within the first letters", m.has(next, 0x10L, 2, 0L, 1), 1);
        due("NEXT into the repeated letters", m.has(next, 0L, 1, 1L, 1), 1);
        due("NEXT round the repeated letters", m.has(next, 0L, 0, 1L, 1), 1);
        due("NEXT of the second letter, not the first", m.has(next, 0L, 0, 0x01L, 2), 0);
    }

    private static void hasUntilAndRelease() {
        MachineMaker m = new MachineMaker();
        int b0 = m.formula(BIT, 0, 0);
        int b1 = m.formula(BIT, 1, 0);
        int until = m.formula(UNTIL, b0, b1);
        int release = m.formula(RELEASE, b0, b1);
        due("UNTIL: at once", m.has(until, 2L, 1, 0L, 1), 1);
        due("UNTIL: later", m.has(until, 0x2111L, 4, 0L, 1), 1);
        due("UNTIL: a gap", m.has(until, 0x2011L, 4, 0L, 1), 0);
        due("UNTIL: never", m.has(until, 0L, 0, 1L, 1), 0);
        due("UNTIL: last of 16", m.has(until, 0x11111111L, 8, 0x21111111L, 8), 1);
        due("UNTIL: a gap at the last but one", m.has(until, 0x11111111L, 8, 0x20111111L, 8), 0);
        due("RELEASE: for ever", m.has(release, 0L, 0, 2L, 1), 1);
        due("RELEASE: up to both", m.has(release, 0x322L, 3, 0L, 1), 1);
        due("RELEASE: the last one too", m.has(release, 0x122L, 3, 0L, 1), 0);
        due("RELEASE: at once", m.has(release, 3L, 1, 0L, 1), 1);
        due("RELEASE: a gap at the last of 16", m.has(release, 0x22222222L, 8, 0x02222222L, 8), 0);
        due("RELEASE: 16 without a gap", m.has(release, 0x22222222L, 8, 0x22222222L, 8), 1);
        int always = m.formula(RELEASE, m.formula(FALSE, 0, 0), m.formula(UNTIL, m.formula(TRUE, 0, 0), b0));
        due("again and again", m.has(always, 0L, 8, 0x10000000L, 8), 1);
        due("only before", m.has(always, 0x11111111L, 8, 0L, 8), 0);
    }

    private static void hasEdges() {
        MachineMaker m = new MachineMaker();
        int b3 = m.formula(BIT, 3, 0);
        int last = nexts(m, b3, 7);
        due("letters beyond n are not looked at", m.has(b3, -1L, 0, 0L, 1), 0);
        due("letters beyond m are not looked at", m.has(last, 0L, 0, ~15L, 1), 0);
        due("the eighth letter", m.has(last, 0x80000000L, 8, 0L, 1), 1);
        due("a number below 0", m.has(last, Long.MIN_VALUE | 0x80000000L, 8, 0L, 1), 1);
        due("the eighth repeated letter", m.has(last, 0L, 0, 0xFFFFFFFF80000000L, 8), 1);
        due("the ninth letter is no letter", m.has(nexts(m, b3, 8), 0xF00000000L, 8, 0L, 1), 0);
        int[][] calls = {{-1, 0, 1}, {9, 0, 1}, {b3, -1, 1}, {b3, 9, 1}, {b3, 0, 0}, {b3, 0, 9}, {b3, 0, -1},
            {b3, Integer.MAX_VALUE, 1}, {b3, 0, Integer.MIN_VALUE}};
        for (int[] call : calls) {
            due("has of " + call[0] + " with " + call[1] + " and " + call[2],
                m.has(call[0], 0L, call[1], 0L, call[2]), BAD);
        }
    }

    private static void waysOfKinds() {
        MachineMaker m = new MachineMaker();
        int yes = m.formula(TRUE, 0, 0);
        int no = m.formula(FALSE, 0, 0);
        int b0 = m.formula(BIT, 0, 0);
        int n0 = m.formula(NO_BIT, 0, 0);
        int b1 = m.formula(BIT, 1, 0);
        due("TRUE", m.ways(yes, 0), 1);
        due("FALSE", m.ways(no, 0), 0);
        due("BIT, there", m.ways(b0, 1), 1);
        due("BIT, not there", m.ways(b0, 14), 0);
        due("NO BIT, there", m.ways(n0, 1), 0);
        due("NO BIT, not there", m.ways(n0, 14), 1);
        due("NEXT", m.ways(m.formula(NEXT, no, 0), 0), 1);
        due("OR: equal ways are one", m.ways(m.formula(OR, yes, b0), 1), 1);
        int until = m.formula(UNTIL, b0, b1);
        due("UNTIL: none", m.ways(until, 0), 0);
        due("UNTIL: put off", m.ways(until, 1), 1);
        due("UNTIL: done", m.ways(until, 2), 1);
        due("UNTIL: either", m.ways(until, 3), 2);
        int release = m.formula(RELEASE, b0, b1);
        due("RELEASE: none", m.ways(release, 1), 0);
        due("RELEASE: goes on", m.ways(release, 2), 1);
        due("RELEASE: either", m.ways(release, 3), 2);
        due("AND: each with each", m.ways(m.formula(AND, until, release), 3), 4);
        due("AND: unions that are alike are one", m.ways(m.formula(AND, until, until), 3), 2);
        due("AND: none of one is none", m.ways(m.formula(AND, until, release), 1), 0);
        // holding next by a NEXT and being put off differ: the pairs do, though the next sets do not
        due("pairs differ by what is put off", m.ways(m.formula(OR, until, m.formula(NEXT, until, 0)), 3), 3);
        due("no formula -1", m.ways(-1, 0), BAD);
        due("no such formula", m.ways(m.formulas(), 0), BAD);
        due("no letter -1", m.ways(yes, -1), BAD);
        due("no letter 16", m.ways(yes, 16), BAD);
    }

    /** Three choices, of 3, 4 and 5 NEXTs: 60 ways; one NEXT more: 61. */
    private static void waysRoom() {
        MachineMaker m = new MachineMaker();
        int b0 = m.formula(BIT, 0, 0);
        nexts(m, b0, 12);
        int three = chain(m, OR, 1, 2, 3);
        int four = chain(m, OR, 4, 5, 6, 7);
        int five = chain(m, OR, 8, 9, 10, 11, 12);
        int sixty = chain(m, AND, three, four, five);
        due("24 formulas", m.formulas(), 24);
        due("60 ways", m.ways(sixty, 0), 60);
        int more = m.formula(OR, sixty, b0);
        due("60 ways by a letter", m.ways(more, 0), 60);
        due("61 ways by another letter", m.ways(more, 1), ROOM);
        int never = m.formula(AND, m.formula(FALSE, 0, 0), more);
        due("none of a part with room", m.ways(never, 2), 0);
        due("none, but a part has 61", m.ways(never, 3), ROOM);
        int later = m.formula(NEXT, more, 0);
        due("one, with room", m.ways(later, 4), 1);
        due("one, but a part has 61", m.ways(later, 5), ROOM);
        due("states: 61 by some letter", m.states(more), ROOM);
        due("states: a part with 61", m.states(never), ROOM);
        due("states: a part with 61, later", m.states(later), ROOM);
        due("28 formulas", m.formulas(), 28);
        due("parts have their ways still", m.ways(three, 1), 3);
    }

    private static void statesCount() {
        MachineMaker m = new MachineMaker();
        int yes = m.formula(TRUE, 0, 0);
        int no = m.formula(FALSE, 0, 0);
        int b0 = m.formula(BIT, 0, 0);
        int b1 = m.formula(BIT, 1, 0);
        due("FALSE goes nowhere", m.states(no), 1);
        due("TRUE", m.states(yes), 2);
        int u0 = m.formula(UNTIL, yes, b0);
        int u1 = m.formula(UNTIL, yes, b1);
        due("UNTIL", m.states(u0), 2);
        due("an UNTIL that is no part does not count", m.states(u1), 2);
        int both = m.formula(RELEASE, no, m.formula(AND, u0, u1));
        // {both} 0, {both u0} 0, {both u1} 1, {both u0 u1} 0 and 1
        due("two UNTILS again and again", m.states(both), 5);
        due("no formula -1", m.states(-1), BAD);
        due("no such formula", m.states(m.formulas()), BAD);
        MachineMaker deep = new MachineMaker();
        int sixteen = nexts(deep, deep.formula(BIT, 0, 0), 14);
        due("16 states", deep.states(sixteen), 16);
        due("17 states", deep.states(nexts(deep, sixteen, 1)), ROOM);
        due("16 states once more", deep.states(sixteen), 16);
    }

    /** Six UNTILS of bits, each with two ways by letter 15, three in each of two ANDs, and FALSE. */
    private static int joinedWithFalse(MachineMaker m, boolean falseFirst) {
        int[] bits = {m.formula(BIT, 0, 0), m.formula(BIT, 1, 0), m.formula(BIT, 2, 0)};
        int no = falseFirst ? m.formula(FALSE, 0, 0) : BAD;
        int[] halves = new int[2];
        for (int half = 0; half < 2; half++) {
            int a = m.formula(UNTIL, bits[half], bits[0]);
            int b = m.formula(UNTIL, bits[half], bits[1]);
            int c = m.formula(UNTIL, bits[half], bits[2]);
            halves[half] = chain(m, AND, a, b, c);
            due("8 ways of a half", m.ways(halves[half], 15), 8);
        }
        no = falseFirst ? no : m.formula(FALSE, 0, 0);
        return chain(m, AND, m.formula(NEXT, halves[0], 0), m.formula(NEXT, halves[1], 0), m.formula(NEXT, no, 0));
    }

    private static void statesJoinAscending() {
        MachineMaker first = new MachineMaker();
        due("FALSE is joined first", first.states(joinedWithFalse(first, true)), 2);
        MachineMaker last = new MachineMaker();
        int f = joinedWithFalse(last, false);
        due("one way of it", last.ways(f, 15), 1);
        due("64 were joined ahead of FALSE", last.states(f), ROOM);
        due("no room to solve it", last.solve(f, 0), ROOM);
    }

    private static void solveMachine() {
        MachineMaker m = new MachineMaker();
        int copy = m.formula(OR, m.formula(AND, m.formula(BIT, 0, 0), m.formula(BIT, 3, 0)),
            m.formula(AND, m.formula(NO_BIT, 0, 0), m.formula(NO_BIT, 3, 0)));
        int always = m.formula(RELEASE, m.formula(FALSE, 0, 0), copy);
        due("input 0 is copied to output 1", m.solve(always, 0), 1);
        due("states", m.size(0), 1);
        int[] outputs = {0, 2, 0, 2};
        for (int input = 0; input < 4; input++) {
            due("output for " + input, m.gives(0, input), outputs[input]);
            due("next for " + input, m.next(0, input), 0);
        }
        due("gives of input 4", m.gives(0, 4), BAD);
        due("gives of input -1", m.gives(0, -1), BAD);
        due("gives of state 1", m.gives(1, 0), BAD);
        due("gives of state -1", m.gives(-1, 0), BAD);
        due("next by 4", m.next(0, 4), BAD);
        due("next by -1", m.next(0, -1), BAD);
        due("next of state 1", m.next(1, 0), BAD);
        due("next of state -1", m.next(-1, 0), BAD);
    }

    /** Output 0 has to say now what input 0 will be: nobody can, so an opponent waits a step and breaks it. */
    private static void solveOpponent() {
        MachineMaker m = new MachineMaker();
        int in = m.formula(NEXT, m.formula(BIT, 0, 0), 0);
        int notIn = m.formula(NEXT, m.formula(NO_BIT, 0, 0), 0);
        int foresee = m.formula(OR, m.formula(AND, m.formula(BIT, 2, 0), in),
            m.formula(AND, m.formula(NO_BIT, 2, 0), notIn));
        due("neither with 0", m.solve(foresee, 0), 0);
        dueSizes("neither", m, 0, 0, 0);
        due("opponent with 1", m.solve(foresee, 1), 2);
        // the beginning; what is awaited after output 0 or 2, after 1 or 3; no counter any more
        due("states", m.size(0), 4);
        due("first input", m.gives(0, 0), 0);
        due("the input is not looked at", m.gives(0, -5), 0);
        due("the input is not looked at, 99", m.gives(0, 99), 0);
        due("after output 0", m.next(0, 0), 1);
        due("after output 1", m.next(0, 1), 2);
        due("after output 2", m.next(0, 2), 1);
        due("after output 3", m.next(0, 3), 2);
        due("then input 1", m.gives(1, 0), 1);
        due("then input 0", m.gives(2, 0), 0);
        due("broken", m.next(1, 3), 3);
        due("broken, too", m.next(2, 0), 3);
        due("for ever", m.next(3, 2), 3);
        due("next by 4", m.next(0, 4), BAD);
        due("next by -1", m.next(0, -1), BAD);
        due("no state 4", m.gives(4, 0), BAD);
        due("no state 4, next", m.next(4, 0), BAD);
    }

    /** A step that is good in one way and put off in another to the same state is good. */
    private static void solveGoodStepCounts() {
        MachineMaker m = new MachineMaker();
        int b2 = m.formula(BIT, 2, 0);
        int until = m.formula(UNTIL, m.formula(TRUE, 0, 0), b2);
        int either = m.formula(OR, m.formula(NEXT, until, 0), until);
        int f = m.dual(either);
        due("lost by the first step with 0", m.solve(f, 0), 0);
        due("not lost with 1", m.solve(f, 1), 1);
        due("states", m.size(0), 2);
        due("the output that never comes", m.gives(0, 3), 0);
    }

    private static void solveRefuses() {
        MachineMaker m = new MachineMaker();
        int no = m.formula(FALSE, 0, 0);
        due("an opponent of FALSE", m.solve(no, 3), 2);
        dueSizes("FALSE", m, 2, 2, 2);
        int[][] calls = {{-1, 0}, {2, 0}, {no, -1}, {no, 4}, {28, 3}, {Integer.MIN_VALUE, Integer.MAX_VALUE}};
        for (int[] call : calls) {
            due("solve of " + call[0] + " with " + call[1], m.solve(call[0], call[1]), BAD);
        }
        dueSizes("FALSE, after bad ones", m, 2, 2, 2);
        due("and its opponent", m.next(0, 0), 1);
        due("size of 3", m.size(3), BAD);
        due("size of -1", m.size(-1), BAD);
        MachineMaker full = fullOfFormulas();
        due("no room for the dual's number", full.solve(0, 0), ROOM);
        MachineMaker part = new MachineMaker();
        int top = nexts(part, part.formula(BIT, 2, 0), 24);
        due("a machine", part.solve(0, 0), 1);
        dueSizes("a machine", part, 2, 2, 2);
        due("no room for the whole dual", part.solve(top, 0), ROOM);
        dueSizes("then there is neither", part, 0, 0, 0);
        due("then nothing is given", part.gives(0, 0), BAD);
        due("then there is no next", part.next(0, 0), BAD);
        due("what was made of the dual stays", part.formulas(), 28);
    }

    /** The formula's automaton has no room; its dual's has, and is all that is needed for a machine. */
    private static void solveNeedsTheDualFirst() {
        MachineMaker m = new MachineMaker();
        int yes = m.formula(TRUE, 0, 0);
        int[] untils = new int[4];
        for (int bit = 0; bit < 4; bit++) {
            untils[bit] = m.formula(UNTIL, yes, m.formula(BIT, bit, 0));
        }
        int f = m.formula(OR, m.formula(BIT, 2, 0), chain(m, AND, untils));
        due("no room for its automaton", m.states(f), ROOM);
        due("a machine all the same", m.solve(f, 0), 1);
        dueSizes("machine", m, 2, 2, 2);
        due("the output at first", m.gives(0, 2), 1);
        due("then", m.next(0, 2), 1);
        due("any output later", m.gives(1, 2), 0);
        int dual = m.dual(f);
        due("the dual has room", m.states(dual), 5);
        due("but its dual is needed first", m.solve(dual, 0), ROOM);
        dueSizes("no room", m, 0, 0, 0);
    }

    private static MachineMaker of(int[][] calls) {
        MachineMaker m = new MachineMaker();
        for (int[] call : calls) {
            m.formula(call[0], call[1], call[2]);
        }
        return m;
    }

    private static void solvePositionRoom() {
        int[][] hundred = {{3, 3, 0}, {2, 1, 0}, {4, 1, 0}, {7, 0, 2}, {4, 3, 1}, {2, 2, 0}, {7, 5, 3}, {7, 6, 3}};
        MachineMaker m = of(hundred);
        due("an opponent in 100 positions", m.solve(7, 3), 2);
        dueSizes("100 positions", m, 19, 100, 19);
        // a machine in 101 positions, if there were room for them
        int[][] more = {{2, 0, 0}, {3, 2, 0}, {2, 2, 0}, {7, 0, 1}, {3, 1, 0}, {8, 4, 0}, {8, 5, 3}};
        m = of(more);
        due("no room for 101 positions", m.solve(6, 3), ROOM);
        dueSizes("101 positions", m, 0, 0, 0);
        due("room with a lower bound", m.solve(6, 2), 1);
    }

    private static void winnerOutlivesOtherCalls() {
        MachineMaker m = new MachineMaker();
        int b2 = m.formula(BIT, 2, 0);
        due("a machine", m.solve(b2, 0), 1);
        int top = nexts(m, m.formula(BIT, 0, 0), 5);
        m.states(top);
        m.ways(top, 3);
        m.dual(top);
        m.has(top, 0L, 0, 0L, 1);
        dueSizes("the machine is still there", m, 2, 2, 2);
        due("it still answers", m.gives(0, 0), 1);
        due("it still goes on", m.next(0, 0), 1);
        due("an opponent", m.solve(m.formula(BIT, 0, 0), 0), 2);
        due("it gives", m.gives(0, 7), 0);
    }

    public static void main(String[] args) {
        newObject();
        formulaMakes();
        formulaRefuses();
        formulaRoom();
        dualMakes();
        dualRefuses();
        dualOfShared();
        formulasCounts();
        hasKinds();
        hasUntilAndRelease();
        hasEdges();
        waysOfKinds();
        waysRoom();
        statesCount();
        statesJoinAscending();
        solveMachine();
        solveOpponent();
        solveGoodStepCounts();
        solveRefuses();
        solveNeedsTheDualFirst();
        solvePositionRoom();
        winnerOutlivesOtherCalls();
        System.out.println(wrong == 0 ? "each promise is kept" : wrong + " answers are not as due");
        if (wrong != 0) {
            System.exit(1);
        }
    }
}
