/**
 * "There is NO ROOM when ..", case by case: the last that has room and the first that has not, in the
 * automaton or game of the dual, which is needed first, and in that of the formula itself.
 */
public final class RoomEdgeTest extends Check {

    // ---- 16 states

    /** NEXTs above a bit, or NEXTs above its opposite: 2 states more than there are NEXTs. */
    private static int fork(MachineMaker m, int bit, int nexts, int otherNexts) {
        return m.formula(OR, nexts(m, m.formula(BIT, bit, 0), nexts),
            nexts(m, m.formula(NO_BIT, bit, 0), otherNexts));
    }

    private static void sixteenStates() {
        sentence("an automaton that is needed has more than 16 states that can be come to");
        MachineMaker m = new MachineMaker();
        int sixteen = fork(m, 2, 7, 7);
        int seventeen = fork(m, 2, 8, 7);
        int dualOfSixteen = m.dual(sixteen);
        int dualOfSeventeen = m.dual(seventeen);
        due("16 states", m.states(sixteen), 16);
        due("17 states", m.states(seventeen), ROOM);
        due("the dual of 16", m.states(dualOfSixteen), 8);
        due("the dual of 17", m.states(dualOfSeventeen), 10);
        due("16 in the formula's own", m.solve(sixteen, 0), NEITHER);
        due("17 in the formula's own", m.solve(seventeen, 0), ROOM);
        due("16 in the dual's", m.solve(dualOfSixteen, 0), NEITHER);
        due("17 in the dual's", m.solve(dualOfSeventeen, 0), ROOM);
    }

    /** For ever output 0; the dual's automaton is the beginning and a fork. */
    private static void sixteenStatesForAMachine() {
        for (int nexts = 7; nexts <= 8; nexts++) {
            MachineMaker m = new MachineMaker();
            int fail = m.formula(AND, m.formula(NO_BIT, 2, 0), fork(m, 2, nexts, 7));
            int f = m.dual(m.formula(UNTIL, m.formula(TRUE, 0, 0), fail));
            due("the dual's states for a machine", m.states(m.dual(f)), nexts == 7 ? 16 : ROOM);
            due("a machine", m.solve(f, 0), nexts == 7 ? MACHINE : ROOM);
            dueSizes("a machine", m, nexts == 7 ? 1 : 0, nexts == 7 ? 1 : 0, nexts == 7 ? 1 : 0);
        }
    }

    /** Without input 0 at last; the formula's own automaton is the beginning and a fork. */
    private static void sixteenStatesForAnOpponent() {
        for (int nexts = 7; nexts <= 8; nexts++) {
            MachineMaker m = new MachineMaker();
            int yes = m.formula(TRUE, 0, 0);
            int end = m.formula(AND, m.formula(NO_BIT, 0, 0), m.formula(OR, yes, fork(m, 0, nexts, 7)));
            int f = m.formula(UNTIL, yes, end);
            due("the formula's states for an opponent", m.states(f), nexts == 7 ? 16 : ROOM);
            due("the dual's states", m.states(m.dual(f)), 1);
            due("an opponent", m.solve(f, 0), nexts == 7 ? OPPONENT : ROOM);
            due("it gives input 1", m.gives(0, 0), nexts == 7 ? 1 : BAD);
        }
    }

    private static void statesThatAreNotNeeded() {
        MachineMaker m = new MachineMaker();
        int yes = m.formula(TRUE, 0, 0);
        int[] untils = new int[4];
        for (int bit = 0; bit < 4; bit++) {
            untils[bit] = m.formula(UNTIL, yes, m.formula(BIT, bit, 0));
        }
        int f = m.formula(OR, m.formula(BIT, 2, 0), chain(m, AND, untils));
        due("too many states of the formula's own", m.states(f), ROOM);
        due("are not needed for a machine", m.solve(f, 0), MACHINE);
        dueSizes("a machine", m, 2, 2, 2);
        int dual = m.dual(f);
        due("the dual has room", m.states(dual), 5);
        due("but the automaton of its dual is needed first", m.solve(dual, 0), ROOM);
        dueNeither("no room", m);
    }

    // ---- 60 ways of a formula

    /** Formulas over BIT 0 whose last one has 60 ways by letters with BIT 0, and none without. */
    private static final int[][] SIXTY = {{BIT, 0, 0}, {UNTIL, 0, 0}, {RELEASE, 1, 1}, {RELEASE, 1, 2}, {UNTIL, 2, 3},
        {RELEASE, 3, 4}, {RELEASE, 4, 5}};
    /** The like with 61. */
    private static final int[][] SIXTY_ONE = {{BIT, 0, 0}, {RELEASE, 0, 0}, {RELEASE, 1, 1}, {UNTIL, 1, 1},
        {RELEASE, 3, 2}, {UNTIL, 0, 4}, {UNTIL, 3, 5}, {RELEASE, 6, 5}};

    private static void sixtyWaysOfAPart() {
        sentence("when its formula, a part of it (and so on) .. has more than 60 ways by a letter");
        for (int[][] formulas : new int[][][] {SIXTY, SIXTY_ONE}) {
            boolean room = formulas == SIXTY;
            MachineMaker m = of(formulas);
            int many = m.formulas() - 1;
            due("60 or 61 ways", m.ways(many, 1), room ? 60 : ROOM);
            due("none by another letter", m.ways(many, 0), 0);
            int yes = m.formula(TRUE, 0, 0);
            int no = m.formula(FALSE, 0, 0);
            // neither this one nor its dual ever comes to the part with the many ways
            int f = m.formula(AND, no, m.formula(OR, yes, many));
            int dual = m.dual(f);
            due("states, the part of a part", m.states(f), room ? 1 : ROOM);
            due("states of the dual", m.states(dual), 2);
            due("60 or 61 in the formula's own", m.solve(f, 0), room ? OPPONENT : ROOM);
            due("60 or 61 in the dual's", m.solve(dual, 0), room ? MACHINE : ROOM);
            int surely = m.formula(OR, yes, m.formula(AND, no, many));
            due("states, not needed", m.states(surely), room ? 2 : ROOM);
            due("60 or 61 that are not needed", m.solve(surely, 0), MACHINE);
        }
    }

    // ---- 60 ways of what was joined so far

    /** Formulas over BIT 0: the last one and the third last, joined, have 60 ways by letters with BIT 0. */
    private static final int[][] JOINED_SIXTY = {{BIT, 0, 0}, {UNTIL, 0, 0}, {UNTIL, 1, 0}, {UNTIL, 2, 0},
        {RELEASE, 1, 2}, {RELEASE, 1, 3}, {RELEASE, 0, 5}};
    /** The like with 61. */
    private static final int[][] JOINED_SIXTY_ONE = {{BIT, 0, 0}, {UNTIL, 0, 0}, {UNTIL, 0, 1}, {RELEASE, 2, 0},
        {UNTIL, 1, 2}, {RELEASE, 2, 3}, {RELEASE, 2, 5}};

    /** TRUE next, or the last formula, the third last and FALSE next, which is a set without ways. */
    private static int withDeadSet(MachineMaker m, int last) {
        int no = m.formula(FALSE, 0, 0);
        int dead = chain(m, AND, m.formula(NEXT, last, 0), m.formula(NEXT, last - 2, 0), m.formula(NEXT, no, 0));
        return m.formula(OR, m.formula(NEXT, m.formula(TRUE, 0, 0), 0), dead);
    }

    private static void sixtyJoinedWays() {
        sentence("or what was joined so far of one of its sets, has more than 60 ways by a letter");
        for (int[][] formulas : new int[][][] {JOINED_SIXTY, JOINED_SIXTY_ONE}) {
            boolean room = formulas == JOINED_SIXTY;
            MachineMaker two = of(formulas);
            due("the two joined", two.ways(two.formula(AND, 4, 6), 1), room ? 60 : ROOM);
            MachineMaker m = of(formulas);
            int f = withDeadSet(m, 6);
            int dual = m.dual(f);
            due("all formulas have room for their ways", m.ways(f, 1), 2);
            due("28 formulas", m.formulas(), 28);
            due("states", m.states(f), room ? 4 : ROOM);
            due("states of the dual", m.states(dual), 4);
            due("60 or 61 in the formula's own", m.solve(f, 0), room ? NEITHER : ROOM);
            due("60 or 61 in the dual's", m.solve(dual, 0), room ? NEITHER : ROOM);
            due("60 or 61 in the dual's, an opponent", m.solve(dual, 1), room ? OPPONENT : ROOM);
            due("60 or 61 that are not needed", m.solve(f, 1), MACHINE);
            dueSizes("that are not needed", m, 3, 3, 3);
        }
    }

    private static void joinedAscending() {
        sentence("The ways of a set are joined formula by formula, ascending");
        MachineMaker last = of(JOINED_SIXTY_ONE);
        due("FALSE is joined last, 61 ahead of it", last.states(withDeadSet(last, 6)), ROOM);
        int[][] falseFirst = {{BIT, 0, 0}, {FALSE, 0, 0}, {UNTIL, 0, 0}, {UNTIL, 0, 2}, {RELEASE, 3, 0},
            {UNTIL, 2, 3}, {RELEASE, 3, 4}, {RELEASE, 3, 6}};
        MachineMaker two = of(falseFirst);
        due("the two joined are 61 as before", two.ways(two.formula(AND, 5, 7), 1), ROOM);
        MachineMaker first = of(falseFirst);
        int f = withDeadSet(first, 7);
        due("FALSE is joined first, so none are joined", first.states(f), 4);
        due("none in the formula's own", first.solve(f, 0), NEITHER);
        due("none in the dual's", first.solve(first.dual(f), 1), OPPONENT);
    }

    // ---- 100 positions

    private static void hundredPositions() {
        sentence("or when a game that is needed has more than 100 positions");
        MachineMaker m = of(new int[] {BIT, 3, 0}, new int[] {NO_BIT, 1, 0}, new int[] {RELEASE, 1, 0},
            new int[] {BIT, 2, 0}, new int[] {RELEASE, 3, 2}, new int[] {UNTIL, 1, 4}, new int[] {RELEASE, 1, 5});
        due("100 in the dual's, a machine", m.solve(6, 2), MACHINE);
        dueSizes("100 in the dual's", m, 20, 100, 40);
        m = of(new int[] {NO_BIT, 0, 0}, new int[] {BIT, 2, 0}, new int[] {UNTIL, 0, 1}, new int[] {NO_BIT, 3, 0},
            new int[] {RELEASE, 3, 0}, new int[] {RELEASE, 4, 2});
        due("fewer with bound 2", m.solve(5, 2), MACHINE);
        due("101 in the dual's, where a machine would be", m.solve(5, 3), ROOM);
        dueNeither("101 in the dual's", m);
        m = of(new int[] {NO_BIT, 1, 0}, new int[] {BIT, 3, 0}, new int[] {RELEASE, 1, 0}, new int[] {NEXT, 2, 0},
            new int[] {BIT, 2, 0}, new int[] {RELEASE, 4, 1}, new int[] {UNTIL, 5, 3});
        due("100 in the dual's, then an opponent", m.solve(6, 3), OPPONENT);
        dueSizes("in the formula's own", m, 8, 31, 10);
        m = of(new int[] {NO_BIT, 1, 0}, new int[] {BIT, 0, 0}, new int[] {BIT, 3, 0}, new int[] {RELEASE, 1, 2},
            new int[] {UNTIL, 2, 0}, new int[] {RELEASE, 3, 4});
        due("101 in the dual's, where an opponent would be", m.solve(5, 3), ROOM);
        dueNeither("101 in the dual's", m);
    }

    private static void hundredPositionsOfItsOwn() {
        MachineMaker m = of(new int[] {NO_BIT, 2, 0}, new int[] {NO_BIT, 0, 0}, new int[] {UNTIL, 0, 1},
            new int[] {NO_BIT, 1, 0}, new int[] {UNTIL, 3, 2}, new int[] {RELEASE, 0, 4}, new int[] {UNTIL, 0, 5});
        due("100 in the formula's own", m.solve(6, 2), OPPONENT);
        dueSizes("100 in the formula's own", m, 18, 100, 40);
        m = of(new int[] {BIT, 0, 0}, new int[] {BIT, 1, 0}, new int[] {NO_BIT, 2, 0}, new int[] {UNTIL, 0, 2},
            new int[] {RELEASE, 2, 1}, new int[] {UNTIL, 3, 4});
        due("fewer with bound 2", m.solve(5, 2), OPPONENT);
        due("101 in the formula's own", m.solve(5, 3), ROOM);
        dueNeither("101 in the formula's own", m);
        m = of(new int[] {NO_BIT, 3, 0}, new int[] {BIT, 1, 0}, new int[] {UNTIL, 1, 0}, new int[] {BIT, 2, 0},
            new int[] {RELEASE, 0, 3}, new int[] {UNTIL, 2, 4});
        due("101 in the formula's own that are not needed", m.solve(5, 3), MACHINE);
        dueSizes("that are not needed", m, 5, 52, 20);
        due("but are for the dual", m.solve(m.dual(5), 3), ROOM);
        dueNeither("but are for the dual", m);
    }

    public static void main(String[] args) {
        sixteenStates();
        sixteenStatesForAMachine();
        sixteenStatesForAnOpponent();
        statesThatAreNotNeeded();
        sixtyWaysOfAPart();
        sixtyJoinedWays();
        joinedAscending();
        hundredPositions();
        hundredPositionsOfItsOwn();
        finish("each edge of room holds");
    }
}
