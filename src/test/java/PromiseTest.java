/** Each promise by hand for ordinary inputs; edges and wrong inputs have tests of their own. */
public final class PromiseTest extends Check {

    private static void formulaMakes() {
        MachineMaker m = new MachineMaker();
        due("TRUE", m.formula(TRUE, 0, 0), 0);
        due("BIT 3", m.formula(BIT, 3, 0), 1);
        due("UNTIL", m.formula(UNTIL, 0, 1), 2);
        due("NEXT", m.formula(NEXT, 2, 0), 3);
        due("UNTIL again", m.formula(UNTIL, 0, 1), 2);
        due("of one and the same", m.formula(AND, 3, 3), 4);
        due("count", m.formulas(), 5);
    }

    private static void dualMakes() {
        MachineMaker m = of(new int[] {TRUE, 0, 0}, new int[] {BIT, 1, 0}, new int[] {UNTIL, 0, 1},
            new int[] {NEXT, 1, 0}, new int[] {OR, 2, 3}, new int[] {RELEASE, 4, 0});
        due("FALSE, NO BIT, RELEASE, NEXT, AND and UNTIL are made", m.dual(5), 11);
        for (int f = 0; f < 12; f++) {
            due("dual of the dual of " + f, m.dual(m.dual(f)), f);
        }
        due("count", m.formulas(), 12);
    }

    /** Each of a row is both parts of the next, which must not be gone through 2 to the 14 times a call. */
    private static void dualOfShared() {
        MachineMaker m = new MachineMaker();
        int top = m.formula(BIT, 0, 0);
        for (int i = 0; i < 13; i++) {
            top = m.formula(AND, top, top);
        }
        due("dual of a shared row", m.dual(top), 27);
        due("and back", m.dual(27), 13);
        MachineMaker deep = new MachineMaker();
        top = deep.formula(BIT, 0, 0);
        for (int i = 0; i < 27; i++) {
            top = deep.formula(OR, top, top);
        }
        due("no room for the dual of a deep one", deep.dual(top), ROOM);
        due("a deep word", deep.has(top, 0L, 0, 1L, 1), 1);
        due("deep ways", deep.ways(top, 1), 1);
        due("deep states", deep.states(top), 2);
    }

    private static void hasLetters() {
        for (int bit = 0; bit < 4; bit++) {
            MachineMaker m = of(new int[] {BIT, bit, 0}, new int[] {NO_BIT, bit, 0});
            for (int letter = 0; letter < 16; letter++) {
                int there = letter >> bit & 1;
                due("BIT, first letter", m.has(0, letter, 1, ~letter, 1), there);
                due("NO BIT, first letter", m.has(1, letter, 1, ~letter, 1), 1 - there);
                due("BIT, repeated letter", m.has(0, ~letter, 0, letter, 1), there);
            }
        }
    }

    private static void hasAgainAndAgain() {
        MachineMaker m = of(new int[] {TRUE, 0, 0}, new int[] {FALSE, 0, 0}, new int[] {BIT, 0, 0},
            new int[] {UNTIL, 0, 2}, new int[] {RELEASE, 1, 3}, new int[] {RELEASE, 1, 2}, new int[] {UNTIL, 0, 5});
        due("again and again", m.has(4, 0L, 8, 0x10000000L, 8), 1);
        due("only before", m.has(4, 0x11111111L, 8, 0L, 8), 0);
        due("at last for ever", m.has(6, 0x00010001L, 8, 0x11111111L, 8), 1);
        due("again and again, but not for ever", m.has(6, 0x11111111L, 8, 0x11101111L, 8), 0);
    }

    private static void waysByLetters() {
        MachineMaker m = of(new int[] {BIT, 0, 0}, new int[] {BIT, 1, 0}, new int[] {UNTIL, 0, 1},
            new int[] {RELEASE, 0, 1}, new int[] {AND, 2, 3}, new int[] {AND, 2, 2}, new int[] {OR, 2, 3});
        int[][] due = {{0, 1, 0, 1}, {0, 0, 1, 1}, {0, 1, 1, 2}, {0, 0, 1, 2}, {0, 0, 1, 4}, {0, 1, 1, 2},
            {0, 1, 2, 3}};
        for (int f = 0; f < due.length; f++) {
            for (int letter = 0; letter < 16; letter++) {
                due("ways(" + f + ", " + letter + ")", m.ways(f, letter), due[f][letter % 4]);
            }
        }
    }

    private static void statesOfUntils() {
        MachineMaker m = of(new int[] {TRUE, 0, 0}, new int[] {FALSE, 0, 0}, new int[] {BIT, 0, 0},
            new int[] {BIT, 1, 0}, new int[] {UNTIL, 0, 2}, new int[] {UNTIL, 2, 3}, new int[] {AND, 4, 5});
        due("at last", m.states(4), 2);
        due("UNTIL", m.states(5), 2);
        // the AND 0; the first 0; the second 1; both 0; none 0; the second, once alone, stays alone
        due("both", m.states(6), 5);
    }

    private static void solveMachine() {
        MachineMaker m = new MachineMaker();
        int copy = m.formula(OR, m.formula(AND, m.formula(BIT, 0, 0), m.formula(BIT, 3, 0)),
            m.formula(AND, m.formula(NO_BIT, 0, 0), m.formula(NO_BIT, 3, 0)));
        int always = m.formula(RELEASE, m.formula(FALSE, 0, 0), copy);
        due("input 0 is copied to output 1", m.solve(always, 0), MACHINE);
        dueTable("a copy", m, new int[][] {{0, 2, 0, 2}}, new int[][] {{0, 0, 0, 0}});
    }

    /** Output 0 has to say now what input 0 will be: nobody can, so an opponent waits a step and breaks it. */
    private static void solveOpponent() {
        MachineMaker m = new MachineMaker();
        int in = m.formula(NEXT, m.formula(BIT, 0, 0), 0);
        int notIn = m.formula(NEXT, m.formula(NO_BIT, 0, 0), 0);
        int foresee = m.formula(OR, m.formula(AND, m.formula(BIT, 2, 0), in),
            m.formula(AND, m.formula(NO_BIT, 2, 0), notIn));
        due("neither with 0", m.solve(foresee, 0), NEITHER);
        due("opponent with 1", m.solve(foresee, 1), OPPONENT);
        // the beginning; what is awaited after output 0 or 2, after 1 or 3; no counter any more
        dueTable("foresee", m, new int[][] {{0, 0, 0, 0}, {1, 1, 1, 1}, {0, 0, 0, 0}, {0, 0, 0, 0}},
            new int[][] {{1, 2, 1, 2}, {3, 3, 3, 3}, {3, 3, 3, 3}, {3, 3, 3, 3}});
    }

    public static void main(String[] args) {
        formulaMakes();
        dualMakes();
        dualOfShared();
        hasLetters();
        hasAgainAndAgain();
        waysByLetters();
        statesOfUntils();
        solveMachine();
        solveOpponent();
        finish("each promise is kept");
    }
}
