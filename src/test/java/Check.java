/** What the tests share: names of kinds, ways to build formulas, and a count of what is wrong. */
abstract class Check {
    static final int TRUE = 0;
    static final int FALSE = 1;
    static final int BIT = 2;
    static final int NO_BIT = 3;
    static final int AND = 4;
    static final int OR = 5;
    static final int NEXT = 6;
    static final int UNTIL = 7;
    static final int RELEASE = 8;
    static final int BAD = MachineMaker.BAD;
    static final int ROOM = MachineMaker.ROOM;
    static final int NEITHER = 0;
    static final int MACHINE = 1;
    static final int OPPONENT = 2;
    static final int LEAST = Integer.MIN_VALUE;
    static final int GREATEST = Integer.MAX_VALUE;

    private static String sentence = "";
    private static int wrong = 0;

    /** The words of the document that the answers from here on are due by. */
    static void sentence(String words) {
        sentence = words;
    }

    static void due(String what, int got, int want) {
        if (got != want) {
            wrong++;
            System.out.println((sentence.isEmpty() ? "" : "\"" + sentence + "\": ") + what + ": answered " + got
                + ", due is " + want);
        }
    }

    /** For what is no answer of a call: it is printed when it does not hold. */
    static void dueTrue(String what, boolean holds) {
        if (!holds) {
            wrong++;
            System.out.println(what);
        }
    }

    static void dueSizes(String what, MachineMaker m, int states, int positions, int safe) {
        due(what + ", states", m.size(0), states);
        due(what + ", positions", m.size(1), positions);
        due(what + ", safe", m.size(2), safe);
    }

    static void dueNeither(String what, MachineMaker m) {
        dueSizes(what, m, 0, 0, 0);
        due(what + ", gives", m.gives(0, 0), BAD);
        due(what + ", next", m.next(0, 0), BAD);
    }

    /** What the states give for 0 .. 3, and where they go: a row for each state. */
    static void dueTable(String what, MachineMaker m, int[][] gives, int[][] next) {
        due(what + ", states", m.size(0), gives.length);
        for (int state = 0; state < gives.length; state++) {
            for (int by = 0; by < 4; by++) {
                due(what + ", gives(" + state + ", " + by + ")", m.gives(state, by), gives[state][by]);
                due(what + ", next(" + state + ", " + by + ")", m.next(state, by), next[state][by]);
            }
        }
    }

    /** A row of NEXTs above a formula; answers the topmost. */
    static int nexts(MachineMaker m, int f, int count) {
        int top = f;
        for (int i = 0; i < count; i++) {
            top = m.formula(NEXT, top, 0);
        }
        return top;
    }

    static int chain(MachineMaker m, int kind, int... parts) {
        int whole = parts[0];
        for (int i = 1; i < parts.length; i++) {
            whole = m.formula(kind, whole, parts[i]);
        }
        return whole;
    }

    static MachineMaker of(int[]... calls) {
        MachineMaker m = new MachineMaker();
        for (int[] call : calls) {
            m.formula(call[0], call[1], call[2]);
        }
        return m;
    }

    /** An object with this many formulas: BIT 0, and each other one NEXT of the one ahead of it. */
    static MachineMaker withFormulas(int count) {
        MachineMaker m = new MachineMaker();
        nexts(m, m.formula(BIT, 0, 0), count - 1);
        return m;
    }

    static void finish(String allGood) {
        System.out.println(wrong == 0 ? allGood : wrong + " things are not as due");
        if (wrong != 0) {
            System.exit(1);
        }
    }
}
