/** The sentences of "What it is" and "Terms" that name an edge: one test for each, headed by its words. */
public final class TermsEdgeTest extends Check {
    private static final int[][] ALL_KINDS = {{TRUE, 0, 0}, {FALSE, 0, 0}, {BIT, 0, 0}, {NO_BIT, 0, 0}, {AND, 2, 0},
        {OR, 2, 0}, {NEXT, 2, 0}, {UNTIL, 2, 0}, {RELEASE, 2, 0}};

    // ---- What it is

    private static void fiveHundredTwelveCalls() {
        sentence("An object is used for at most 512 calls after it has been made");
        MachineMaker m = new MachineMaker();
        int b2 = m.formula(BIT, 2, 0);
        for (int call = 2; call <= 508; call++) {
            due("call " + call, call % 2 == 0 ? m.solve(b2, call % 4) : m.formula(9, call, call),
                call % 2 == 0 ? MACHINE : BAD);
        }
        due("call 509", m.formula(BIT, 0, 0), 2);
        due("call 510", m.states(2), 2);
        due("call 511", m.solve(2, 3), OPPONENT);
        due("call 512", m.next(0, 3), 1);
    }

    // ---- Letters and formulas

    private static void letterBounds() {
        sentence("A LETTER is 0 .. 15");
        MachineMaker m = of(new int[] {TRUE, 0, 0});
        for (int letter = 0; letter <= 15; letter++) {
            due("letter " + letter, m.ways(0, letter), 1);
        }
        for (int letter : new int[] {-1, 16, LEAST, GREATEST}) {
            due("letter " + letter, m.ways(0, letter), BAD);
        }
    }

    private static void inputBitsAndOutputBits() {
        sentence("bits 0 and 1 are inputs, bits 2 and 3 outputs");
        int[] due = {OPPONENT, OPPONENT, MACHINE, MACHINE};
        for (int bit = 0; bit <= 3; bit++) {
            MachineMaker m = of(new int[] {BIT, bit, 0}, new int[] {NO_BIT, bit, 0});
            due("BIT " + bit, m.solve(0, 0), due[bit]);
            due("NO BIT " + bit, m.solve(1, 0), due[bit]);
        }
    }

    private static int literal(MachineMaker m, int bit, boolean set) {
        return m.formula(set ? BIT : NO_BIT, bit, 0);
    }

    private static void letterOfInputAndOutput() {
        sentence("a letter of input i and output o (0 .. 3 each) is i + 4 * o");
        for (int letter = 0; letter <= 15; letter++) {
            int i = letter % 4;
            int o = letter / 4;
            MachineMaker m = new MachineMaker();
            int other = m.formula(OR, literal(m, 0, (i & 1) == 0), literal(m, 1, (i & 2) == 0));
            int answer = m.formula(AND, literal(m, 2, (o & 1) != 0), literal(m, 3, (o & 2) != 0));
            due("to " + i + " answer " + o, m.solve(m.formula(OR, other, answer), 0), MACHINE);
            for (int input = 0; input <= 3; input++) {
                due("to " + i + " answer " + o + ", given " + input, m.gives(0, input), input == i ? o : 0);
            }
        }
    }

    private static void numbersAsTheyAreMade() {
        sentence("FORMULAS have numbers, 0, 1, .. as they are made");
        MachineMaker m = new MachineMaker();
        for (int i = 0; i < ALL_KINDS.length; i++) {
            due("kind " + i, m.formula(ALL_KINDS[i][0], ALL_KINDS[i][1], ALL_KINDS[i][2]), i);
            due("a refused one has no number", m.formula(BIT, 4, 0), BAD);
        }
        due("a dual is made next", m.dual(4), 9);
        due("and the next one after it", m.formula(NEXT, 9, 0), 10);
    }

    private static void builtAlike() {
        sentence("two that are built alike have one number");
        MachineMaker m = of(ALL_KINDS);
        for (int i = 0; i < ALL_KINDS.length; i++) {
            due("kind " + i + " again", m.formula(ALL_KINDS[i][0], ALL_KINDS[i][1], ALL_KINDS[i][2]), i);
        }
        due("none was made twice", m.formulas(), 9);
        for (int kind : new int[] {AND, OR, UNTIL, RELEASE}) {
            int count = m.formulas();
            due("parts the other way round, kind " + kind, m.formula(kind, 0, 2), count);
        }
        due("another bit", m.formula(BIT, 1, 0), 13);
        due("a dual that is built like one that is there", m.dual(2), 3);
        due("a dual made anew", m.dual(13), 14);
        due("one built like a dual that is there", m.formula(NO_BIT, 1, 0), 14);
    }

    private static void atMostTwentyEight() {
        sentence("at most 28 (those of DUALS too)");
        MachineMaker m = withFormulas(27);
        due("the 28th", m.formula(TRUE, 0, 0), 27);
        due("the 29th", m.formula(FALSE, 0, 0), ROOM);
        due("28", m.formulas(), 28);
        m = withFormulas(14);
        due("14 and 14 of the dual", m.dual(13), 27);
        due("one beyond those of the dual", m.formula(TRUE, 0, 0), ROOM);
        m = withFormulas(27);
        due("the 28th is a dual", m.dual(0), 27);
        due("one beyond the dual", m.formula(TRUE, 0, 0), ROOM);
        m = withFormulas(14);
        due("solve makes a dual of 14", m.solve(13, 0), NEITHER);
        due("those count as well", m.formulas(), 28);
        due("one beyond those that solve made", m.formula(TRUE, 0, 0), ROOM);
    }

    // ---- When a formula holds

    private static void trueAlwaysFalseNever() {
        sentence("0 TRUE: always. 1 FALSE: never.");
        MachineMaker m = of(new int[] {TRUE, 0, 0}, new int[] {FALSE, 0, 0});
        for (int letter = 0; letter <= 15; letter++) {
            due("TRUE by " + letter, m.has(0, letter, 1, letter, 1), 1);
            due("FALSE by " + letter, m.has(1, letter, 1, letter, 1), 0);
        }
    }

    private static void bitsOfALetter() {
        sentence("2 BIT b (0 .. 3): the letter there has it. 3 NO BIT b: it has not.");
        for (int bit = 0; bit <= 3; bit++) {
            MachineMaker m = of(new int[] {BIT, bit, 0}, new int[] {NO_BIT, bit, 0});
            due("the bit alone", m.has(0, 0L, 0, 1L << bit, 1), 1);
            due("all bits but it", m.has(0, 0L, 0, 15L ^ 1L << bit, 1), 0);
            due("NO BIT, the bit alone", m.has(1, 0L, 0, 1L << bit, 1), 0);
            due("NO BIT, all bits but it", m.has(1, 0L, 0, 15L ^ 1L << bit, 1), 1);
            due("only the letter there is looked at", m.has(0, 0L, 1, 15L, 1), 0);
        }
    }

    private static void bothOrAtLeastOne() {
        sentence("4 AND, 5 OR of two: both, at least one hold there");
        MachineMaker m = of(new int[] {BIT, 0, 0}, new int[] {BIT, 1, 0}, new int[] {AND, 0, 1}, new int[] {OR, 0, 1});
        int[] and = {0, 0, 0, 1};
        int[] or = {0, 1, 1, 1};
        for (int letter = 0; letter <= 3; letter++) {
            due("AND by " + letter, m.has(2, letter, 1, 3 - letter, 1), and[letter]);
            due("OR by " + letter, m.has(3, letter, 1, 3 - letter, 1), or[letter]);
        }
    }

    private static void atTheNextPlace() {
        sentence("6 NEXT of one: it holds at the next place");
        MachineMaker m = of(new int[] {BIT, 0, 0}, new int[] {NEXT, 0, 0});
        due("among the first letters", m.has(1, 0x10L, 2, 0L, 1), 1);
        due("there alone is not next", m.has(1, 0x01L, 2, 0L, 1), 0);
        due("two places on is not next", m.has(1, 0x100L, 3, 0L, 1), 0);
        due("from the last first letter to the repeated ones", m.has(1, 0L, 1, 0x01L, 2), 1);
        due("from the last repeated letter to the first of them", m.has(1, 0L, 0, 1L, 1), 1);
        int noBit = m.formula(NEXT, m.formula(NO_BIT, 0, 0), 0);
        due("from the last repeated letter, NO BIT", m.has(noBit, 0L, 0, 1L, 1), 0);
        due("from the last of eight and eight, NO BIT", m.has(nexts(m, noBit, 15), 0L, 8, 0x00000001L, 8), 0);
        MachineMaker round = of(new int[] {BIT, 0, 0});
        int eighth = nexts(round, 0, 8);
        due("eight places on, round eight letters", round.has(eighth, 0L, 0, 0x00000001L, 8), 1);
        due("eight places on, not the second of them", round.has(eighth, 0L, 0, 0x11111110L, 8), 0);
        due("the place after the last is not place 0", round.has(nexts(round, 0, 2), 1L, 1, 0x10L, 2), 1);
        due("nor the one ahead of the repeated ones", round.has(nexts(round, 0, 3), 1L, 1, 0x10L, 2), 0);
    }

    private static void untilThereOrLater() {
        sentence("g holds there or at a later place, and f at all places from there on ahead of that one");
        MachineMaker m = of(new int[] {BIT, 0, 0}, new int[] {BIT, 1, 0}, new int[] {UNTIL, 0, 1});
        due("g there, f nowhere", m.has(2, 2L, 1, 0L, 1), 1);
        due("g at the next place, f there", m.has(2, 0x21L, 2, 0L, 1), 1);
        due("g at the next place, f not there", m.has(2, 0x20L, 2, 0L, 1), 0);
        due("g later, f missing once ahead of it", m.has(2, 0x2101L, 4, 0L, 1), 0);
        due("f for ever, g never", m.has(2, 1L, 1, 1L, 1), 0);
        due("g at the last of 16 places", m.has(2, 0x11111111L, 8, 0x21111111L, 8), 1);
        due("f missing at the last place ahead", m.has(2, 0x11111111L, 8, 0x20111111L, 8), 0);
        due("g only ahead of the place", m.has(m.formula(NEXT, 2, 0), 0x12L, 2, 1L, 1), 0);
        due("g where the repeated letters begin again", m.has(nexts(m, 2, 2), 0L, 0, 0x112L, 3), 1);
    }

    private static void releaseAllOrUpToOne() {
        sentence("g holds at all places from there on, or at all up to one (that one, too) at which f holds");
        MachineMaker m = of(new int[] {BIT, 0, 0}, new int[] {BIT, 1, 0}, new int[] {RELEASE, 0, 1});
        due("g for ever, f never", m.has(2, 2L, 1, 2L, 1), 1);
        due("g missing at the last of 16 places", m.has(2, 0x22222222L, 8, 0x02222222L, 8), 0);
        due("both there, then nothing", m.has(2, 3L, 1, 0L, 1), 1);
        due("f there without g", m.has(2, 1L, 1, 2L, 1), 0);
        due("up to one at which both hold", m.has(2, 0x322L, 3, 0L, 1), 1);
        due("up to one at which f alone holds", m.has(2, 0x122L, 3, 0L, 1), 0);
        due("g missing ahead of f", m.has(2, 0x302L, 3, 2L, 1), 0);
        due("both at the last of 16 places", m.has(2, 0x22222222L, 8, 0x32222222L, 8), 1);
        due("f only ahead of the place", m.has(m.formula(NEXT, 2, 0), 0x023L, 3, 2L, 1), 0);
    }

    // ---- Duals

    private static void dualOfEachKind() {
        sentence("TRUE and FALSE are each other's, BIT b and NO BIT b, AND and OR, UNTIL and RELEASE");
        int[][] duals = {{TRUE, FALSE}, {BIT, NO_BIT}, {AND, OR}, {UNTIL, RELEASE}};
        for (int[] pair : duals) {
            dueDualKind(pair[0], pair[1]);
            dueDualKind(pair[1], pair[0]);
        }
        sentence("NEXT of f and NEXT of the dual");
        dueDualKind(NEXT, NEXT);
        sentence("(each of the duals of its parts, in their order)");
        MachineMaker m = of(new int[] {BIT, 3, 0}, new int[] {TRUE, 0, 0}, new int[] {UNTIL, 0, 1});
        due("RELEASE of NO BIT and FALSE, in this order", m.dual(2), 5);
        due("it is that", m.formula(RELEASE, m.formula(NO_BIT, 3, 0), m.formula(FALSE, 0, 0)), 5);
    }

    /** The dual of a kind of BIT 1 and BIT 1, and back. */
    private static void dueDualKind(int kind, int dualKind) {
        MachineMaker m = of(new int[] {BIT, 1, 0}, new int[] {NO_BIT, 1, 0});
        boolean hasParts = kind >= AND;
        int f = m.formula(kind, hasParts ? 0 : 1, 0);
        int dual = m.dual(f);
        due("dual of kind " + kind, m.formula(dualKind, 1, 1), dual);
        due("dual of the dual of kind " + kind, m.dual(dual), f);
    }

    private static void dualJustWhenNot() {
        sentence("A word has the DUAL just when it has not the formula");
        MachineMaker m = of(ALL_KINDS);
        for (int f = 0; f < ALL_KINDS.length; f++) {
            int dual = m.dual(f);
            for (int word = 0; word < 8; word++) {
                long first = word & 1;
                long again = word >> 1 & 1 | word >> 2 << 4;
                due("kind " + f + " by word " + word, m.has(dual, first, 1, again, 2),
                    1 - m.has(f, first, 1, again, 2));
            }
        }
    }

    private static void holdsAtPlaceNought() {
        sentence("HAVING a formula is that it holds at place 0");
        MachineMaker m = of(new int[] {BIT, 0, 0});
        due("place 0 alone", m.has(0, 1L, 1, 0L, 1), 1);
        due("all places but 0", m.has(0, 0L, 1, 1L, 1), 0);
        due("place 0 is the first of the repeated letters", m.has(0, 1L, 0, 0x10L, 2), 0);
    }

    // ---- Ways

    private static void waysOfTheLeast() {
        sentence("TRUE: one, of empty sets. FALSE: none. BIT, NO BIT: one of empty sets, or none, as the letter says.");
        MachineMaker m = of(new int[] {TRUE, 0, 0}, new int[] {FALSE, 0, 0}, new int[] {BIT, 3, 0},
            new int[] {NO_BIT, 3, 0});
        due("TRUE", m.ways(0, 7), 1);
        due("FALSE", m.ways(1, 7), 0);
        due("BIT, all but it", m.ways(2, 7), 0);
        due("BIT, it alone", m.ways(2, 8), 1);
        due("NO BIT, all but it", m.ways(3, 7), 1);
        due("NO BIT, it alone", m.ways(3, 8), 0);
        // equal ways are one: all three are the way of empty sets
        due("the ways of all are one", m.ways(chain(m, OR, 0, 2, 3), 8), 1);
        due("none of both", m.ways(m.formula(OR, 1, 3), 8), 0);
    }

    /** BIT 0, three NEXTs of it, and ORs of the first two and of all three: 4 has two ways, 5 three. */
    private static MachineMaker withChoices() {
        return of(new int[] {BIT, 0, 0}, new int[] {NEXT, 0, 0}, new int[] {NEXT, 1, 0}, new int[] {NEXT, 2, 0},
            new int[] {OR, 1, 2}, new int[] {OR, 4, 3}, new int[] {FALSE, 0, 0});
    }

    private static void waysOfAndOr() {
        sentence("AND: a way of the first one joined with a way of the second, for all such. OR: all of both.");
        MachineMaker m = withChoices();
        due("two of one, one of the other", m.ways(m.formula(AND, 4, 3), 0), 2);
        due("none of the first", m.ways(m.formula(AND, 6, 4), 0), 0);
        due("none of the second", m.ways(m.formula(AND, 4, 6), 0), 0);
        due("OR with none", m.ways(m.formula(OR, 6, 4), 0), 2);
        due("OR of two and one", m.ways(5, 0), 3);
        sentence("(Joined: both unions. Equal pairs are one way.)");
        // what is to hold next: 0 or 1, joined with 0, 1 or 2: 0, 01, 02, 1, 12
        due("AND of two and three with two in common", m.ways(m.formula(AND, 4, 5), 0), 5);
        due("OR of two and three with two in common", m.ways(m.formula(OR, 4, 5), 0), 3);
        due("AND of one with itself", m.ways(m.formula(AND, 3, 3), 0), 1);
    }

    private static void waysOfNext() {
        sentence("NEXT of f: one: f; nothing put off");
        MachineMaker m = of(new int[] {FALSE, 0, 0}, new int[] {TRUE, 0, 0}, new int[] {UNTIL, 1, 0},
            new int[] {NEXT, 0, 0}, new int[] {NEXT, 2, 0});
        due("though f has none", m.ways(3, 0), 1);
        due("though f has put off", m.ways(4, 0), 1);
        due("one with the UNTIL to hold next, one with it put off, too", m.ways(m.formula(OR, 4, 2), 0), 2);
        due("FALSE comes to hold next", m.states(3), 2);
    }

    private static void waysOfUntil() {
        sentence("UNTIL of f and g: all of g; and each of f, with the UNTIL itself to hold next and put off");
        MachineMaker m = withChoices();
        due("of two and three", m.ways(m.formula(UNTIL, 4, 5), 0), 5);
        due("of three and two", m.ways(m.formula(UNTIL, 5, 4), 0), 5);
        due("of none and three", m.ways(m.formula(UNTIL, 6, 5), 0), 3);
        due("of three and none", m.ways(m.formula(UNTIL, 5, 6), 0), 3);
        due("of none and none", m.ways(m.formula(UNTIL, 6, 6), 0), 0);
        due("f for ever, the UNTIL itself and nothing else", m.states(m.formula(UNTIL, 0, 6)), 1);
    }

    private static void waysOfRelease() {
        sentence("RELEASE of f and g: each of g joined with each of f; and each of g, with the RELEASE itself");
        MachineMaker m = withChoices();
        due("of three and one", m.ways(m.formula(RELEASE, 5, 0), 1), 4);
        due("of one and three", m.ways(m.formula(RELEASE, 0, 5), 1), 6);
        due("of two and three, two in common", m.ways(m.formula(RELEASE, 4, 5), 0), 8);
        due("of none and three", m.ways(m.formula(RELEASE, 6, 5), 0), 3);
        due("of three and none", m.ways(m.formula(RELEASE, 5, 6), 0), 0);
        int always = m.formula(RELEASE, 6, 0);
        due("the RELEASE itself and nothing else", m.states(always), 1);
        int orNext = m.formula(OR, always, m.formula(NEXT, always, 0));
        due("to hold next, as by NEXT, and not put off", m.ways(orNext, 1), 1);
    }

    private static void waysOfTheEmptySet() {
        sentence("of the empty set: one, of empty sets");
        MachineMaker m = of(new int[] {TRUE, 0, 0}, new int[] {FALSE, 0, 0});
        due("TRUE comes to the empty set, that to itself", m.states(0), 2);
        // if the empty set had no ways, the counters of TRUE would stop, and a machine would win
        for (int bound = 0; bound <= 3; bound++) {
            due("counters go on in the empty set, bound " + bound, m.solve(1, bound), OPPONENT);
        }
    }

    public static void main(String[] args) {
        fiveHundredTwelveCalls();
        letterBounds();
        inputBitsAndOutputBits();
        letterOfInputAndOutput();
        numbersAsTheyAreMade();
        builtAlike();
        atMostTwentyEight();
        trueAlwaysFalseNever();
        bitsOfALetter();
        bothOrAtLeastOne();
        atTheNextPlace();
        untilThereOrLater();
        releaseAllOrUpToOne();
        dualOfEachKind();
        dualJustWhenNot();
        holdsAtPlaceNought();
        waysOfTheLeast();
        waysOfAndOr();
        waysOfNext();
        waysOfUntil();
        waysOfRelease();
        waysOfTheEmptySet();
        finish("each edge of the terms holds");
    }
}
