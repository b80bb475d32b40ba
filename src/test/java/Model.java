import java.util.ArrayList;
import java.util.HashMap;
import java.util.HashSet;
import java.util.LinkedHashMap;
import java.util.List;
import java.util.Map;
import java.util.Set;
import java.util.TreeSet;

/**
 * The document once more, word by word and with the Java library, with no thought of speed: what the
 * program answers is compared with what this one answers.
 */
final class Model {
    record Formula(int kind, int a, int b) { }

    record Way(Set<Integer> next, Set<Integer> putOff) { }

    record State(Set<Integer> set, int number) { }

    record Step(State to, boolean good) { }

    static final class NoRoom extends Exception {
        private static final long serialVersionUID = 1L;
    }

    final List<Formula> list = new ArrayList<>();
    int won = 0;
    int positions = 0;
    int safePositions = 0;
    final List<int[]> gives = new ArrayList<>();
    final List<int[]> next = new ArrayList<>();

    boolean there(int f) {
        return f >= 0 && f < list.size();
    }

    int make(Formula formula) throws NoRoom {
        int at = list.indexOf(formula);
        if (at >= 0) {
            return at;
        }
        if (list.size() == 28) {
            throw new NoRoom();
        }
        list.add(formula);
        return list.size() - 1;
    }

    int formula(int kind, int a, int b) {
        Formula formula;
        switch (kind) {
            case 0, 1 -> formula = new Formula(kind, 0, 0);
            case 2, 3 -> formula = a < 0 || a > 3 ? null : new Formula(kind, a, 0);
            case 6 -> formula = there(a) ? new Formula(kind, a, 0) : null;
            case 4, 5, 7, 8 -> formula = there(a) && there(b) ? new Formula(kind, a, b) : null;
            default -> formula = null;
        }
        if (formula == null) {
            return -1;
        }
        try {
            return make(formula);
        } catch (NoRoom e) {
            return -2;
        }
    }

    int makeDual(int f) throws NoRoom {
        Formula x = list.get(f);
        switch (x.kind) {
            case 0: return make(new Formula(1, 0, 0));
            case 1: return make(new Formula(0, 0, 0));
            case 2: return make(new Formula(3, x.a, 0));
            case 3: return make(new Formula(2, x.a, 0));
            case 6: return make(new Formula(6, makeDual(x.a), 0));
            default:
                int a = makeDual(x.a);
                int b = makeDual(x.b);
                int kind = x.kind == 4 ? 5 : x.kind == 5 ? 4 : x.kind == 7 ? 8 : 7;
                return make(new Formula(kind, a, b));
        }
    }

    int dual(int f) {
        if (!there(f)) {
            return -1;
        }
        try {
            return makeDual(f);
        } catch (NoRoom e) {
            return -2;
        }
    }

    /** Whether a formula holds at a place of a word, looked at far enough ahead to have seen all. */
    private boolean holds(int f, int[] word, int n, int m, int place, Map<String, Boolean> known) {
        int at = place < n + m ? place : n + (place - n) % m;
        String key = f + "," + at;
        Boolean former = known.get(key);
        if (former != null) {
            return former;
        }
        Formula x = list.get(f);
        boolean answer = false;
        switch (x.kind) {
            case 0: answer = true; break;
            case 1: answer = false; break;
            case 2: answer = (word[at] >> x.a & 1) == 1; break;
            case 3: answer = (word[at] >> x.a & 1) == 0; break;
            case 4: answer = holds(x.a, word, n, m, at, known) && holds(x.b, word, n, m, at, known); break;
            case 5: answer = holds(x.a, word, n, m, at, known) || holds(x.b, word, n, m, at, known); break;
            case 6: answer = holds(x.a, word, n, m, at + 1, known); break;
            case 7:
                for (int k = at; k <= at + n + 2 * m; k++) {
                    if (holds(x.b, word, n, m, k, known)) {
                        answer = true;
                        break;
                    }
                    if (!holds(x.a, word, n, m, k, known)) {
                        break;
                    }
                }
                break;
            default:
                answer = true;
                for (int k = at; k <= at + n + 2 * m; k++) {
                    if (!holds(x.b, word, n, m, k, known)) {
                        answer = false;
                        break;
                    }
                    if (holds(x.a, word, n, m, k, known)) {
                        break;
                    }
                }
                break;
        }
        known.put(key, answer);
        return answer;
    }

    static int[] word(long first, int n, long again, int m) {
        int[] word = new int[n + m];
        for (int i = 0; i < n; i++) {
            word[i] = (int) ((first >>> (4 * i)) & 15);
        }
        for (int i = 0; i < m; i++) {
            word[n + i] = (int) ((again >>> (4 * i)) & 15);
        }
        return word;
    }

    int has(int f, long first, int n, long again, int m) {
        if (!there(f) || n < 0 || n > 8 || m < 1 || m > 8) {
            return -1;
        }
        return holds(f, word(first, n, again, m), n, m, 0, new HashMap<>()) ? 1 : 0;
    }

    private static <T> Set<T> union(Set<T> a, Set<T> b) {
        Set<T> all = new HashSet<>(a);
        all.addAll(b);
        return all;
    }

    private static Set<Way> join(Set<Way> a, Set<Way> b) {
        Set<Way> all = new HashSet<>();
        for (Way x : a) {
            for (Way y : b) {
                all.add(new Way(union(x.next, y.next), union(x.putOff, y.putOff)));
            }
        }
        return all;
    }

    private static Set<Way> one(Set<Integer> next, Set<Integer> putOff) {
        return Set.of(new Way(next, putOff));
    }

    private static Set<Way> checked(Set<Way> ways) throws NoRoom {
        if (ways.size() > 60) {
            throw new NoRoom();
        }
        return ways;
    }

    Set<Way> waysOf(int f, int letter, Map<Integer, Set<Way>> known) throws NoRoom {
        if (known.containsKey(f)) {
            return known.get(f);
        }
        Formula x = list.get(f);
        Set<Way> empty = one(Set.of(), Set.of());
        Set<Way> a = x.kind >= 4 ? waysOf(x.a, letter, known) : null;
        Set<Way> b = x.kind >= 4 && x.kind != 6 ? waysOf(x.b, letter, known) : null;
        Set<Way> answer;
        switch (x.kind) {
            case 0: answer = empty; break;
            case 1: answer = Set.of(); break;
            case 2: answer = (letter >> x.a & 1) == 1 ? empty : Set.of(); break;
            case 3: answer = (letter >> x.a & 1) == 0 ? empty : Set.of(); break;
            case 4: answer = join(a, b); break;
            case 5: answer = union(a, b); break;
            case 6: answer = one(Set.of(x.a), Set.of()); break;
            case 7: answer = union(b, join(a, one(Set.of(f), Set.of(f)))); break;
            default: answer = union(join(b, a), join(b, one(Set.of(f), Set.of()))); break;
        }
        known.put(f, checked(answer));
        return answer;
    }

    int ways(int f, int letter) {
        if (!there(f) || letter < 0 || letter > 15) {
            return -1;
        }
        try {
            return waysOf(f, letter, new HashMap<>()).size();
        } catch (NoRoom e) {
            return -2;
        }
    }

    private void collectParts(int f, Set<Integer> parts) {
        if (!parts.add(f)) {
            return;
        }
        Formula x = list.get(f);
        if (x.kind >= 4) {
            collectParts(x.a, parts);
        }
        if (x.kind >= 4 && x.kind != 6) {
            collectParts(x.b, parts);
        }
    }

    /** The states that can be come to, each with its steps by each letter. */
    Map<State, List<Set<Step>>> automaton(int f) throws NoRoom {
        List<Map<Integer, Set<Way>>> known = new ArrayList<>();
        for (int letter = 0; letter < 16; letter++) {
            known.add(new HashMap<>());
            waysOf(f, letter, known.get(letter));
        }
        Set<Integer> parts = new TreeSet<>();
        collectParts(f, parts);
        List<Integer> untils = new ArrayList<>();
        for (int part : parts) {
            if (list.get(part).kind == 7) {
                untils.add(part);
            }
        }
        Map<State, List<Set<Step>>> steps = new LinkedHashMap<>();
        List<State> order = new ArrayList<>();
        order.add(new State(Set.of(f), 0));
        for (int i = 0; i < order.size(); i++) {
            if (order.size() > 16) {
                throw new NoRoom();
            }
            State from = order.get(i);
            List<Set<Step>> byLetter = new ArrayList<>();
            for (int letter = 0; letter < 16; letter++) {
                Set<Way> ways = one(Set.of(), Set.of());
                for (int g : new TreeSet<>(from.set)) {
                    ways = checked(join(ways, waysOf(g, letter, known.get(letter))));
                }
                Set<Step> here = new HashSet<>();
                for (Way way : ways) {
                    int number = from.number;
                    while (number < untils.size() && !way.putOff.contains(untils.get(number))) {
                        number++;
                    }
                    boolean good = number == untils.size();
                    State to = new State(way.next, good ? 0 : number);
                    here.add(new Step(to, good));
                    if (!order.contains(to)) {
                        order.add(to);
                    }
                }
                byLetter.add(here);
            }
            steps.put(from, byLetter);
        }
        return steps;
    }

    int states(int f) {
        if (!there(f)) {
            return -1;
        }
        try {
            return automaton(f).size();
        } catch (NoRoom e) {
            return -2;
        }
    }

    /** Whether the automaton can go by a word with endless many good steps. */
    boolean accepts(int f, long first, int n, long again, int m) throws NoRoom {
        Map<State, List<Set<Step>>> steps = automaton(f);
        int[] word = word(first, n, again, m);
        record Node(State state, int place) { }
        List<Node> reached = new ArrayList<>();
        reached.add(new Node(new State(Set.of(f), 0), 0));
        Map<Node, Set<Node>> all = new HashMap<>();
        Map<Node, Set<Node>> good = new HashMap<>();
        for (int i = 0; i < reached.size(); i++) {
            Node from = reached.get(i);
            int place = from.place + 1 < n + m ? from.place + 1 : n;
            all.put(from, new HashSet<>());
            good.put(from, new HashSet<>());
            for (Step step : steps.get(from.state).get(word[from.place])) {
                Node to = new Node(step.to, place);
                all.get(from).add(to);
                if (step.good) {
                    good.get(from).add(to);
                }
                if (!reached.contains(to)) {
                    reached.add(to);
                }
            }
        }
        for (Node from : reached) {
            for (Node to : good.get(from)) {
                Set<Node> seen = new HashSet<>(Set.of(to));
                List<Node> open = new ArrayList<>(seen);
                for (int i = 0; i < open.size(); i++) {
                    for (Node after : all.get(open.get(i))) {
                        if (seen.add(after)) {
                            open.add(after);
                        }
                    }
                }
                if (seen.contains(from)) {
                    return true;
                }
            }
        }
        return false;
    }

    /** The positions, each with what comes by each letter (null: lost). */
    Map<Map<State, Integer>, List<Map<State, Integer>>> game(int f, int bound) throws NoRoom {
        Map<State, List<Set<Step>>> steps = automaton(f);
        Map<Map<State, Integer>, List<Map<State, Integer>>> all = new LinkedHashMap<>();
        List<Map<State, Integer>> order = new ArrayList<>();
        Set<Map<State, Integer>> seen = new HashSet<>();
        order.add(beginning(f));
        seen.add(beginning(f));
        for (int i = 0; i < order.size(); i++) {
            if (order.size() > 100) {
                throw new NoRoom();
            }
            List<Map<State, Integer>> byLetter = new ArrayList<>();
            for (int letter = 0; letter < 16; letter++) {
                Map<State, Integer> after = new HashMap<>();
                boolean lost = false;
                for (Map.Entry<State, Integer> counter : order.get(i).entrySet()) {
                    for (Step step : steps.get(counter.getKey()).get(letter)) {
                        int value = counter.getValue() + (step.good ? 1 : 0);
                        lost |= value > bound;
                        after.merge(step.to, value, Math::max);
                    }
                }
                byLetter.add(lost ? null : after);
                if (!lost && seen.add(after)) {
                    order.add(after);
                }
            }
            all.put(order.get(i), byLetter);
        }
        return all;
    }

    private static Map<State, Integer> beginning(int f) {
        return Map.of(new State(Set.of(f), 0), 0);
    }

    private static int[] outputs(List<Map<State, Integer>> after, Set<Map<State, Integer>> safe) {
        int[] outputs = {-1, -1, -1, -1};
        for (int input = 0; input < 4; input++) {
            for (int output = 3; output >= 0; output--) {
                if (safe.contains(after.get(input + 4 * output))) {
                    outputs[input] = output;
                }
            }
        }
        return outputs;
    }

    private static int input(List<Map<State, Integer>> after, Set<Map<State, Integer>> safe) {
        for (int input = 0; input < 4; input++) {
            int good = 0;
            for (int output = 0; output < 4; output++) {
                good += safe.contains(after.get(input + 4 * output)) ? 1 : 0;
            }
            if (good == 4) {
                return input;
            }
        }
        return -1;
    }

    private boolean win(int f, int bound, boolean machine) throws NoRoom {
        Map<Map<State, Integer>, List<Map<State, Integer>>> game = game(f, bound);
        Set<Map<State, Integer>> safe = new HashSet<>(game.keySet());
        for (boolean changed = true; changed;) {
            Set<Map<State, Integer>> stay = new HashSet<>();
            for (Map<State, Integer> position : safe) {
                List<Map<State, Integer>> after = game.get(position);
                boolean stays = input(after, safe) >= 0;
                if (machine) {
                    stays = true;
                    for (int output : outputs(after, safe)) {
                        stays &= output >= 0;
                    }
                }
                if (stays) {
                    stay.add(position);
                }
            }
            changed = stay.size() != safe.size();
            safe = stay;
        }
        if (!safe.contains(beginning(f))) {
            return false;
        }
        positions = game.size();
        safePositions = safe.size();
        List<Map<State, Integer>> order = new ArrayList<>();
        order.add(beginning(f));
        for (int i = 0; i < order.size(); i++) {
            List<Map<State, Integer>> after = game.get(order.get(i));
            int[] outputs = outputs(after, safe);
            int input = input(after, safe);
            int[] givesHere = new int[4];
            int[] nextHere = new int[4];
            for (int by = 0; by < 4; by++) {
                Map<State, Integer> to = after.get(machine ? by + 4 * outputs[by] : input + 4 * by);
                if (!order.contains(to)) {
                    order.add(to);
                }
                givesHere[by] = machine ? outputs[by] : input;
                nextHere[by] = order.indexOf(to);
            }
            gives.add(givesHere);
            next.add(nextHere);
        }
        return true;
    }

    int solve(int f, int bound) {
        if (!there(f) || bound < 0 || bound > 3) {
            return -1;
        }
        won = 0;
        positions = 0;
        safePositions = 0;
        gives.clear();
        next.clear();
        try {
            won = win(makeDual(f), bound, true) ? 1 : win(f, bound, false) ? 2 : 0;
            return won;
        } catch (NoRoom e) {
            return -2;
        }
    }

    int size(int what) {
        return what == 0 ? gives.size() : what == 1 ? positions : what == 2 ? safePositions : -1;
    }

    int gives(int state, int input) {
        if (state < 0 || state >= gives.size()) {
            return -1;
        }
        if (won == 2) {
            return gives.get(state)[0];
        }
        return input < 0 || input > 3 ? -1 : gives.get(state)[input];
    }

    int next(int state, int by) {
        return state < 0 || state >= next.size() || by < 0 || by > 3 ? -1 : next.get(state)[by];
    }
}
