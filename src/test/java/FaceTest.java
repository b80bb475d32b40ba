import java.lang.management.ManagementFactory;
import java.lang.reflect.Constructor;
import java.lang.reflect.Field;
import java.lang.reflect.Method;
import java.lang.reflect.Modifier;
import java.util.Set;
import java.util.TreeSet;

/** The face is the document's and no more, and the dearest calls leave room for others. */
public final class FaceTest {
    /** 512 calls may make this many bytes; the room is some 7.3 million fields and elements. */
    private static final long MOST_BYTES = 2_000_000L;

    private static int wrong = 0;

    private static void due(String what, Object got, Object want) {
        if (!got.equals(want)) {
            wrong++;
            System.out.println(what + ": is " + got + ", due is " + want);
        }
    }

    private static void face() {
        Set<String> want = new TreeSet<>(Set.of("public MachineMaker()",
            "public static final int MachineMaker.BAD", "public static final int MachineMaker.ROOM",
            "public int MachineMaker.formula(int,int,int)", "public int MachineMaker.dual(int)",
            "public int MachineMaker.formulas()", "public int MachineMaker.has(int,long,int,long,int)",
            "public int MachineMaker.ways(int,int)", "public int MachineMaker.states(int)",
            "public int MachineMaker.solve(int,int)", "public int MachineMaker.size(int)",
            "public int MachineMaker.gives(int,int)", "public int MachineMaker.next(int,int)"));
        Set<String> got = new TreeSet<>();
        for (Constructor<?> made : MachineMaker.class.getDeclaredConstructors()) {
            got.add(made.toString());
        }
        for (Field field : MachineMaker.class.getDeclaredFields()) {
            if (!Modifier.isPrivate(field.getModifiers())) {
                got.add(field.toString());
            }
        }
        for (Method method : MachineMaker.class.getDeclaredMethods()) {
            if (!Modifier.isPrivate(method.getModifiers()) && !method.isSynthetic()) {
                got.add(method.toString());
            }
        }
        due("the face", got, want);
        int modifiers = MachineMaker.class.getModifiers();
        due("public and final", Modifier.isPublic(modifiers) && Modifier.isFinal(modifiers), true);
        due("BAD", MachineMaker.BAD, -1);
        due("ROOM", MachineMaker.ROOM, -2);
    }

    /** Formulas with many ways, states and positions, asked in turn. */
    private static void dearCalls() {
        MachineMaker m = new MachineMaker();
        int yes = m.formula(0, 0, 0);
        int no = m.formula(1, 0, 0);
        for (int bit = 0; bit < 3; bit++) {
            m.formula(7, yes, m.formula(2, bit, 0));
        }
        for (int made = 0; made < 60 && m.formulas() < 28; made++) {
            int last = m.formulas() - 1;
            m.formula(4 + last % 5, last, last - 1 - last % 3);
        }
        for (int call = m.formulas(); call < 512; call++) {
            int f = call % 28;
            switch (call % 4) {
                case 0 -> m.ways(f, call % 16);
                case 1 -> m.states(f);
                case 2 -> m.has(f, call * 7919L, 8, call * 104729L, 8);
                default -> m.solve(f, 3);
            }
        }
        due("the last bad call", m.next(no, 9), -1);
    }

    private static void room() {
        if (!(ManagementFactory.getThreadMXBean() instanceof com.sun.management.ThreadMXBean bean)) {
            System.out.println("bytes can't be counted here");
            return;
        }
        dearCalls();
        long me = Thread.currentThread().getId();
        long before = bean.getThreadAllocatedBytes(me);
        dearCalls();
        long bytes = bean.getThreadAllocatedBytes(me) - before;
        due("512 dear calls stay under " + MOST_BYTES + " bytes, they made " + bytes, bytes < MOST_BYTES, true);
        before = bean.getThreadAllocatedBytes(me);
        new MachineMaker();
        bytes = bean.getThreadAllocatedBytes(me) - before;
        due("an object stays under 60000 bytes, it made " + bytes, bytes < 60_000L, true);
    }

    /** Whatever the numbers are, and in whatever state, no call throws. */
    private static void wildNumbers() {
        int[] wild = {Integer.MIN_VALUE, -2, -1, 0, 1, 2, 3, 4, 7, 8, 9, 15, 16, 27, 28, 100, Integer.MAX_VALUE};
        MachineMaker[] makers = {new MachineMaker(), new MachineMaker()};
        makers[1].formula(2, 2, 0);
        makers[1].solve(0, 0);
        for (MachineMaker m : makers) {
            for (int a : wild) {
                for (int b : wild) {
                    m.gives(a, b);
                    m.next(a, b);
                    m.ways(a, b);
                    m.solve(a, b);
                    m.has(a, Long.MIN_VALUE, b, Long.MAX_VALUE, 1);
                    m.has(a, Long.MAX_VALUE, 8, Long.MIN_VALUE, b);
                    m.formula(a, b, b);
                }
                m.dual(a);
                m.states(a);
                m.size(a);
            }
        }
    }

    public static void main(String[] args) {
        face();
        room();
        wildNumbers();
        System.out.println(wrong == 0 ? "the face is the document's" : wrong + " things are not as due");
        if (wrong != 0) {
            System.exit(1);
        }
    }
}
