import java.io.DataInputStream;
import java.io.IOException;
import java.io.InputStream;
import java.lang.reflect.Field;
import java.lang.reflect.Method;
import java.lang.reflect.Modifier;
import java.util.ArrayList;
import java.util.HashSet;
import java.util.List;
import java.util.Set;
import java.util.TreeSet;

/** The rules of LANGUAGE.md that can be read off the compiled class: which library it calls, and how much it holds. */
public final class LanguageTest extends Check {
    /** What the class needs of rule 4's library; whoever needs more looks the rule up and adds it here. */
    private static final Set<String> ALLOWED = Set.of(
        "java/lang/Object.<init>()V",
        "java/lang/System.arraycopy(Ljava/lang/Object;ILjava/lang/Object;II)V",
        "java/util/Arrays.fill([II)V",
        "java/util/Arrays.copyOf([JI)[J");
    private static final Set<Class<?>> STATIC_TYPES = Set.of(int.class, long.class, boolean.class, char.class,
        String.class, int[].class, long[].class, char[].class, byte[].class);

    /** The constants of a class file; what this test does not look at is left null. */
    private static final class Constants {
        private static final int TEXT = 1;
        private static final int LONG = 5;
        private static final int DOUBLE = 6;
        private static final int CLASS = 7;
        private static final int FIELD = 9;
        private static final int METHOD = 10;
        private static final int INTERFACE_METHOD = 11;
        private static final int NAME_AND_TYPE = 12;
        private static final int HANDLE = 15;
        private static final int DYNAMIC = 17;
        private static final int INVOKE_DYNAMIC = 18;

        private final String[] texts;
        private final int[] tags;
        private final int[] firsts;
        private final int[] seconds;

        Constants(DataInputStream in) throws IOException {
            in.skipBytes(8);
            int count = in.readUnsignedShort();
            texts = new String[count];
            tags = new int[count];
            firsts = new int[count];
            seconds = new int[count];
            for (int i = 1; i < count; i++) {
                tags[i] = in.readUnsignedByte();
                read(in, i);
                if (tags[i] == LONG || tags[i] == DOUBLE) {
                    i++;
                }
            }
        }

        private void read(DataInputStream in, int i) throws IOException {
            switch (tags[i]) {
                case TEXT -> texts[i] = in.readUTF();
                case LONG, DOUBLE -> in.readLong();
                case CLASS, 8, 16, 19, 20 -> firsts[i] = in.readUnsignedShort();
                case HANDLE -> in.skipBytes(3);
                default -> {
                    firsts[i] = in.readUnsignedShort();
                    seconds[i] = in.readUnsignedShort();
                }
            }
        }

        /** Each field and method that the class uses, as OWNER.NAMETYPE; something made at run time by its tag. */
        List<String> used() {
            List<String> found = new ArrayList<>();
            for (int i = 1; i < tags.length; i++) {
                switch (tags[i]) {
                    case FIELD, METHOD, INTERFACE_METHOD -> {
                        int what = seconds[i];
                        found.add(texts[firsts[firsts[i]]] + "." + texts[firsts[what]] + texts[seconds[what]]);
                    }
                    case DYNAMIC, INVOKE_DYNAMIC -> found.add("made at run time, constant " + i);
                    default -> {
                    }
                }
            }
            return found;
        }
    }

    private static boolean isOwn(String used) {
        return used.startsWith("MachineMaker.") || used.startsWith("MachineMaker$");
    }

    private static void library(Class<?> type) throws IOException {
        Set<String> beyond = new TreeSet<>();
        try (InputStream bytes = LanguageTest.class.getResourceAsStream(type.getName() + ".class")) {
            for (String used : new Constants(new DataInputStream(bytes)).used()) {
                if (!isOwn(used) && !ALLOWED.contains(used)) {
                    beyond.add(used);
                }
            }
        }
        dueTrue("rule 4, " + type.getName() + " uses " + beyond, beyond.isEmpty());
    }

    private static void fields(Class<?> type) {
        int held = 0;
        for (Field field : type.getDeclaredFields()) {
            if (!Modifier.isStatic(field.getModifiers())) {
                held++;
                continue;
            }
            dueTrue("rule 5, static and not final: " + field, Modifier.isFinal(field.getModifiers()));
            dueTrue("rule 5, static of this type: " + field, STATIC_TYPES.contains(field.getType()));
        }
        dueTrue("rule 11, " + type.getName() + " has " + held + " fields", held <= 20);
    }

    private static void methods(Class<?> type, Set<String> face) {
        for (Method method : type.getDeclaredMethods()) {
            dueTrue("rule 11, too many parameters: " + method, method.getParameterCount() <= 7);
            boolean hidden = Modifier.isPrivate(method.getModifiers());
            dueTrue("rule 1, private and named like the face: " + method, !hidden || !face.contains(method.getName()));
        }
    }

    private static Set<String> faceNames() {
        Set<String> names = new HashSet<>();
        for (Method method : MachineMaker.class.getDeclaredMethods()) {
            if (Modifier.isPublic(method.getModifiers())) {
                names.add(method.getName());
            }
        }
        return names;
    }

    public static void main(String[] args) throws IOException {
        List<Class<?>> types = new ArrayList<>(List.of(MachineMaker.class.getDeclaredClasses()));
        dueTrue("rule 11, classes inside: " + types.size(), types.size() < 12);
        for (Class<?> type : types) {
            int modifiers = type.getModifiers();
            dueTrue("rule 1, not static: " + type, Modifier.isStatic(modifiers));
            dueTrue("rule 1, public or protected: " + type,
                !Modifier.isPublic(modifiers) && !Modifier.isProtected(modifiers));
        }
        types.add(MachineMaker.class);
        for (Class<?> type : types) {
            library(type);
            fields(type);
            methods(type, faceNames());
        }
        finish("the class keeps to the language");
    }
}
