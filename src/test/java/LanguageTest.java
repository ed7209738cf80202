import java.io.DataInputStream;
import java.io.IOException;
import java.lang.reflect.Constructor;
import java.lang.reflect.Field;
import java.lang.reflect.Method;
import java.lang.reflect.Modifier;
import java.nio.file.Files;
import java.nio.file.Path;
import java.util.ArrayList;
import java.util.Arrays;
import java.util.List;
import java.util.Set;
import java.util.TreeSet;

/** The face that the document tells, and what LANGUAGE.md does not allow. */
public final class LanguageTest {
    private static final String FACE = "int letter(int) int guild() int writer(int,int) int place(int) "
        + "int book(int,int) int changes(int,int) int hushes(int) int styles(int,int) int famed(int,int) "
        + "int turn(int,int,int) int years(int) int fameThen(int,int) int opensThen(int,int) int worth() "
        + "int well() int read(int) int famous(int,int) int first(int) int leads(int) int ring(int) int bribe() "
        + "int ownBribe(int) int page(int,int) int ender(int,int) int hush() int moves(int) int mutual() "
        + "int chain(int) int same(int) int ending(int) int join() int two(int,int) "
        + "long censor(int,int,int,int,int) long mean(int) int whoEnded(int) int whatIs(int,int) int row(int) "
        + "int judge() int clear() int lots(int,int,int) int image() int on() int count(int)";

    private static final Set<String> LIBRARY = Set.of("java/lang/Object.<init>", "java/lang/String.length",
        "java/lang/String.charAt", "java/lang/String.isEmpty", "java/lang/String.indexOf", "java/lang/Math.max",
        "java/lang/Math.min", "java/lang/Math.abs", "java/lang/Integer.bitCount");

    public static void main(String[] args) throws IOException {
        face();
        insides();
        library();
        words(Files.readString(Path.of("src/main/java/FinishedByAnother.java")));
        Due.close("LanguageTest");
    }

    private static void face() {
        Class<?> c = FinishedByAnother.class;
        Due.holds("public and final", Modifier.isPublic(c.getModifiers()) && Modifier.isFinal(c.getModifiers()));
        Constructor<?>[] made = c.getDeclaredConstructors();
        Due.holds("one public constructor without numbers",
            made.length == 1 && Modifier.isPublic(made[0].getModifiers()) && made[0].getParameterCount() == 0);
        TreeSet<String> face = new TreeSet<>();
        for (Method m : c.getDeclaredMethods()) {
            if (!Modifier.isPrivate(m.getModifiers())) {
                face.add(m.getReturnType() + " " + m.getName()
                    + Arrays.toString(m.getParameterTypes()).replace("[", "(").replace("]", ")").replace(" ", ""));
                Due.holds(m.getName() + " is public and of an object",
                    Modifier.isPublic(m.getModifiers()) && !Modifier.isStatic(m.getModifiers()));
            }
        }
        TreeSet<String> due = new TreeSet<>();
        for (String call : FACE.split("(?<=\\)) ")) {
            due.add(call);
        }
        Due.is("calls of the document", due.size(), 43);
        Due.holds("the face is " + face, face.equals(due));
    }

    private static void insides() {
        List<Class<?>> all = new ArrayList<>(List.of(FinishedByAnother.class.getDeclaredClasses()));
        Due.holds("at most twelve classes", all.size() < 12);
        TreeSet<String> names = new TreeSet<>();
        for (Method m : FinishedByAnother.class.getMethods()) {
            names.add(m.getName());
        }
        for (Class<?> c : all) {
            Due.holds(c + " is static and not public",
                Modifier.isStatic(c.getModifiers()) && !Modifier.isPublic(c.getModifiers()));
        }
        all.add(FinishedByAnother.class);
        for (Class<?> c : all) {
            int fields = 0;
            for (Field f : c.getDeclaredFields()) {
                boolean fixed = Modifier.isStatic(f.getModifiers());
                fields += fixed ? 0 : 1;
                Due.holds(f + " is private", Modifier.isPrivate(f.getModifiers()));
                Due.holds(f + " is final, being static", !fixed || Modifier.isFinal(f.getModifiers()));
            }
            Due.holds(c + " has at most twenty fields", fields <= 20);
            for (Method m : c.getDeclaredMethods()) {
                Due.holds(m + " bears a public name", Modifier.isPublic(m.getModifiers()) || !names.contains(m.getName()));
                Due.holds(m + " takes at most seven numbers", m.getParameterCount() <= 7);
                Due.holds(m + " is made by the compiler", !m.isSynthetic());
            }
        }
    }

    /** What the compiled classes name: of the library only what LANGUAGE.md lists, and nothing made at run time. */
    private static void library() throws IOException {
        List<Class<?>> all = new ArrayList<>(List.of(FinishedByAnother.class.getDeclaredClasses()));
        all.add(FinishedByAnother.class);
        for (Class<?> c : all) {
            Due.holds(c + " is of Object", c.getSuperclass() == Object.class && c.getInterfaces().length == 0);
            Due.holds(c + " has no package", c.getPackageName().isEmpty());
            try (DataInputStream in = new DataInputStream(FinishedByAnother.class.getResourceAsStream(c.getName() + ".class"))) {
                for (String named : named(in)) {
                    Due.holds(c + " names " + named, named.startsWith("FinishedByAnother") || LIBRARY.contains(named));
                }
            }
        }
    }

    /** The methods and fields that a class file's pool of constants names, as Class.name. */
    private static List<String> named(DataInputStream in) throws IOException {
        in.readLong();
        int size = in.readUnsignedShort();
        String[] texts = new String[size];
        int[] tags = new int[size];
        int[][] pairs = new int[size][2];
        for (int i = 1; i < size; i++) {
            tags[i] = in.readUnsignedByte();
            switch (tags[i]) {
                case 1: texts[i] = in.readUTF(); break;
                case 3: case 4: in.readInt(); break;
                case 5: case 6: in.readLong(); i++; break;
                case 7: case 8: pairs[i][0] = in.readUnsignedShort(); break;
                case 9: case 10: case 11: case 12:
                    pairs[i][0] = in.readUnsignedShort();
                    pairs[i][1] = in.readUnsignedShort();
                    break;
                default: return List.of("a constant of the kind " + tags[i]);
            }
        }
        List<String> named = new ArrayList<>();
        for (int i = 1; i < size; i++) {
            if (tags[i] >= 9 && tags[i] <= 11) {
                named.add(texts[pairs[pairs[i][0]][0]] + "." + texts[pairs[pairs[i][1]][0]]);
            }
        }
        return named;
    }

    private static void words(String source) {
        String code = source.replaceAll("(?s)/\\*.*?\\*/", " ").replaceAll("//[^\n]*", " ");
        for (String word : List.of("throw", "throws", "try", "catch", "synchronized", "assert", "import", "package",
                "equals", "hashCode", "toString", "float", "double", "native", "System", "Random", "Thread", "Object")) {
            Due.holds("the word " + word, !code.matches("(?s).*\\b" + word + "\\b.*"));
        }
        for (String sign : List.of("->", "::", "Exact", "new int[][", "static {", "@")) {
            Due.holds("the sign " + sign, !code.contains(sign));
        }
        for (char c : source.toCharArray()) {
            if (c != '\n' && (c < ' ' || c > '~')) {
                Due.holds("the letter " + (int) c, false);
            }
        }
        int length = 0;
        for (String line : source.split("\n")) {
            length = line.equals("    }") || line.equals("        }") ? 0 : length + 1;
            Due.holds("a method of at most some sixty lines: " + line, length <= 60);
        }
        for (String line : code.split("\n")) {
            Due.holds("made once, in a constructor: " + line.trim(),
                !line.contains("new ") || line.matches(" +private final \\w+ \\w+ = new .*") || line.contains("cells = new int["));
        }
    }
}
