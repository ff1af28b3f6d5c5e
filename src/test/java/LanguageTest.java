import java.io.DataInputStream;
import java.io.IOException;
import java.lang.reflect.Constructor;
import java.lang.reflect.Field;
import java.lang.reflect.Method;
import java.lang.reflect.Modifier;
import java.nio.file.Files;
import java.nio.file.Path;
import java.util.List;
import java.util.Set;
import java.util.TreeSet;
import java.util.regex.Matcher;
import java.util.regex.Pattern;

/** What of LANGUAGE.md a look at the class and its source can tell. */
public final class LanguageTest {
    private static final Set<String> FACE = Set.of("type(int)int", "clear()int", "grid()int", "number(int)int",
        "side(int)int", "sideOf(int,int,int)int", "marks(int,int)int", "numbers(int,int)int", "step()int",
        "spreads()int", "undo()int", "hint(int)int", "hinted()long", "many(int)int", "loop(int)long",
        "forced(int)long", "inside(int)int", "numbersThat(int)int", "tryNext()int", "keep(int)int", "back(int)int",
        "count(int)int");
    private static int wrong = 0;

    private static void holds(boolean so, String what) {
        if (!so) {
            wrong++;
            System.out.println(what);
        }
    }

    private static void face() {
        Class<?> c = NumberedLoops.class;
        holds(Modifier.isPublic(c.getModifiers()) && Modifier.isFinal(c.getModifiers()), "public and final");
        Set<String> face = new TreeSet<>();
        Set<String> names = new TreeSet<>();
        for (Method m : c.getDeclaredMethods()) {
            if (Modifier.isPublic(m.getModifiers())) {
                face.add(signature(m));
                names.add(m.getName());
            }
        }
        holds(face.equals(FACE), "the public methods are " + face);
        for (Method m : c.getDeclaredMethods()) {
            boolean hidden = Modifier.isPrivate(m.getModifiers()) && !names.contains(m.getName());
            holds(face.contains(signature(m)) || hidden, "not private, or with a public name: " + m);
            holds(m.getParameterCount() <= 7, "too many parameters: " + m);
        }
        for (Constructor<?> k : c.getDeclaredConstructors()) {
            holds(Modifier.isPublic(k.getModifiers()) && k.getParameterCount() == 0, "constructor " + k);
        }
        Set<String> constants = new TreeSet<>();
        for (Field f : c.getDeclaredFields()) {
            if (!Modifier.isPrivate(f.getModifiers())) {
                constants.add(f.getName());
            }
            holds(!Modifier.isStatic(f.getModifiers()) || Modifier.isFinal(f.getModifiers()), "not final: " + f);
        }
        holds(constants.equals(Set.of("BAD", "STATE", "FULL", "CLASHES", "NONE")), "constants " + constants);
    }

    private static String signature(Method m) {
        StringBuilder s = new StringBuilder(m.getName()).append('(');
        for (Class<?> p : m.getParameterTypes()) {
            s.append(s.charAt(s.length() - 1) == '(' ? "" : ",").append(p.getName());
        }
        return s.append(')').append(m.getReturnType().getName()).toString();
    }

    private static void classesInside() {
        holds(NumberedLoops.class.getDeclaredClasses().length <= 12, "too many classes");
        for (Class<?> c : NumberedLoops.class.getDeclaredClasses()) {
            holds(Modifier.isStatic(c.getModifiers()) && !Modifier.isPublic(c.getModifiers()), "public or not static: " + c);
            holds(c.getDeclaredClasses().length == 0, "a class inside a class inside: " + c);
            fieldsOf(c);
            for (Method m : c.getDeclaredMethods()) {
                holds(m.getParameterCount() <= 7, "too many parameters: " + m);
                holds(FACE.stream().noneMatch(f -> f.startsWith(m.getName() + "(")), "with a public name: " + m);
            }
        }
    }

    private static void fieldsOf(Class<?> c) {
        int fields = 0;
        for (Field f : c.getDeclaredFields()) {
            boolean isStatic = Modifier.isStatic(f.getModifiers());
            fields += isStatic ? 0 : 1;
            holds(!isStatic || Modifier.isFinal(f.getModifiers()), "not final: " + f);
        }
        holds(fields <= 20, "too many fields: " + c);
    }

    /** What is called of the library, each name with its class. */
    private static void library(String at, String code) {
        Set<String> wanted = Set.of("Math.min", "Math.max", "Long.bitCount", "Long.numberOfTrailingZeros", "Arrays.fill");
        Matcher m = Pattern.compile("\\b(Math|Long|Integer|Arrays|String|StringBuilder|List|ArrayList)\\b(\\.\\w+)?")
            .matcher(code.startsWith("import ") ? "" : code);
        while (m.find()) {
            holds(wanted.contains(m.group()), at + "not wanted of the library: " + m.group());
        }
    }

    /** All that the class and the classes inside it name of the library, as their class files say. */
    private static void classFiles() throws IOException {
        Set<String> wanted = Set.of("java/lang/Object", "java/lang/Object.<init>", "java/lang/Math", "java/lang/Math.min",
            "java/lang/Math.max", "java/lang/Long", "java/lang/Long.bitCount", "java/lang/Long.numberOfTrailingZeros",
            "java/util/Arrays", "java/util/Arrays.fill");
        Set<String> named = namedBy(NumberedLoops.class);
        for (Class<?> c : NumberedLoops.class.getDeclaredClasses()) {
            named.addAll(namedBy(c));
        }
        for (String name : named) {
            boolean own = name.startsWith("NumberedLoops") || name.startsWith("[");
            holds(own || wanted.contains(name), "not wanted of the library: " + name);
        }
        holds(named.contains("java/util/Arrays.fill"), "the class files were not read");
    }

    /** The classes, fields and methods in a class file's row of constants. */
    private static Set<String> namedBy(Class<?> c) throws IOException {
        try (DataInputStream in = new DataInputStream(c.getResourceAsStream(c.getName() + ".class"))) {
            in.skipBytes(8);
            int size = in.readUnsignedShort();
            String[] texts = new String[size];
            int[] kinds = new int[size];
            int[][] parts = new int[size][2];
            for (int i = 1; i < size; i++) {
                kinds[i] = in.readUnsignedByte();
                switch (kinds[i]) {
                    case 1 -> texts[i] = in.readUTF();
                    case 3, 4 -> in.readInt();
                    case 5, 6 -> in.readLong();
                    case 7, 8, 16, 19, 20 -> parts[i][0] = in.readUnsignedShort();
                    case 15 -> in.skipBytes(3);
                    default -> parts[i] = new int[] {in.readUnsignedShort(), in.readUnsignedShort()};
                }
                i += kinds[i] == 5 || kinds[i] == 6 ? 1 : 0;
            }
            Set<String> named = new TreeSet<>();
            for (int i = 1; i < size; i++) {
                if (kinds[i] == 7) {
                    named.add(texts[parts[i][0]]);
                } else if (kinds[i] >= 9 && kinds[i] <= 11) {
                    named.add(texts[parts[parts[i][0]][0]] + "." + texts[parts[parts[i][1]][0]]);
                }
                holds(kinds[i] != 17 && kinds[i] != 18, "something is linked at run time: " + c);
            }
            return named;
        }
    }

    private static void source() throws IOException {
        List<String> lines = Files.readAllLines(Path.of("src/main/java/NumberedLoops.java"));
        Pattern unwanted = Pattern.compile("\\b(throw|throws|try|catch|finally|synchronized|assert|package|Exact|Object"
            + "|System|Thread|Random|protected)\\b|->|::|Exact\\(");
        // Objects are made with the object alone, never by a call: so no run of calls can fill the room.
        Pattern making = Pattern.compile("^ +private final \\S+ \\w+ = new .*|^ +\\w+ = new (long|int)\\[.*");
        int since = 0;
        for (int i = 0; i < lines.size(); i++) {
            String line = lines.get(i);
            String code = line.trim().startsWith("*") || line.trim().startsWith("/") ? "" : line;
            String at = "line " + (i + 1) + ": ";
            holds(!unwanted.matcher(code).find(), at + "not in the language: " + line);
            holds(!code.startsWith("import ") || code.equals("import java.util.Arrays;"), at + line);
            holds(!code.contains(" new ") || making.matcher(code).matches(), at + "makes an object: " + line);
            holds(!code.contains(" while "), at + "a loop without a counter: " + line);
            holds(!code.contains("][") && !code.contains("\""), at + "rows of rows, or a text: " + line);
            library(at, code);
            holds(line.chars().allMatch(c -> c < 128), at + "not ASCII");
            boolean opens = code.matches(" {4,8}(public|private|static|final|int|long|boolean|void|[A-Z]\\w*).*\\) \\{");
            since = opens ? i : since;
            boolean ends = code.matches(" {4,8}\\}");
            holds(!ends || i - since <= 60 || code.startsWith("    }"), at + "a method of over sixty lines");
        }
    }

    public static void main(String[] args) throws IOException {
        face();
        classesInside();
        classFiles();
        source();
        System.out.println(wrong == 0 ? "the language is kept to" : wrong + " rules are broken");
        if (wrong != 0) {
            System.exit(1);
        }
    }
}
