import java.io.DataInputStream;
import java.io.IOException;
import java.io.InputStream;
import java.lang.reflect.Constructor;
import java.lang.reflect.Field;
import java.lang.reflect.Method;
import java.lang.reflect.Modifier;
import java.nio.file.Files;
import java.nio.file.Path;
import java.util.List;
import java.util.Set;
import java.util.TreeSet;
import java.util.regex.Matcher;
import java.util.regex.Pattern;

/** The rules of LANGUAGE.md that can be seen from outside or in the text of the class. */
public final class LanguageTest {
    private static final Due T = new Due("LanguageTest");
    private static final String FACE = "feed5 end1 field0 rule0 force1 person2 spider2 inHedge1 work1 day0 lie1 cheer2 give3 "
            + "brush2 undo0 ahead3 made1 even1 home2 lowest3 lying2 had4 brushed3 skip2 owed1 rests4 ring1 pence2 note3 "
            + "ruled1 look2 seed1 breezes4 count1 image1 back1";

    /** Rule 4, "The library: only what stands here", as far as the class needs it. */
    private static final Set<String> LIBRARY = Set.of("Object.<init>", "String.length", "String.charAt", "String.indexOf",
            "Integer.bitCount", "Integer.numberOfTrailingZeros", "Math.max", "Math.min", "Math.abs",
            "System.arraycopy", "Arrays.copyOf", "Arrays.fill");

    public static void main(String[] args) throws Exception {
        String text = Files.readString(Path.of("src/main/java/GladSpider.java"));
        face();
        classesInside();
        text(text);
        libraryNamed(code(text));
        libraryUsed(GladSpider.class);
        for (Class<?> inside : GladSpider.class.getDeclaredClasses()) {
            libraryUsed(inside);
        }
        T.finish();
    }

    private static void face() {
        Set<String> seen = new TreeSet<>();
        for (Method m : GladSpider.class.getDeclaredMethods()) {
            int how = m.getModifiers();
            if (Modifier.isPublic(how)) {
                seen.add(m.getName() + m.getParameterCount());
                T.due(m.getName() + " answers int", m.getReturnType() == int.class ? 1 : 0, 1);
            } else {
                T.due(m.getName() + " is private", Modifier.isPrivate(how) ? 1 : 0, 1);
            }
        }
        T.due("the face " + seen, seen.equals(new TreeSet<>(List.of(FACE.split(" ")))) ? 1 : 0, 1);
        for (Field f : GladSpider.class.getDeclaredFields()) {
            boolean isNone = f.getName().equals("NONE");
            T.due(f.getName(), isNone == Modifier.isPublic(f.getModifiers()) && isNone != Modifier.isPrivate(f.getModifiers())
                    ? 1 : 0, 1);
        }
        Constructor<?>[] constructors = GladSpider.class.getDeclaredConstructors();
        T.due("one constructor", constructors.length, 1);
        T.due("public", Modifier.isPublic(constructors[0].getModifiers()) ? 1 : 0, 1);
        T.due("public, final class", GladSpider.class.getModifiers() & (Modifier.PUBLIC | Modifier.FINAL),
                Modifier.PUBLIC | Modifier.FINAL);
        T.due("NONE", GladSpider.NONE, -1);
    }

    private static void classesInside() {
        Class<?>[] inside = GladSpider.class.getDeclaredClasses();
        T.due("some twelve classes", inside.length < 12 ? 1 : 0, 1);
        for (Class<?> c : inside) {
            T.due(c.getName() + " is static", Modifier.isStatic(c.getModifiers()) ? 1 : 0, 1);
            int fields = 0;
            for (Field f : c.getDeclaredFields()) {
                boolean isStatic = Modifier.isStatic(f.getModifiers());
                fields += isStatic ? 0 : 1;
                T.due(f + " is final, if static", isStatic && !Modifier.isFinal(f.getModifiers()) ? 1 : 0, 0);
            }
            T.due(c.getName() + " has some twenty fields", fields <= 20 ? 1 : 0, 1);
            for (Method m : c.getDeclaredMethods()) {
                T.due(m + " bears no public name", (" " + FACE).matches(".* " + m.getName() + "\\d.*") ? 1 : 0, 0);
                T.due(m + " has seven parameters at most", m.getParameterCount() <= 7 ? 1 : 0, 1);
            }
        }
    }

    private static String code(String text) {
        return text.replaceAll("(?s)/\\*.*?\\*/", "").replaceAll("//[^\n]*", "").replaceAll("\"[^\"\n]*\"", "\"\"");
    }

    /**
     * Rule 4 has "the static functions of Integer, Long and Math", and none of their constants. The
     * compiler puts a constant's number in its place, so that only the text shows it.
     */
    private static void libraryNamed(String code) {
        Set<String> own = new TreeSet<>();
        for (Class<?> inside : GladSpider.class.getDeclaredClasses()) {
            own.add(inside.getSimpleName());
        }
        String body = code.replaceAll("(?m)^import java\\.util\\.Arrays;", "");
        T.due("no other import", body.contains("import ") ? 1 : 0, 0);
        Matcher named = Pattern.compile("\\b([A-Z][a-z]\\w*)\\s*\\.\\s*(\\w+)\\s*(\\()?").matcher(body);
        int many = 0;
        while (named.find()) {
            String name = named.group(1) + "." + named.group(2);
            boolean isFunction = named.group(3) != null && LIBRARY.contains(name);
            T.due(name + " is a function that stands in the library", own.contains(named.group(1)) || isFunction ? 1 : 0, 1);
            many++;
        }
        T.due("names of the library were found", many > 10 ? 1 : 0, 1);
    }

    /** What the compiled class calls outside itself, out of its table of constants. */
    private static void libraryUsed(Class<?> of) throws IOException {
        String file = of.getName() + ".class";
        try (InputStream bytes = of.getResourceAsStream(file); DataInputStream in = new DataInputStream(bytes)) {
            in.skipBytes(8);
            Object[] table = new Object[in.readUnsignedShort()];
            for (int i = 1; i < table.length; i++) {
                int tag = in.readUnsignedByte();
                switch (tag) {
                    case 1 -> table[i] = in.readUTF();
                    case 7 -> table[i] = in.readUnsignedShort();
                    case 9, 10, 11, 12 -> table[i] = new int[] {tag, in.readUnsignedShort(), in.readUnsignedShort()};
                    case 8 -> in.skipBytes(2);
                    case 3, 4 -> in.skipBytes(4);
                    case 5, 6 -> {
                        in.skipBytes(8);
                        i++;
                    }
                    default -> T.due(file + " has no constant of a kind (a call made up as it runs) like", tag, 0);
                }
            }
            for (Object constant : table) {
                if (constant instanceof int[] use && use[0] != 12) {
                    mayUse(table, use);
                }
            }
        }
    }

    private static void mayUse(Object[] table, int[] use) {
        String owner = (String) table[(int) table[use[1]]];
        String name = (String) table[((int[]) table[use[2]])[1]];
        String called = owner.substring(owner.lastIndexOf('/') + 1) + "." + name;
        T.due(called + " stands in the library", owner.startsWith("GladSpider") || LIBRARY.contains(called) ? 1 : 0, 1);
    }

    private static void text(String text) {
        String code = code(text);
        Matcher refused = Pattern.compile("\\b(throw|throws|try|catch|synchronized|assert|package|Random|Thread|"
                + "System\\.(?!arraycopy)\\w+|Math\\.\\w+Exact|hashCode)\\b|(?<!case [^\n]{0,60}|default )->|::").matcher(code);
        T.due("no refused word" + (refused.find() ? " " + refused.group() : ""), refused.reset().find() ? 1 : 0, 0);
        int lines = 0;
        for (String line : code.split("\n")) {
            lines = line.matches("    (    )?(public|private|static|[A-Za-z\\[\\]]+ \\w+\\().*\\{") ? 0 : lines + 1;
            if (line.matches("    (    )?\\}")) {
                T.due("a method of some sixty lines", lines <= 60 ? 1 : 0, 1);
            }
        }
        boolean isAscii = text.chars().allMatch(c -> c < 128);
        T.due("signs 1 to 127", isAscii ? 1 : 0, 1);
    }
}
