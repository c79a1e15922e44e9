import java.lang.reflect.Constructor;
import java.lang.reflect.Field;
import java.lang.reflect.Method;
import java.lang.reflect.Modifier;
import java.nio.file.Files;
import java.nio.file.Path;
import java.util.ArrayList;
import java.util.List;
import java.util.Set;
import java.util.TreeSet;
import java.util.regex.Matcher;
import java.util.regex.Pattern;

/** What of ../shared/LANGUAGE.md can be seen by a look at the source and at the compiled class. */
public final class LanguageTest {
    static int wrong = 0;

    static void expect(boolean holds, String what) {
        if (!holds) {
            wrong++;
            System.out.println(what);
        }
    }

    /** The face that the document tells, a line for each member, without names of parameters. */
    static Set<String> faceOfDocument(String doc) {
        Set<String> face = new TreeSet<>();
        Matcher m = Pattern.compile("public (int|long) (\\w+)\\((.*?)\\);").matcher(doc);
        while (m.find()) {
            String types = m.group(3).replaceAll("(int|long) \\w+", "$1").replace(" ", "");
            face.add(m.group(1) + " " + m.group(2) + "(" + types + ")");
        }
        return face;
    }

    static Set<String> faceOfClass() {
        Set<String> face = new TreeSet<>();
        for (Method m : OneMoves.class.getDeclaredMethods()) {
            if (Modifier.isPrivate(m.getModifiers()) || m.isSynthetic()) continue;
            List<String> types = new ArrayList<>();
            for (Class<?> c : m.getParameterTypes()) types.add(c.getName());
            expect(m.getModifiers() == Modifier.PUBLIC, m + " isn't public alone");
            face.add(m.getReturnType().getName() + " " + m.getName() + "(" + String.join(",", types) + ")");
        }
        return face;
    }

    static void lookAtConstants() throws Exception {
        Set<String> constants = new TreeSet<>();
        for (Field f : OneMoves.class.getDeclaredFields()) {
            if (Modifier.isPrivate(f.getModifiers())) continue;
            expect(f.getModifiers() == (Modifier.PUBLIC | Modifier.STATIC | Modifier.FINAL), f + " isn't public static final");
            expect(f.getType() == int.class, f + " is no int");
            if (f.getType() == int.class && Modifier.isStatic(f.getModifiers())) constants.add(f.getName() + f.getInt(null));
        }
        expect(constants.equals(Set.of("BAD-1", "FULL-2", "NONE-3", "STATE-4")), "fields that can be seen: " + constants);
    }

    static void lookAtFace(String doc) throws Exception {
        expect(OneMoves.class.getModifiers() == (Modifier.PUBLIC | Modifier.FINAL), "the class isn't public and final");
        Set<String> told = faceOfDocument(doc);
        expect(told.size() == 43, "the document's face has " + told.size() + " methods");
        expect(told.equals(faceOfClass()), "the face is " + faceOfClass() + ", told is " + told);
        lookAtConstants();
        Constructor<?>[] constructors = OneMoves.class.getDeclaredConstructors();
        expect(constructors.length == 1 && constructors[0].getParameterCount() == 0
            && constructors[0].getModifiers() == Modifier.PUBLIC, "constructors");
    }

    static void lookInside() {
        Set<String> names = new TreeSet<>();
        for (Method m : OneMoves.class.getDeclaredMethods()) if (Modifier.isPublic(m.getModifiers())) names.add(m.getName());
        Class<?>[] inside = OneMoves.class.getDeclaredClasses();
        expect(inside.length <= 11, "classes: " + inside.length);
        for (Class<?> c : inside) {
            expect(Modifier.isStatic(c.getModifiers()), c + " isn't static");
            // no constructor hands out anything of its object, if none takes anything and none tells of this
            for (Constructor<?> made : c.getDeclaredConstructors()) {
                expect(made.isSynthetic() || made.getParameterCount() == 0, made + " is handed something");
            }
            int fields = 0;
            for (Field f : c.getDeclaredFields()) if (!Modifier.isStatic(f.getModifiers())) fields++;
            expect(fields <= 20, c + " has " + fields + " fields");
            for (Method m : c.getDeclaredMethods()) {
                expect(!names.contains(m.getName()), c + " has a method of the name " + m.getName());
                expect(m.getParameterCount() <= 7, m + " takes too many");
            }
        }
        for (Method m : OneMoves.class.getDeclaredMethods()) {
            expect(Modifier.isPublic(m.getModifiers()) || !names.contains(m.getName()), "a private method " + m.getName());
        }
    }

    static void lookAtSource(String source) {
        String code = source.replaceAll("(?s)/\\*.*?\\*/", "").replaceAll("//.*", "").replaceAll("\"[^\"]*\"", "\"\"");
        String[] never = {"throw", "throws", "try", "catch", "finally", "synchronized", "assert", "import", "package",
            "volatile", "transient", "native", "float", "double", "hashCode", "toString", "Exact"};
        for (String word : never) {
            expect(!Pattern.compile("\\b" + word + "\\b").matcher(code).find(), "the source has " + word);
        }
        expect(!code.contains("->") && !code.contains("::") && !code.contains("static {"), "lambda, reference or static block");
        expect(!Pattern.compile("\\bthis\\b").matcher(code).find(), "the source tells of this");
        lookAtLibrary(code);
        for (char c : source.toCharArray()) expect(c < 128, "a sign above 127");
        lookAtMethods(code);
    }

    /** Every name with a small letter behind a great one is a class: of the source's own, or of the library that is left. */
    static void lookAtLibrary(String code) {
        Set<String> own = new TreeSet<>(Set.of("OneMoves", "String"));
        Matcher classes = Pattern.compile("\\bclass (\\w+)").matcher(code);
        while (classes.find()) own.add(classes.group(1));
        Set<String> calls = Set.of("Math.abs", "Math.max", "Math.min", "Integer.bitCount", "System.arraycopy");
        Matcher names = Pattern.compile("\\b([A-Z]\\w*[a-z]\\w*)(\\.\\w+)?").matcher(code);
        while (names.find()) {
            expect(own.contains(names.group(1)) || calls.contains(names.group()), "the source uses " + names.group());
        }
    }

    /** What the document says ahead of which calls, and their order, stand in the source, too. */
    static void lookAtMarks(String doc, String source) {
        Matcher part = Pattern.compile("Ahead of the calls (.*) the interface says: (---- .*)\\.").matcher(doc);
        int at = 0;
        while (part.find()) {
            List<String> marks = new ArrayList<>(List.of("// " + part.group(2) + "\n"));
            for (String name : part.group(1).replace("`", "").split(", ")) marks.add(" " + name + "(");
            for (String mark : marks) {
                int found = source.indexOf(mark.startsWith("//") ? mark : "public int" + mark);
                if (found < 0) found = source.indexOf("public long" + mark);
                expect(found > at, "not in the document's order: " + mark);
                at = found;
            }
        }
        expect(at > 0, "the document names no parts");
    }

    /** Methods stay short, and objects are made in constructors and for fields alone. */
    static void lookAtMethods(String code) {
        Pattern head = Pattern.compile("^ {4,8}(?:public |private |static |final )*(?:int|long|void|boolean|int\\[\\]|Stand|OneMoves|Town|Orders)? ?(\\w+)\\([^;]*\\) \\{$");
        String name = null;
        int began = 0;
        String[] lines = code.split("\n");
        for (int i = 0; i < lines.length; i++) {
            Matcher m = head.matcher(lines[i]);
            if (m.matches()) {
                name = m.group(1);
                began = i;
            }
            boolean constructor = name != null && Character.isUpperCase(name.charAt(0));
            boolean field = lines[i].matches(" {4,8}(private )?final .*");
            expect(!lines[i].contains("new ") || constructor || field, "line " + lines[i] + " makes an object");
            if (name != null && lines[i].matches(" {4,8}\\}")) {
                expect(i - began < 60, name + " has " + (i - began) + " lines");
                name = null;
            }
        }
    }

    public static void main(String[] args) throws Exception {
        String doc = Files.readString(Path.of("../shared/DOC.md"));
        String source = Files.readString(Path.of("src/main/java/OneMoves.java"));
        lookAtFace(doc);
        lookInside();
        lookAtSource(source);
        lookAtMarks(doc, source);
        System.out.println(wrong == 0 ? "the language is kept to" : wrong + " things are outside the language");
        if (wrong != 0) System.exit(1);
    }
}
