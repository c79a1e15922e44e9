import java.lang.reflect.Constructor;
import java.lang.reflect.Field;
import java.lang.reflect.Method;
import java.lang.reflect.Modifier;
import java.nio.file.Files;
import java.nio.file.Path;
import java.util.ArrayList;
import java.util.List;
import java.util.Set;
import java.util.TreeSet;
import java.util.regex.Matcher;
import java.util.regex.Pattern;

/** What of ../shared/LANGUAGE.md can be seen by a look at the source and at the compiled class. */
public final class LanguageTest {
    static int wrong = 0;

    static void expect(boolean holds, String what) {
        if (!holds) {
            wrong++;
            System.out.println(what);
        }
    }

    /** The face that the document tells, a line for each member, without names of parameters. */
    static Set<String> faceOfDocument(String doc) {
        Set<String> face = new TreeSet<>();
        Matcher m = Pattern.compile("public (int|long) (\\w+)\\((.*?)\\);").matcher(doc);
        while (m.find()) {
            String types = m.group(3).replaceAll("(int|long) \\w+", "$1").replace(" ", "");
            face.add(m.group(1) + " " + m.group(2) + "(" + types + ")");
        }
        return face;
    }

    static Set<String> faceOfClass() {
        Set<String> face = new TreeSet<>();
        for (Method m : OneMoves.class.getDeclaredMethods()) {
            if (Modifier.isPrivate(m.getModifiers()) || m.isSynthetic()) continue;
            List<String> types = new ArrayList<>();
            for (Class<?> c : m.getParameterTypes()) types.add(c.getName());
            face.add(m.getReturnType().getName() + " " + m.getName() + "(" + String.join(",", types) + ")");
        }
        return face;
    }

    static void lookAtFace(String doc) {
        Set<String> told = faceOfDocument(doc);
        expect(told.size() == 43, "the document's face has " + told.size() + " methods");
        expect(told.equals(faceOfClass()), "the face is " + faceOfClass() + ", told is " + told);
        Set<String> constants = new TreeSet<>();
        for (Field f : OneMoves.class.getDeclaredFields()) {
            if (!Modifier.isPrivate(f.getModifiers())) constants.add(f.getName());
        }
        expect(constants.equals(Set.of("BAD", "FULL", "NONE", "STATE")), "fields that can be seen: " + constants);
        Constructor<?>[] constructors = OneMoves.class.getDeclaredConstructors();
        expect(constructors.length == 1 && constructors[0].getParameterCount() == 0, "constructors");
    }

    static void lookInside() {
        Set<String> names = new TreeSet<>();
        for (Method m : OneMoves.class.getDeclaredMethods()) if (Modifier.isPublic(m.getModifiers())) names.add(m.getName());
        Class<?>[] inside = OneMoves.class.getDeclaredClasses();
        expect(inside.length <= 11, "classes: " + inside.length);
        for (Class<?> c : inside) {
            expect(Modifier.isStatic(c.getModifiers()), c + " isn't static");
            int fields = 0;
            for (Field f : c.getDeclaredFields()) if (!Modifier.isStatic(f.getModifiers())) fields++;
            expect(fields <= 20, c + " has " + fields + " fields");
            for (Method m : c.getDeclaredMethods()) {
                expect(!names.contains(m.getName()), c + " has a method of the name " + m.getName());
                expect(m.getParameterCount() <= 7, m + " takes too many");
            }
        }
        for (Method m : OneMoves.class.getDeclaredMethods()) {
            expect(Modifier.isPublic(m.getModifiers()) || !names.contains(m.getName()), "a private method " + m.getName());
        }
    }

    static void lookAtSource(String source) {
        String code = source.replaceAll("(?s)/\\*.*?\\*/", "").replaceAll("//.*", "").replaceAll("\"[^\"]*\"", "\"\"");
        String[] never = {"throw", "throws", "try", "catch", "finally", "synchronized", "assert", "import", "package",
            "volatile", "transient", "native", "float", "double", "hashCode", "toString", "Exact"};
        for (String word : never) {
            expect(!Pattern.compile("\\b" + word + "\\b").matcher(code).find(), "the source has " + word);
        }
        expect(!code.contains("->") && !code.contains("::") && !code.contains("static {"), "lambda, reference or static block");
        for (char c : source.toCharArray()) expect(c < 128, "a sign above 127");
        lookAtMethods(code);
    }

    /** Methods stay short, and objects are made in constructors and for fields alone. */
    static void lookAtMethods(String code) {
        Pattern head = Pattern.compile("^ {4,8}(?:public |private |static |final )*(?:int|long|void|boolean|int\\[\\]|Stand|OneMoves|Town|Orders)? ?(\\w+)\\([^;]*\\) \\{$");
        String name = null;
        int began = 0;
        String[] lines = code.split("\n");
        for (int i = 0; i < lines.length; i++) {
            Matcher m = head.matcher(lines[i]);
            if (m.matches()) {
                name = m.group(1);
                began = i;
            }
            boolean constructor = name != null && Character.isUpperCase(name.charAt(0));
            boolean field = lines[i].matches(" {4,8}(private )?final .*");
            expect(!lines[i].contains("new ") || constructor || field, "line " + lines[i] + " makes an object");
            if (name != null && lines[i].matches(" {4,8}\\}")) {
                expect(i - began < 60, name + " has " + (i - began) + " lines");
                name = null;
            }
        }
    }

    public static void main(String[] args) throws Exception {
        lookAtFace(Files.readString(Path.of("../shared/DOC.md")));
        lookInside();
        lookAtSource(Files.readString(Path.of("src/main/java/OneMoves.java")));
        System.out.println(wrong == 0 ? "the language is kept to" : wrong + " things are outside the language");
        if (wrong != 0) System.exit(1);
    }
}
