import java.lang.reflect.Constructor;
import java.lang.reflect.Field;
import java.lang.reflect.Method;
import java.lang.reflect.Modifier;
import java.nio.file.Files;
import java.nio.file.Path;
import java.util.ArrayList;
import java.util.Arrays;
import java.util.List;
import java.util.Set;
import java.util.TreeSet;
import java.util.regex.Matcher;
import java.util.regex.Pattern;

/** The public face as the document has it, and the rules of LANGUAGE.md that can be seen from outside. */
public final class FaceTest {
    private static int wrong = 0;

    public static void main(String[] args) throws Exception {
        String root = System.getProperty("project", ".");
        String document = Files.readString(Path.of(root, "..", "shared", "DOC.md"));
        face(document);
        nested();
        source(Files.readString(Path.of(root, "src", "main", "java", "ClownsMourn.java")));
        System.out.println(wrong == 0 ? "the face is as it should be" : wrong + " things are not as they should be");
        if (wrong != 0) {
            System.exit(1);
        }
    }

    private static void check(boolean fine, String what) {
        if (!fine) {
            wrong++;
            System.out.println(what);
        }
    }

    private static void face(String document) {
        Set<String> want = new TreeSet<>();
        String block = document.substring(document.indexOf("```java"), document.indexOf("## Terms"));
        Matcher m = Pattern.compile("public (int|boolean) (\\w+)\\(([^)]*)\\);").matcher(block);
        while (m.find()) {
            List<String> types = new ArrayList<>();
            for (String parameter : m.group(3).split(",")) {
                if (!parameter.isBlank()) {
                    types.add(parameter.trim().split(" ")[0]);
                }
            }
            want.add(m.group(1) + " " + m.group(2) + types);
        }
        check(want.size() == 48, "the document has 48 methods, found " + want.size());
        Set<String> got = new TreeSet<>();
        Set<String> names = new TreeSet<>();
        for (Method method : ClownsMourn.class.getDeclaredMethods()) {
            if (Modifier.isPublic(method.getModifiers())) {
                check(!Modifier.isStatic(method.getModifiers()), method + " is static");
                got.add(method.getReturnType() + " " + method.getName() + Arrays.toString(method.getParameterTypes()));
                names.add(method.getName());
            }
        }
        check(got.equals(want), "the methods are " + got + ", due are " + want);
        check(Modifier.isFinal(ClownsMourn.class.getModifiers()), "the class isn't final");
        for (Method method : ClownsMourn.class.getDeclaredMethods()) {
            if (!Modifier.isPublic(method.getModifiers())) {
                check(Modifier.isPrivate(method.getModifiers()), method + " isn't private");
                check(!names.contains(method.getName()), method + " bears a public name");
            }
        }
        for (Field field : ClownsMourn.class.getDeclaredFields()) {
            boolean isNone = field.getName().equals("NONE") && Modifier.isPublic(field.getModifiers());
            check(isNone || Modifier.isPrivate(field.getModifiers()), field + " isn't private");
        }
        Constructor<?>[] constructors = ClownsMourn.class.getDeclaredConstructors();
        check(constructors.length == 1 && constructors[0].getParameterCount() == 0, "one constructor is due");
        check(ClownsMourn.NONE == -1, "NONE isn't -1");
    }

    private static void nested() {
        Set<String> publicNames = new TreeSet<>();
        for (Method method : ClownsMourn.class.getMethods()) {
            if (method.getDeclaringClass() == ClownsMourn.class) {
                publicNames.add(method.getName());
            }
        }
        Class<?>[] classes = ClownsMourn.class.getDeclaredClasses();
        check(classes.length <= 11, "there are more than twelve classes");
        for (Class<?> c : classes) {
            check(Modifier.isStatic(c.getModifiers()), c + " isn't static");
            int fields = 0;
            for (Field field : c.getDeclaredFields()) {
                boolean fixed = Modifier.isStatic(field.getModifiers());
                check(!fixed || Modifier.isFinal(field.getModifiers()), field + " is static, but not final");
                fields += fixed ? 0 : 1;
            }
            check(fields <= 20, c + " has more than twenty fields");
            for (Method method : c.getDeclaredMethods()) {
                check(method.getParameterCount() <= 7, method + " has more than seven parameters");
                check(!publicNames.contains(method.getName()), method + " bears a public name");
            }
        }
    }

    private static void source(String text) {
        String code = text.replaceAll("(?s)/\\*.*?\\*/", " ").replaceAll("//[^\n]*", " ")
                .replaceAll("\"[^\"\n]*\"", "\"\"").replaceAll("'[^'\n]+'", "' '");
        String[] banned = {"throw", "throws", "try", "catch", "synchronized", "assert", "native", "package", "System.out",
            "\\w+Exact", "Object", "hashCode", "equals", "toString", "static \\{", "->", "::", "@", "float", "double"};
        for (String word : banned) {
            Matcher m = Pattern.compile(word.matches("\\w+") ? "\\b" + word + "\\b" : word).matcher(code);
            check(!m.find(), "the source has " + word);
        }
        Matcher imports = Pattern.compile("import ([\\w.]+);").matcher(code);
        while (imports.find()) {
            check(imports.group(1).equals("java.util.Arrays"), "the source imports " + imports.group(1));
        }
        // a method's length: from the line that opens it to the brace that stands as far in
        String[] lines = text.split("\n");
        for (int i = 0; i < lines.length; i++) {
            Matcher opens = Pattern.compile("^( {4}| {8})\\w[^;=]*\\) \\{$").matcher(lines[i]);
            if (opens.find()) {
                int last = i;
                while (last < lines.length && !lines[last].equals(opens.group(1) + "}")) {
                    last++;
                }
                check(last - i < 60, "line " + (i + 1) + ": a method of " + (last - i + 1) + " lines");
            }
        }
    }
}
