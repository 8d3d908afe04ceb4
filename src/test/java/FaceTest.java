import java.lang.reflect.Constructor;
import java.lang.reflect.Field;
import java.lang.reflect.Method;
import java.lang.reflect.Modifier;
import java.nio.file.Files;
import java.nio.file.Path;
import java.util.Set;
import java.util.TreeSet;
import java.util.regex.Matcher;
import java.util.regex.Pattern;

/** The face is the document's, nothing else is to be seen, and the source keeps clear of what LANGUAGE.md rules out. */
public final class FaceTest {
    private static final Check CHECK = new Check("FaceTest");
    private static final Pattern METHOD = Pattern.compile("public (\\w+) (\\w+)\\(([^)]*)\\)(?: throws ([\\w, ]+))?;");

    private static String inDocument(Matcher m) {
        StringBuilder types = new StringBuilder();
        for (String parameter : m.group(3).split(", ")) {
            types.append(parameter.split(" ")[0]).append(' ');
        }
        Set<String> thrown = new TreeSet<>();
        if (m.group(4) != null) {
            thrown.addAll(Set.of(m.group(4).split(", ")));
        }
        return m.group(1) + " " + m.group(2) + " " + types.toString().trim() + " " + thrown;
    }

    private static String inClass(Method m) {
        StringBuilder types = new StringBuilder();
        for (Class<?> type : m.getParameterTypes()) {
            types.append(type.getSimpleName()).append(' ');
        }
        Set<String> thrown = new TreeSet<>();
        for (Class<?> type : m.getExceptionTypes()) {
            thrown.add(type.getSimpleName());
        }
        return m.getReturnType() + " " + m.getName() + " " + types.toString().trim() + " " + thrown;
    }

    private static void face(String document) {
        Set<String> want = new TreeSet<>();
        Matcher m = METHOD.matcher(document.substring(0, document.indexOf("## Terms")));
        while (m.find()) {
            want.add(inDocument(m));
        }
        Set<String> seen = new TreeSet<>();
        Set<String> names = new TreeSet<>();
        Set<String> hidden = new TreeSet<>();
        for (Method method : FeastBook.class.getDeclaredMethods()) {
            if (Modifier.isPublic(method.getModifiers())) {
                seen.add(inClass(method));
                names.add(method.getName());
            } else {
                CHECK.due(method + " is private", true, () -> Modifier.isPrivate(method.getModifiers()));
                hidden.add(method.getName());
            }
        }
        for (Class<?> inside : FeastBook.class.getDeclaredClasses()) {
            for (Method method : inside.getDeclaredMethods()) {
                hidden.add(method.getName());
            }
        }
        hidden.retainAll(names);
        CHECK.due("43 methods of the document", 43, () -> want.size());
        CHECK.due("the public methods", want, () -> seen);
        CHECK.due("hidden methods with a public one's name", new TreeSet<String>(), () -> hidden);
        CHECK.due("public and final", Modifier.PUBLIC | Modifier.FINAL, () -> FeastBook.class.getModifiers());
        CHECK.due("NONE", -1, () -> FeastBook.NONE);
    }

    private static void members() {
        for (Field field : FeastBook.class.getDeclaredFields()) {
            boolean isFace = field.getName().equals("NONE");
            CHECK.due("field " + field, isFace, () -> !Modifier.isPrivate(field.getModifiers()));
        }
        for (Constructor<?> made : FeastBook.class.getDeclaredConstructors()) {
            CHECK.due("constructor " + made, 0, () -> made.getParameterCount());
        }
        int most = 20;
        for (Class<?> inside : FeastBook.class.getDeclaredClasses()) {
            CHECK.due(inside + " is static", true, () -> Modifier.isStatic(inside.getModifiers()));
            long fields = java.util.Arrays.stream(inside.getDeclaredFields())
                .filter(f -> !Modifier.isStatic(f.getModifiers())).count();
            CHECK.due(inside + " has few fields", true, () -> fields <= most);
            for (Method m : inside.getDeclaredMethods()) {
                CHECK.due(m + " has few parameters", true, () -> m.getParameterCount() <= 7);
            }
        }
        CHECK.due("few classes", true, () -> FeastBook.class.getDeclaredClasses().length <= 11);
    }

    private static void source(String source) {
        String[] ruledOut = {"->", "::", "\\bfinally\\b", "\\bcatch\\b", "\\btry\\b", "Exact\\(", "\\bassert\\b",
            "synchronized", "System\\.(?!arraycopy)", "\\bstatic \\{", "\"\\s*\\+", "\\+\\s*\"", "hashCode", "toString",
            "\\bpackage\\b", "\\.stream", "import (?!java\\.util\\.(Arrays|NoSuchElementException);)", "\t"};
        for (String piece : ruledOut) {
            CHECK.due("'" + piece + "' in the source", false, () -> Pattern.compile(piece).matcher(source).find());
        }
    }

    public static void main(String[] args) throws Exception {
        if (args.length < 2) {
            System.out.println("FaceTest wants the paths of the source and of the document");
            System.exit(1);
        }
        face(Files.readString(Path.of(args[1])));
        members();
        source(Files.readString(Path.of(args[0])));
        CHECK.finish();
    }
}
