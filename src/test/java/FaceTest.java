import java.io.IOException;
import java.lang.reflect.Constructor;
import java.lang.reflect.Field;
import java.lang.reflect.Method;
import java.lang.reflect.Modifier;
import java.nio.charset.StandardCharsets;
import java.nio.file.Files;
import java.nio.file.Path;
import java.util.ArrayList;
import java.util.List;
import java.util.Set;
import java.util.TreeSet;
import java.util.regex.Matcher;
import java.util.regex.Pattern;

/** The public face of the document, and those rules of LANGUAGE.md that a look at the source can tell. */
final class FaceTest extends Checks {
    private static final Path SOURCE = Path.of("src/main/java/OliveMill.java");
    private static final Path DOCUMENT = Path.of("../shared/DOC.md");

    public static void main(String[] args) throws IOException {
        String document = Files.readString(DOCUMENT, StandardCharsets.UTF_8);
        String source = Files.readString(SOURCE, StandardCharsets.UTF_8);
        methodsAreThoseOfTheDocument(document);
        nothingElseIsVisible();
        noPrivateMethodBearsAPublicName();
        sourceKeepsToTheLanguage(withoutComments(source));
        objectsAreMadeInConstructorsAlone(withoutComments(source));
        end();
    }

    private static void methodsAreThoseOfTheDocument(String document) {
        int from = document.indexOf("```java");
        String face = document.substring(from, document.indexOf("```", from + 7));
        Set<String> due = new TreeSet<>();
        Matcher method = Pattern.compile("public (\\w+) (\\w+)\\(([^)]*)\\)(?: throws ([\\w, ]+))?;").matcher(face);
        while (method.find()) {
            String parameters = method.group(3).replaceAll("(\\w+) \\w+", "$1").replace(" ", "");
            String thrown = method.group(4) == null ? "" : method.group(4).replace(" ", "");
            due.add(method.group(1) + " " + method.group(2) + "(" + parameters + ") " + thrown);
        }
        due("methods of the document", due.size(), 30);
        Set<String> got = new TreeSet<>();
        for (Method m : OliveMill.class.getDeclaredMethods()) {
            if (Modifier.isPublic(m.getModifiers())) {
                got.add(m.getReturnType().getSimpleName() + " " + m.getName() + "(" + names(m.getParameterTypes()) + ") "
                        + names(m.getExceptionTypes()));
            }
        }
        dueText("the public methods", got.toString(), due.toString());
    }

    private static String names(Class<?>[] types) {
        List<String> names = new ArrayList<>();
        for (Class<?> type : types) {
            names.add(type.getSimpleName());
        }
        return String.join(",", names);
    }

    private static void nothingElseIsVisible() {
        due("the class is public and final", OliveMill.class.getModifiers(), Modifier.PUBLIC | Modifier.FINAL);
        for (Field field : OliveMill.class.getDeclaredFields()) {
            boolean isConstant = field.getName().equals("NONE");
            due("field " + field.getName() + " is private", isPrivate(field.getModifiers()), isConstant ? 0 : 1);
        }
        for (Method method : OliveMill.class.getDeclaredMethods()) {
            if (!Modifier.isPublic(method.getModifiers())) {
                due("method " + method.getName() + " is private", isPrivate(method.getModifiers()), 1);
            }
        }
        Constructor<?>[] constructors = OliveMill.class.getDeclaredConstructors();
        due("constructors", constructors.length, 1);
        due("parameters of the constructor", constructors[0].getParameterCount(), 0);
        due("classes inside are few", OliveMill.class.getDeclaredClasses().length > 11 ? 1 : 0, 0);
        for (Class<?> inside : OliveMill.class.getDeclaredClasses()) {
            due(inside.getName() + " is static", Modifier.isStatic(inside.getModifiers()) ? 1 : 0, 1);
            due(inside.getName() + " is private", isPrivate(inside.getModifiers()), 1);
        }
    }

    private static int isPrivate(int modifiers) {
        return Modifier.isPrivate(modifiers) ? 1 : 0;
    }

    private static void noPrivateMethodBearsAPublicName() {
        Set<String> names = new TreeSet<>();
        for (Method method : OliveMill.class.getMethods()) {
            names.add(method.getName());
        }
        List<Class<?>> classes = new ArrayList<>(List.of(OliveMill.class.getDeclaredClasses()));
        classes.add(OliveMill.class);
        for (Class<?> some : classes) {
            for (Method method : some.getDeclaredMethods()) {
                if (!Modifier.isPublic(method.getModifiers())) {
                    due(some.getName() + "." + method.getName() + " is a name of the face",
                            names.contains(method.getName()) ? 1 : 0, 0);
                }
            }
        }
    }

    private static String withoutComments(String source) {
        return source.replaceAll("(?s)/\\*.*?\\*/", "").replaceAll("//[^\n]*", "");
    }

    private static void dueNot(String source, String pattern) {
        Matcher matcher = Pattern.compile(pattern).matcher(source);
        dueText("what the source has of " + pattern, matcher.find() ? matcher.group() : "nothing", "nothing");
    }

    private static void sourceKeepsToTheLanguage(String source) {
        String[] patterns = {"\\bpackage\\b", "\\bimport\\b", "->", "::", "\\b(try|catch|finally)\\b", "\\bsynchronized\\b",
            "\\bassert\\b", "\\binstanceof\\b", "\\b(Double|Float|Character|System\\.(?!arraycopy)\\w+)\\b", "\\w+Exact\\b",
            "[^\\x00-\\x7f]", "\\b(equals|hashCode|toString)\\b", "while \\(", "\\b(protected|volatile|transient|native)\\b",
            "static (?!final)\\w+ \\w+( =|;)", "\" \\+|\\+ \""};
        for (String pattern : patterns) {
            dueNot(source, pattern);
        }
        Matcher thrown = Pattern.compile("throw (.*)").matcher(source);
        while (thrown.find()) {
            boolean plain = thrown.group(1).matches(
                    "new (IllegalState|IllegalArgument|IndexOutOfBounds)Exception\\(\"[^\"]*\"\\);");
            due("plainness of " + thrown.group(), plain ? 1 : 0, 1);
        }
    }

    /** So that a call makes no object but the exception that it throws. */
    private static void objectsAreMadeInConstructorsAlone(String source) {
        String inside = "";
        for (String line : source.split("\n")) {
            if (line.matches(" +(private |public )?[\\w\\[\\]]*( [\\w\\[\\]]+)*\\(.*") && line.endsWith("{")
                    || line.matches(" +(public|private) .*\\(.*\\)$")) {
                inside = line.trim();
            }
            if (line.contains("new ") && !line.contains("throw new ")) {
                boolean isConstructor = inside.matches("(public )?[A-Z]\\w*\\(.*");
                due("an object made in " + inside, isConstructor ? 1 : 0, 1);
            }
        }
    }
}
