import java.io.IOException;
import java.lang.reflect.Constructor;
import java.lang.reflect.Field;
import java.lang.reflect.Method;
import java.lang.reflect.Modifier;
import java.nio.file.Files;
import java.nio.file.Path;
import java.util.List;
import java.util.Set;
import java.util.TreeSet;
import java.util.regex.Matcher;
import java.util.regex.Pattern;

/** The public face of the document, and those rules of LANGUAGE.md that a program can look at. */
public final class FaceTest {
    private static final Set<String> FACE = Set.of(
            "container(int, int, boolean)", "test(int, int, int, int)", "mark(int, int, boolean)",
            "method(int, int, int, int, int)", "without(int, int)", "run(int, int, int)",
            "event(int, int)", "trouble(int, int)", "count(int)");
    private static final Set<String> CONSTANTS = Set.of("DONE", "REFUSED", "FULL", "NONE");
    /** Rules 6, 4 and 13; a lambda and its like show in the compiled methods. */
    private static final List<String> BANNED = List.of(
            "\\bthrows?\\b", "\\b(try|catch|finally)\\b", "\\bsynchronized\\b", "\\bassert\\b", "\\bpackage\\b",
            "::", "\\bhashCode\\b", "Exact\\b", "\\b(nanoTime|currentTimeMillis|random|Random|Thread|getenv)\\b",
            "\\bjava\\.(io|nio|net|time)\\b");
    private static final Set<String> IMPORTS = Set.of("java.util.ArrayList", "java.util.Arrays", "java.util.Iterator",
            "java.util.List");
    private static final Due due = new Due();

    public static void main(String[] args) throws IOException {
        Class<?> face = LifecycleEngine.class;
        due.isTrue("public and final", Modifier.isPublic(face.getModifiers()) && Modifier.isFinal(face.getModifiers()));
        constructors(face);
        methods(face);
        fields(face);
        classesInside(face);
        bannedWords(Path.of(args[0]));
        due.end();
    }

    private static void constructors(Class<?> face) {
        Constructor<?>[] all = face.getDeclaredConstructors();
        due.is("constructors", all.length, 1);
        due.isTrue("public, without parameters",
                Modifier.isPublic(all[0].getModifiers()) && all[0].getParameterCount() == 0);
    }

    private static void methods(Class<?> face) {
        Set<String> seen = new TreeSet<>();
        Set<String> names = publicNames();
        for (Method method : face.getDeclaredMethods()) {
            String signature = signatureOf(method);
            due.isTrue(signature + " is no lambda", !method.getName().startsWith("lambda$"));
            if (Modifier.isPublic(method.getModifiers())) {
                seen.add(signature);
                due.isTrue(signature + " answers int", method.getReturnType() == int.class);
                due.isTrue(signature + " is not static", !Modifier.isStatic(method.getModifiers()));
            } else {
                due.isTrue(signature + " is private", Modifier.isPrivate(method.getModifiers()));
                due.isTrue(signature + " has a name of its own", !names.contains(method.getName()));
            }
        }
        due.isTrue("public methods: " + seen, seen.equals(FACE));
    }

    private static Set<String> publicNames() {
        Set<String> names = new TreeSet<>();
        for (String signature : FACE) {
            names.add(signature.substring(0, signature.indexOf('(')));
        }
        return names;
    }

    private static String signatureOf(Method method) {
        StringBuilder text = new StringBuilder(method.getName()).append('(');
        for (Class<?> type : method.getParameterTypes()) {
            text.append(text.charAt(text.length() - 1) == '(' ? "" : ", ").append(type.getSimpleName());
        }
        return text.append(')').toString();
    }

    private static void fields(Class<?> face) {
        Set<String> seen = new TreeSet<>();
        for (Field field : face.getDeclaredFields()) {
            int modifiers = field.getModifiers();
            if (Modifier.isPublic(modifiers)) {
                seen.add(field.getName());
                due.isTrue(field + " is a constant", Modifier.isStatic(modifiers) && field.getType() == int.class);
            } else {
                due.isTrue(field + " is private", Modifier.isPrivate(modifiers));
            }
            due.isTrue(field + " is final if static", !Modifier.isStatic(modifiers) || Modifier.isFinal(modifiers));
        }
        due.isTrue("public fields: " + seen, seen.equals(CONSTANTS));
    }

    private static void classesInside(Class<?> face) {
        Class<?>[] inside = face.getDeclaredClasses();
        due.isTrue("some twelve classes", inside.length <= 12);
        for (Class<?> each : inside) {
            int modifiers = each.getModifiers();
            due.isTrue(each + " is static", Modifier.isStatic(modifiers));
            due.isTrue(each + " is hidden", !Modifier.isPublic(modifiers) && !Modifier.isProtected(modifiers));
            int ownFields = 0;
            for (Field field : each.getDeclaredFields()) {
                boolean constant = Modifier.isStatic(field.getModifiers());
                due.isTrue(field + " is final if static", !constant || Modifier.isFinal(field.getModifiers()));
                ownFields += constant ? 0 : 1;
            }
            due.isTrue(each + " has some twenty fields", ownFields <= 20);
            for (Method method : each.getDeclaredMethods()) {
                due.isTrue(method + " is no lambda", !method.getName().startsWith("lambda$"));
                due.isTrue(method + " has at most seven parameters", method.getParameterCount() <= 7);
                due.isTrue(method + " has a name of its own",
                        !Modifier.isPrivate(method.getModifiers()) || !publicNames().contains(method.getName()));
            }
        }
    }

    private static void bannedWords(Path program) throws IOException {
        String code = Files.readString(program).replaceAll("(?s)/\\*.*?\\*/", "").replaceAll("//[^\n]*", "");
        Matcher imports = Pattern.compile("\\bimport\\s+([\\w.*]+)").matcher(code);
        while (imports.find()) {
            due.isTrue("no import of " + imports.group(1), IMPORTS.contains(imports.group(1)));
        }
        for (String words : BANNED) {
            due.isTrue("nothing of " + words, !Pattern.compile(words).matcher(code).find());
        }
    }
}
