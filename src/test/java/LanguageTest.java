import java.io.IOException;
import java.lang.reflect.Constructor;
import java.lang.reflect.Field;
import java.lang.reflect.Method;
import java.lang.reflect.Modifier;
import java.nio.file.Files;
import java.nio.file.Path;
import java.util.Set;
import java.util.TreeSet;
import java.util.regex.Matcher;
import java.util.regex.Pattern;

/** Rules of LANGUAGE.md that a look at the source's words, or at the class's members, can tell. Run from the project's root. */
public final class LanguageTest {
    private static final String SOURCE = "src/main/java/StatuteClauses.java";
    private static final Set<String> FACE = Set.of("setReach", "exchange", "write", "except", "end", "setDay", "type",
        "clearText", "writeAll", "undo", "keep", "restore", "chapter", "clause", "ruling", "painted", "silencedBy",
        "reason", "changesOn", "unlike", "idle", "ifGone", "weightiest", "count");
    private static final Set<String> CONSTANTS = Set.of("UNKNOWN", "BAD_VALUE", "FULL", "NOT_POSSIBLE", "NONE");

    private static int wrong = 0;

    private static void fault(String what) {
        wrong++;
        System.out.println(what);
    }

    private static void lookAtWords(String code) {
        String[] banned = {"\\bthrow\\b", "\\bthrows\\b", "\\btry\\b", "\\bcatch\\b", "\\bsynchronized\\b", "\\bassert\\b",
            "->", "::", "\\bequals\\b", "\\bhashCode\\b", "\\btoString\\b", "\\w+Exact\\b", "\\bpackage\\b",
            "\\bSystem\\.(?!arraycopy\\b)", "\\bRandom\\b", "\\bThread\\b", "\\bstatic\\s*\\{", "\\bint\\[\\]\\[\\]\\["};
        for (String word : banned) {
            Matcher matcher = Pattern.compile(word).matcher(code);
            if (matcher.find()) {
                fault("the source has " + matcher.group());
            }
        }
        Matcher imports = Pattern.compile("import ([\\w.*]+);").matcher(code);
        while (imports.find()) {
            if (!imports.group(1).equals("java.util.Arrays")) {
                fault("the source imports " + imports.group(1));
            }
        }
    }

    private static void lookAtMembers() {
        Set<String> methods = new TreeSet<>();
        for (Method method : StatuteClauses.class.getDeclaredMethods()) {
            if (Modifier.isPublic(method.getModifiers())) {
                methods.add(method.getName());
            } else if (!Modifier.isPrivate(method.getModifiers()) || FACE.contains(method.getName())) {
                fault("the class has a method " + method.getName() + " that is not private, or is named like a public one");
            }
            if (method.getParameterCount() > 7) {
                fault(method.getName() + " has more than seven parameters");
            }
        }
        if (!methods.equals(new TreeSet<>(FACE))) {
            fault("the public methods are " + methods);
        }
        for (Field field : StatuteClauses.class.getDeclaredFields()) {
            boolean isFace = CONSTANTS.contains(field.getName());
            if (isFace != Modifier.isPublic(field.getModifiers()) || !isFace && !Modifier.isPrivate(field.getModifiers())) {
                fault("field " + field.getName() + " is as visible as it may not be");
            }
            if (Modifier.isStatic(field.getModifiers()) && !Modifier.isFinal(field.getModifiers())) {
                fault("static field " + field.getName() + " is not final");
            }
        }
        Constructor<?>[] constructors = StatuteClauses.class.getDeclaredConstructors();
        if (constructors.length != 1 || constructors[0].getParameterCount() != 0) {
            fault("there is another constructor");
        }
    }

    private static void lookAtClassesInside() {
        for (Class<?> inside : StatuteClauses.class.getDeclaredClasses()) {
            if (!Modifier.isStatic(inside.getModifiers()) || Modifier.isPublic(inside.getModifiers())) {
                fault("class " + inside.getName() + " is public or not static");
            }
            for (Method method : inside.getDeclaredMethods()) {
                if (FACE.contains(method.getName())) {
                    fault(inside.getName() + "." + method.getName() + " is named like a public method");
                }
            }
        }
    }

    public static void main(String[] args) throws IOException {
        String code = Files.readString(Path.of(SOURCE))
            .replaceAll("(?s)/\\*.*?\\*/", " ").replaceAll("//[^\n]*", " ").replaceAll("case [^\n]*:", " ");
        lookAtWords(code);
        lookAtMembers();
        lookAtClassesInside();
        System.out.println(wrong == 0 ? "no rule is seen to be broken" : wrong + " rules are broken");
        if (wrong != 0) {
            System.exit(1);
        }
    }
}
