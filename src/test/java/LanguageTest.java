import java.io.IOException;
import java.lang.reflect.Constructor;
import java.lang.reflect.Field;
import java.lang.reflect.Method;
import java.lang.reflect.Modifier;
import java.nio.file.Files;
import java.nio.file.Path;
import java.util.ArrayList;
import java.util.Arrays;
import java.util.HashSet;
import java.util.List;
import java.util.Set;
import java.util.regex.Matcher;
import java.util.regex.Pattern;

/** The rules of LANGUAGE.md, as far as the text and the classes of the program show whether they are kept. */
public final class LanguageTest {
    private static final Path SOURCE = Path.of("src/main/java/EarlyCut.java");
    /** The only library classes that the program needs; each is one that rules 4 and 6 name. */
    private static final Set<String> LIBRARY = Set.of(
        "Math", "IllegalArgumentException", "IllegalStateException", "ArithmeticException");

    public static void main(String[] args) {
        Check.runAll(LanguageTest.class);
    }

    private static String text() {
        try {
            return Files.readString(SOURCE);
        } catch (IOException e) {
            throw new IllegalStateException(SOURCE + " can't be read", e);
        }
    }

    /** The program without comments and without what stands in its texts. */
    private static String code() {
        return text().replaceAll("(?s)/\\*.*?\\*/", "").replaceAll("//[^\n]*", "").replaceAll("\"[^\"\n]*\"", "\"\"");
    }

    private static List<Class<?>> classes() {
        List<Class<?>> all = new ArrayList<>(Arrays.asList(EarlyCut.class.getDeclaredClasses()));
        all.add(EarlyCut.class);
        return all;
    }

    private static int found(String pattern) {
        int count = 0;
        Matcher m = Pattern.compile(pattern).matcher(code());
        while (m.find()) {
            count++;
        }
        return count;
    }

    static void rule01_noPrivateMethodBearsAPublicName() {
        Set<String> names = new HashSet<>();
        for (Method m : EarlyCut.class.getMethods()) {
            names.add(m.getName());
        }
        for (Class<?> c : classes()) {
            for (Method m : c.getDeclaredMethods()) {
                boolean isFace = c == EarlyCut.class && Modifier.isPublic(m.getModifiers());
                Check.due(c.getName() + "." + m.getName(), !isFace && names.contains(m.getName()), false);
            }
        }
    }

    static void rule02_classesInsideAreStaticAndNotPublic() {
        for (Class<?> c : EarlyCut.class.getDeclaredClasses()) {
            Check.due(c.getName() + " is static", Modifier.isStatic(c.getModifiers()), true);
            Check.due(c.getName() + " is seen outside",
                Modifier.isPublic(c.getModifiers()) || Modifier.isProtected(c.getModifiers()), false);
        }
        Check.due("lambdas and method references", found("->|::"), 0);
    }

    static void rule03_fieldsAreOfNumbersOwnClassesAndRowsOfThem() {
        for (Class<?> c : classes()) {
            for (Field f : c.getDeclaredFields()) {
                Class<?> type = f.getType().isArray() ? f.getType().getComponentType() : f.getType();
                Check.due(f.toString(), type.isPrimitive() || classes().contains(type), true);
            }
        }
        Check.due("doubles and floats", found("\\b(double|float)\\b"), 0);
    }

    static void rule04_noLibraryBeyondTheList() {
        Set<String> own = new HashSet<>();
        for (Class<?> c : classes()) {
            own.add(c.getSimpleName());
        }
        Matcher m = Pattern.compile("\\b[A-Z]\\w*[a-z]\\w*\\b").matcher(code());
        while (m.find()) {
            Check.due(m.group(), own.contains(m.group()) || LIBRARY.contains(m.group()), true);
        }
        Check.due("package and import lines", found("(?m)^\\s*(package|import)\\b"), 0);
        Check.due("functions that end in Exact", found("Exact\\b"), 0);
    }

    static void rule05_staticFieldsAreConstants() {
        for (Class<?> c : classes()) {
            for (Field f : c.getDeclaredFields()) {
                if (Modifier.isStatic(f.getModifiers())) {
                    Check.due(f.toString(), Modifier.isFinal(f.getModifiers()) && f.getType() == int.class, true);
                }
            }
        }
        Check.due("static initialiser blocks", found("static\\s*\\{"), 0);
    }

    static void rule06_throwsAreThoseOfTheDocumentAndNothingIsCaught() {
        Check.due("throws", found("\\bthrow\\b"), 3);
        Check.due("throws of a written text",
            found("throw new (IllegalArgument|IllegalState|Arithmetic)Exception\\(\"\"\\);"), 3);
        Check.due("words that are ruled out", found("\\b(try|catch|finally|synchronized|assert)\\b"), 0);
        Check.due("casts and instanceof", found("\\binstanceof\\b|(?<!\\w)\\((int|long|[A-Z]\\w*)\\)"), 0);
    }

    static void rule09_everyLoopIsACounterAgainstABound() {
        Check.due("loops without a counter", found("\\b(while|do)\\b"), 0);
        Check.due("loops", found("\\bfor\\b"), found("for \\(int \\w = [^;]+; \\w (<|<=|>|>=) [^;]+; \\w(\\+\\+|--)\\)"));
    }

    static void rule11_methodsClassesAndFieldsStaySmall() {
        Check.due("classes are at most 12", classes().size() <= 12, true);
        for (Class<?> c : classes()) {
            int fields = 0;
            for (Field f : c.getDeclaredFields()) {
                fields += Modifier.isStatic(f.getModifiers()) ? 0 : 1;
            }
            Check.due(c.getName() + " has at most 20 fields", fields <= 20, true);
            for (Method m : c.getDeclaredMethods()) {
                Check.due(m.getName() + " takes at most 7", m.getParameterCount() <= 7, true);
            }
            for (Constructor<?> k : c.getDeclaredConstructors()) {
                Check.due(k.getName() + " takes at most 7", k.getParameterCount() <= 7, true);
            }
        }
        Check.due("the longest method has at most 60 lines", longestMethod() <= 60, true);
    }

    /** Methods end with the brace that stands as deep as their first line. */
    private static int longestMethod() {
        int longest = 0;
        Matcher m = Pattern.compile("(?ms)^( {4}| {8})(?!\\s)[^\n;=]*\\([^\n]*\\{$.*?^\\1\\}$").matcher(code());
        while (m.find()) {
            longest = Math.max(longest, m.group().split("\n").length);
        }
        Check.due("a method was found", longest > 1, true);
        return longest;
    }

    static void rule12_objectsAreMadeWhereTheyAreKeptAlone() {
        Check.due("new", found("\\bnew\\b"), found("\\bnew (Source|Step|Entry)\\(")
            + found("\\bnew \\w+\\[") + found("\\bthrow new\\b"));
        Check.due("a file, a step, and a step's records", found("\\bnew (Source|Step|Entry)\\("), 3);
        Check.due("rows, all made with their object", found("\\bnew \\w+\\["), found("final \\w+\\[\\] \\w+ = new \\w+\\["));
    }

    static void rule13_theSameCallsGiveTheSameAnswers() {
        for (int run = 0; run < 3; run++) {
            EarlyCut x = Setup.chain(16);
            StringBuilder answers = new StringBuilder();
            for (int n = 0; n < 6; n++) {
                answers.append(Setup.buildWith(x, n % 3)).append(' ').append(x.state(15)).append(' ');
            }
            Check.dueText("answers", answers.toString(), "16 2 16 2 16 2 0 6 0 6 0 6 ");
        }
    }
}
