import java.lang.reflect.Constructor;
import java.lang.reflect.Executable;
import java.lang.reflect.Field;
import java.lang.reflect.Method;
import java.lang.reflect.Modifier;
import java.nio.file.Path;
import java.util.ArrayList;
import java.util.Arrays;
import java.util.List;
import java.util.Set;
import java.util.TreeSet;
import java.util.regex.Matcher;
import java.util.regex.Pattern;

/** The face that the document tells, and those rules of LANGUAGE.md that can be seen from outside or in the text. */
public final class LanguageTest {
    private static final Path SOURCE = Path.of("src/main/java/SlowWells.java");
    private static int wrong = 0;

    private static void holds(String rule, String what, boolean holds) {
        if (!holds) {
            wrong++;
            System.out.println(rule + ": " + what);
        }
    }

    public static void main(String[] args) {
        String document = Sentences.read(Path.of("../shared/DOC.md")), source = Sentences.read(SOURCE);
        holds("the tests", "the source was not found", !source.isEmpty());
        List<Class<?>> classes = new ArrayList<>(List.of(SlowWells.class));
        classes.addAll(Arrays.asList(SlowWells.class.getDeclaredClasses()));
        if (!document.isEmpty()) {
            face(document);
        }
        members(classes);
        sizes(classes);
        words(withoutComments(source));
        lengths(source);
        System.out.println(wrong == 0 ? "the rules hold" : wrong + " faults");
        if (wrong != 0) {
            System.exit(1);
        }
    }

    /** All that is public, as the document writes it. */
    private static void face(String document) {
        Set<String> told = new TreeSet<>(), found = new TreeSet<>();
        Matcher m = Pattern.compile("public (int|long) (\\w+)\\(([^)]*)\\);").matcher(document);
        while (m.find()) {
            told.add(m.group(1) + " " + m.group(2) + "(" + m.group(3).replaceAll(" \\w+(,|$)", "$1") + ")");
        }
        holds("the document", "31 promises, one of them the constructor", told.size() == 30);
        for (Method one : SlowWells.class.getDeclaredMethods()) {
            if (!Modifier.isPrivate(one.getModifiers()) && !one.isSynthetic()) {
                StringBuilder of = new StringBuilder();
                for (Class<?> c : one.getParameterTypes()) {
                    of.append(of.length() > 0 ? ", " : "").append(c.getName());
                }
                found.add(one.getReturnType().getName() + " " + one.getName() + "(" + of + ")");
                holds("1", one + " is public, and belongs to objects", one.getModifiers() == Modifier.PUBLIC);
            }
        }
        holds("1", "the methods are " + found + ", told are " + told, found.equals(told));
        Set<String> constants = new TreeSet<>();
        for (Field one : SlowWells.class.getDeclaredFields()) {
            if (!Modifier.isPrivate(one.getModifiers())) {
                constants.add(one.getType() + " " + one.getName());
                holds("1", one + " is public static final",
                    one.getModifiers() == (Modifier.PUBLIC | Modifier.STATIC | Modifier.FINAL));
            }
        }
        holds("1", "the constants are " + constants,
            constants.equals(Set.of("int NONE", "int BAD", "int STATE", "int FULL", "long NO")));
        holds("1", "one constructor, of nothing", SlowWells.class.getDeclaredConstructors().length == 1
            && SlowWells.class.getConstructors().length == 1
            && SlowWells.class.getConstructors()[0].getParameterCount() == 0);
        int its = SlowWells.class.getModifiers();
        holds("1", "the class is public and final", its == (Modifier.PUBLIC | Modifier.FINAL));
    }

    private static void members(List<Class<?>> classes) {
        Set<String> faces = new TreeSet<>();
        for (Method one : SlowWells.class.getMethods()) {
            faces.add(one.getDeclaringClass() == SlowWells.class ? one.getName() : "");
        }
        for (Class<?> c : classes) {
            boolean isInside = c != SlowWells.class;
            holds("2", c + " is static", !isInside || Modifier.isStatic(c.getModifiers()));
            holds("1", c + " is not public", !isInside || !Modifier.isPublic(c.getModifiers()));
            for (Method one : c.getDeclaredMethods()) {
                boolean isPrivate = Modifier.isPrivate(one.getModifiers());
                holds("1", one + " bears a public one's name", !isPrivate || !faces.contains(one.getName()));
                holds("1", one + " is private", !isInside || isPrivate || one.isSynthetic());
            }
            for (Field one : c.getDeclaredFields()) {
                holds("5", one + " is static, not final",
                    !Modifier.isStatic(one.getModifiers()) || Modifier.isFinal(one.getModifiers()));
            }
        }
    }

    private static void sizes(List<Class<?>> classes) {
        holds("11", classes.size() + " classes", classes.size() <= 12);
        for (Class<?> c : classes) {
            int fields = 0;
            for (Field one : c.getDeclaredFields()) {
                fields += Modifier.isStatic(one.getModifiers()) ? 0 : 1;
            }
            holds("11", c + " has " + fields + " fields", fields <= 20);
            List<Executable> all = new ArrayList<>(Arrays.asList(c.getDeclaredMethods()));
            for (Constructor<?> one : c.getDeclaredConstructors()) {
                all.add(one);
            }
            for (Executable one : all) {
                holds("11", one + " takes more than seven", one.getParameterCount() <= 7);
            }
        }
    }

    private static String withoutComments(String source) {
        return source.replaceAll("(?s)/\\*.*?\\*/", " ").replaceAll("//[^\n]*", " ");
    }

    private static void words(String source) {
        for (String word : "throw throws try catch finally synchronized assert import package protected transient volatile native equals hashCode toString float double Object Random Thread System.out System.in System.nanoTime System.currentTimeMillis".split(" ")) {
            boolean stands = Pattern.compile("\\b" + word.replace(".", "\\.") + "\\b").matcher(source).find();
            holds("4, 6, 13", word + " stands in the source", !stands);
        }
        for (String sign : new String[] {"->", "::", "Exact(", "static {", "@"}) {
            holds("2, 4, 5", sign + " stands in the source", !source.contains(sign));
        }
        Matcher m = Pattern.compile("\\b(System|Math|Arrays|Integer|Long|String|StringBuilder|List)\\.(\\w+)").matcher(source);
        while (m.find()) {
            String call = m.group(1) + "." + m.group(2);
            holds("4", call, Set.of("System.arraycopy", "Math.min", "Math.max", "Long.MIN_VALUE").contains(call));
        }
        for (int i = 0; i < source.length(); i++) {
            holds("4", "a sign beyond 127 at " + i, source.charAt(i) < 128);
        }
    }

    /** How many lines each method takes: from a line that begins one to the next } in the same column. */
    private static void lengths(String source) {
        String[] lines = source.split("\n");
        for (int i = 0; i < lines.length; i++) {
            String line = lines[i], margin = line.substring(0, line.length() - line.stripLeading().length());
            if (line.matches("\\s+(public|private) [^=;]*\\) \\{")) {
                int end = i;
                while (end < lines.length && !lines[end].equals(margin + "}")) {
                    end++;
                }
                holds("11", line.strip() + " has " + (end - i + 1) + " lines", end - i < 60);
            }
        }
    }
}
