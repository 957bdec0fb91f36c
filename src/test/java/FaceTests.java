import java.io.IOException;
import java.lang.reflect.Constructor;
import java.lang.reflect.Field;
import java.lang.reflect.Method;
import java.lang.reflect.Modifier;
import java.nio.file.Files;
import java.nio.file.Path;
import java.util.Arrays;
import java.util.Set;
import java.util.TreeSet;
import java.util.regex.Matcher;
import java.util.regex.Pattern;

/** The class has the document's face and nothing beside it, and its text keeps to what a program can see of LANGUAGE.md. */
public final class FaceTests {
    private static final Path SOURCE = Path.of("src/main/java/MarkovTree.java");
    private static int wrong = 0;

    public static void main(String[] args) throws IOException {
        face();
        nothingElse();
        nestedClasses();
        String text = Files.readString(SOURCE);
        words(withoutTextsAndComments(text));
        methodLengths(text);
        System.out.println(wrong + " faults of face and language");
        if (wrong != 0) {
            System.exit(1);
        }
    }

    private static void check(boolean holds, String fault) {
        if (!holds) {
            wrong++;
            System.out.println(fault);
        }
    }

    private static final String[] METHODS = {
        "public int feed(int,int,int,int,int)", "public boolean end(int)", "public int path()", "public int fault()", "public int now(int)",
        "public int left()", "public int right()", "public int up()", "public int go(int,int)",
        "public long triple(int) throws java.util.NoSuchElementException", "public int letter(int)", "public int cut()",
        "public long matrix(int,int) throws java.util.NoSuchElementException", "public long form(int) throws java.util.NoSuchElementException",
        "public long value(int,int)", "public int round()", "public long least()", "public int upTo(long)", "public long markov(int)",
        "public int rank(long)", "public int triples(long)", "public long with(long,int)", "public int spread()", "public int mark()",
        "public int unmark()", "public long marked(int,int)", "public long near(long,boolean)", "public int jump(int)", "public int told()",
        "public int byteAt(int)", "public int drawn(int,int)", "public int undo()", "public boolean image(int)", "public boolean restore(int)"};

    private static void face() {
        check(Modifier.isPublic(MarkovTree.class.getModifiers()), "the class is not public");
        check(Modifier.isFinal(MarkovTree.class.getModifiers()), "the class is not final");
        Set<String> found = new TreeSet<>();
        for (Method m : MarkovTree.class.getDeclaredMethods()) {
            if (!Modifier.isPrivate(m.getModifiers())) {
                found.add(m.toString().replace("MarkovTree.", ""));
            }
        }
        check(found.equals(new TreeSet<>(Arrays.asList(METHODS))), "the methods are " + found);
        Constructor<?>[] constructors = MarkovTree.class.getDeclaredConstructors();
        check(constructors.length == 1 && constructors[0].toString().equals("public MarkovTree()"), "the constructors are " + Arrays.toString(constructors));
    }

    private static void nothingElse() {
        Set<String> open = new TreeSet<>();
        Set<String> publicNames = new TreeSet<>();
        for (Field f : MarkovTree.class.getDeclaredFields()) {
            if (!Modifier.isPrivate(f.getModifiers())) {
                open.add(f.toString());
            }
        }
        check(open.equals(new TreeSet<>(Arrays.asList("public static final int MarkovTree.NONE", "public static final long MarkovTree.HIDDEN"))),
            "the open fields are " + open);
        for (Method m : MarkovTree.class.getMethods()) {
            publicNames.add(m.getName());
        }
        for (Method m : MarkovTree.class.getDeclaredMethods()) {
            check(Modifier.isPublic(m.getModifiers()) || !publicNames.contains(m.getName()), m + " bears the name of a public one");
        }
        for (Class<?> inside : MarkovTree.class.getDeclaredClasses()) {
            for (Method m : inside.getDeclaredMethods()) {
                check(!publicNames.contains(m.getName()), m + " bears the name of a public one");
            }
        }
    }

    private static void nestedClasses() {
        Class<?>[] all = MarkovTree.class.getDeclaredClasses();
        check(all.length + 1 <= 12, "there are " + (all.length + 1) + " classes");
        for (Class<?> c : all) {
            check(Modifier.isStatic(c.getModifiers()) && !Modifier.isPublic(c.getModifiers()), c + " is not a static one of the class's own");
            long fields = Arrays.stream(c.getDeclaredFields()).filter(f -> !Modifier.isStatic(f.getModifiers())).count();
            check(fields <= 20, c + " has " + fields + " fields");
            for (Field f : c.getDeclaredFields()) {
                check(!Modifier.isStatic(f.getModifiers()) || Modifier.isFinal(f.getModifiers()), f + " is static and not final");
            }
            for (Method m : c.getDeclaredMethods()) {
                check(m.getParameterCount() <= 7, m + " takes more than seven parameters");
            }
        }
    }

    private static String withoutTextsAndComments(String text) {
        return text.replaceAll("(?s)/\\*.*?\\*/", " ").replaceAll("//[^\n]*", " ").replaceAll("'(\\\\.|[^'])'", "0").replaceAll("\"[^\"]*\"", "0");
    }

    private static void words(String code) {
        String[] out = {"->", "::", "\\btry\\b", "\\bcatch\\b", "\\bfinally\\b", "\\bsynchronized\\b", "\\bassert\\b", "\\bpackage\\b", "\\bFloat\\b",
            "\\bDouble\\b", "\\bdouble\\b", "Exact\\b", "\\bvar\\b", "\\bnative\\b", "\\bstatic\\s*\\{", "\\bSystem\\.(?!arraycopy)",
            "\\bprotected\\b", "\\bequals\\b", "\\bhashCode\\b", "\\btoString\\b", "while\\s*\\(true\\)", "for\\s*\\([^;]*;\\s*;"};
        for (String word : out) {
            check(!Pattern.compile(word).matcher(code).find(), "the class has " + word);
        }
        Matcher imports = Pattern.compile("import\\s+([^;]+);").matcher(code);
        while (imports.find()) {
            check(imports.group(1).equals("java.util.NoSuchElementException"), "the class imports " + imports.group(1));
        }
        Matcher made = Pattern.compile("throw new (\\w+)").matcher(code);
        while (made.find()) {
            check(made.group(1).equals("NoSuchElementException"), "the class throws " + made.group(1));
        }
    }

    private static void methodLengths(String text) {
        int from = 0;
        String[] lines = text.split("\n");
        for (int i = 0; i < lines.length; i++) {
            if (lines[i].matches(" {4}( {4})?[^ /*].*\\) ?(throws \\w+ )?\\{")) {
                from = i;
            }
            if (lines[i].matches(" {4}( {4})?\\}") && !lines[from].contains("class")) {
                check(i - from <= 60, "the method at line " + (from + 1) + " is too long");
                from = i;
            }
        }
    }
}
