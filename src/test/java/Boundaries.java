import java.io.IOException;
import java.nio.file.Files;
import java.nio.file.Path;
import java.util.regex.Matcher;
import java.util.regex.Pattern;

/** Tests of single sentences of the document, each under the words that it tests. */
class Boundaries extends Checks {
    static final String TERMS = "Terms";
    private static final int PROMISES = 35;
    private static final Path DOCUMENT = Path.of("../shared/DOC.md");

    /** What words tell of a boundary: each one that the document has must stand in the words of a test. */
    private static final Pattern BOUNDARY_WORDS = Pattern.compile(
        "NONE|HIDDEN|NoSuchElementException|\\bfalse\\b|\\bat most\\b|\\bup to\\b|\\bmore than\\b|\\babove\\b|\\bbeyond\\b|\\bbelow\\b|\\bor more\\b"
        + "|\\bor less\\b|\\bnothing\\b|\\bno such\\b|\\bnone\\b|\\bempty\\b|\\bahead of any\\b|\\bas great as\\b|\\balone\\b|\\btill\\b|\\bwrapping\\b"
        + "|\\bcan't\\b|\\bthrows\\b|\\d to \\d|\\bnot as told\\b|\\bit is there\\b|\\bit is\\b|\\bit has none\\b|\\bat first\\b|\\balike\\b|\\bonce\\b");

    private static String document = "";
    private static boolean[] tested = new boolean[0];

    interface Test {
        void on(MarkovTree x);
    }

    /** Without a document the tests are done all the same, but their words are not looked for. */
    static void readDocument() throws IOException {
        if (Files.exists(DOCUMENT)) {
            document = Files.readString(DOCUMENT);
            tested = new boolean[document.length()];
        } else {
            System.out.println("there is no " + DOCUMENT);
        }
    }

    /** One test, on a new object, of these words under that heading of the document. */
    static void test(String heading, String words, Test test) {
        about = heading + ", \"" + words + "\"";
        noteTested(heading, words);
        int before = checks();
        test.on(new MarkovTree());
        if (checks() == before) {
            wrong("nothing was tested");
        }
    }

    private static int headingAt(String heading) {
        Matcher m = Pattern.compile("(?m)^## " + Pattern.quote(heading) + "(:.*)?$").matcher(document);
        return m.find() ? m.start() : -1;
    }

    private static void noteTested(String heading, String words) {
        if (document.isEmpty()) {
            return;
        }
        int from = headingAt(heading);
        int at = from < 0 ? -1 : document.indexOf(words, from);
        int end = from < 0 ? -1 : document.indexOf("\n## ", from + 1);
        if (at < 0 || end >= 0 && at > end) {
            wrong("the document has no such words there");
            return;
        }
        for (int i = at; i < at + words.length(); i++) {
            tested[i] = true;
        }
    }

    /** Tells the words that name a boundary and stand in no test's words. */
    static void dueAllTested() {
        if (document.isEmpty()) {
            return;
        }
        about = "the document";
        int from = headingAt(TERMS);
        int to = headingAt("Not promised");
        if (from < 0 || to < from) {
            wrong("it has other headings than these tests know");
            return;
        }
        for (int n = 1; n <= PROMISES; n++) {
            duePromiseTested(n);
        }
        Matcher m = BOUNDARY_WORDS.matcher(document);
        m.region(from, to);
        while (m.find()) {
            String around = document.substring(Math.max(0, m.start() - 40), Math.min(document.length(), m.end() + 40));
            boolean isSignature = around.contains("throws NoSuchElementException`");
            if (!tested[m.start()] && !isSignature) {
                wrong("no test has the words .." + around.replace('\n', ' ') + "..");
            }
        }
    }

    private static void duePromiseTested(int n) {
        int from = headingAt("Promise " + n);
        int to = from < 0 ? -1 : document.indexOf("\n## ", from);
        boolean any = false;
        for (int i = from; i >= 0 && i < to; i++) {
            any |= tested[i];
        }
        if (!any) {
            wrong("no test is of promise " + n);
        }
    }
}
