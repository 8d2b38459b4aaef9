import java.nio.file.Files;
import java.nio.file.Path;
import java.util.ArrayList;
import java.util.List;
import java.util.Set;
import java.util.TreeSet;
import java.util.regex.Matcher;
import java.util.regex.Pattern;

/** Looks through the source for what ../shared/LANGUAGE.md rules out, as far as a look at the text can tell. */
public final class LanguageTests {
    private static int wrong = 0;

    private static void fail(String rule, String what) {
        wrong++;
        System.out.println("rule " + rule + ": " + what);
    }

    public static void main(String[] args) throws Exception {
        String file = args.length > 0 ? args[0] : "src/main/java/NestedPoints.java";
        String source = Files.readString(Path.of(file));
        String code = withoutCommentsAndTexts(source);
        signs(source);
        words(code);
        face(code);
        methods(code);
        classes(code);
        objects(code);
        if (wrong != 0) {
            System.exit(1);
        }
    }

    private static String withoutCommentsAndTexts(String source) {
        String noBlocks = Pattern.compile("/\\*.*?\\*/", Pattern.DOTALL).matcher(source).replaceAll("");
        return noBlocks.replaceAll("//[^\n]*", "").replaceAll("'(\\\\.|[^'])'", "0").replaceAll("\"(\\\\.|[^\"])*\"", "T");
    }

    private static void signs(String source) {
        for (int i = 0; i < source.length(); i++) {
            char c = source.charAt(i);
            if (c > 126 || (c < 32 && c != '\n')) {
                fail("4", "sign " + (int) c + " at " + i);
                return;
            }
        }
    }

    private static void words(String code) {
        String[] barred = {"package", "import", "throw", "throws", "try", "catch", "finally", "synchronized", "assert",
            "volatile", "transient", "native", "strictfp", "protected", "var", "Object", "Exception", "Error", "Thread",
            "System.out", "System.currentTimeMillis", "System.nanoTime", "Random", "Class", "equals", "hashCode", "toString",
            "yield", "goto", "null"};
        for (String word : barred) {
            if (Pattern.compile("\\b" + Pattern.quote(word) + "\\b").matcher(code).find()) {
                fail("3, 4, 6 or 13", "the word " + word);
            }
        }
        for (String sign : new String[] {"->", "::", "@", "Exact("}) {
            if (code.contains(sign)) {
                fail("2, 4 or 6", "the sign " + sign);
            }
        }
        Matcher statics = Pattern.compile("\\bstatic\\s+(?!final\\b)(\\w+[\\[\\]]*\\s+\\w+)\\s*[=;{]").matcher(code);
        while (statics.find()) {
            fail("5", "static that is not final: " + statics.group(1));
        }
        if (Pattern.compile("\\bstatic\\s*\\{").matcher(code).find()) {
            fail("5", "a static initialiser block");
        }
        Matcher uses = Pattern.compile("\\b(System|Integer|Long|Math|Arrays|String|StringBuilder|ArrayList|List)\\.(\\w+)").matcher(code);
        Set<String> allowed = Set.of("System.arraycopy", "Integer.bitCount", "Math.max", "Math.min");
        while (uses.find()) {
            if (!allowed.contains(uses.group())) {
                fail("4", "library use that this test does not know: " + uses.group());
            }
        }
    }

    private static void face(String code) {
        Set<String> publics = new TreeSet<>();
        Matcher m = Pattern.compile("\\bpublic\\s+(?:static final int |final class |int |)(\\w+)").matcher(code);
        while (m.find()) {
            publics.add(m.group(1));
        }
        String[] due = {"BAD", "NestedPoints", "points", "nest", "of", "about", "told", "path", "may", "price", "left",
            "reduce", "ways", "retract", "homotopic", "same", "form", "byCode", "list", "listed", "tears", "maps", "fence",
            "fixed", "chains", "euler", "holes", "divide", "faces", "made", "part", "feed", "space", "seed", "draw", "sheet",
            "put", "item", "copy", "lay", "take", "shelf", "taken", "act", "trace", "many", "keep", "again"};
        if (!publics.equals(new TreeSet<>(List.of(due)))) {
            fail("1", "the public names are " + publics);
        }
        Matcher others = Pattern.compile("(?m)^ +(?!public)(?:\\w+ )*(?:int|boolean|void|long)(?:\\[\\])* (\\w+)\\(").matcher(code);
        while (others.find()) {
            if (publics.contains(others.group(1))) {
                fail("1", "a method that is not public bears a public name: " + others.group(1));
            }
        }
        Matcher members = Pattern.compile("(?m)^    (?! |public |private |\\}|static final class)(\\S.*)$").matcher(code);
        while (members.find()) {
            fail("1", "a member neither public nor private: " + members.group(1));
        }
    }

    private static void methods(String code) {
        String[] lines = code.split("\n");
        Pattern head = Pattern.compile("^(    |        )(?:[\\w\\[\\]]+ )+(\\w+)\\(([^()]*)\\) \\{$");
        for (int i = 0; i < lines.length; i++) {
            Matcher m = head.matcher(lines[i]);
            if (!m.find()) {
                continue;
            }
            int end = i;
            while (end < lines.length && !lines[end].equals(m.group(1) + "}")) {
                end++;
            }
            if (end - i > 60) {
                fail("11", m.group(2) + " has " + (end - i) + " lines");
            }
            if (m.group(3).split(",").length > 7) {
                fail("11", m.group(2) + " has more than seven parameters");
            }
        }
    }

    private static void classes(String code) {
        List<String> heads = new ArrayList<>();
        Matcher m = Pattern.compile("(?m)^.*\\b(?:class|interface|enum|record) (\\w+).*$").matcher(code);
        while (m.find()) {
            heads.add(m.group(1));
            if (!m.group(1).equals("NestedPoints") && !m.group().contains("static final class")) {
                fail("2", "not a static class: " + m.group());
            }
        }
        if (heads.size() > 12) {
            fail("11", heads.size() + " classes");
        }
    }

    /** All that is made is made with an object of the class: by what fields begin with, or in a constructor. */
    private static void objects(String code) {
        for (String line : code.split("\n")) {
            boolean isField = line.matches("\\s+(private )?(static )?final .* = new .*;");
            boolean isOfConstructor = line.matches(" {12}\\w+\\[i\\] = new \\w+\\(\\);");
            if (line.matches(".*\\bnew\\b.*") && !isField && !isOfConstructor) {
                fail("12", "made by a call: " + line.trim());
            }
        }
    }
}
