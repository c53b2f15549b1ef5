import java.io.IOException;
import java.nio.file.Files;
import java.nio.file.Path;
import java.util.List;
import java.util.regex.Matcher;
import java.util.regex.Pattern;

/** What of LANGUAGE.md can be read off the text of the class. */
public final class LanguageTest {
    private static int wrong = 0;

    private static void bad(String what) {
        wrong++;
        System.out.println(what);
    }

    public static void main(String[] args) throws IOException {
        String text = Files.readString(Path.of("src/main/java/MarkToBoard.java"));
        String code = text.replaceAll("//[^\n]*", "");
        words(code);
        imports(code);
        methods(code);
        face(code);
        System.out.println(wrong == 0 ? "the rules that can be read are kept" : wrong + " breaches");
        if (wrong != 0) System.exit(1);
    }

    private static void words(String code) {
        String[] none = {"throw", "throws", "try", "catch", "synchronized", "assert", "double", "float", "Object", "Math\\.\\w*Exact",
            "System\\.(?!arraycopy)\\w+", "protected", "native", "Random", "Thread", "hashCode", "equals", "toString"};
        for (String word : none) {
            if (Pattern.compile("\\b" + word + "\\b").matcher(code).find()) bad("forbidden: " + word);
        }
        for (String sign : List.of("->", "::", "\"")) if (code.contains(sign)) bad("forbidden: " + sign);
        if (Pattern.compile("static(?! final| class| final class)\\s+\\w+(\\[\\])*\\s+\\w+\\s*[=;]").matcher(code).find()) bad("a static field that isn't final");
    }

    private static void imports(String code) {
        Matcher m = Pattern.compile("import ([\\w.]+);").matcher(code);
        while (m.find()) if (!m.group(1).equals("java.util.Arrays")) bad("import " + m.group(1));
    }

    private static void methods(String code) {
        String[] lines = code.split("\n");
        for (int i = 0; i < lines.length; i++) {
            Matcher m = Pattern.compile("( +)(?:(?:public|private|static) )*(?:int|long|boolean|void|Jumper) \\w+\\(([^)]*)\\) \\{").matcher(lines[i]);
            if (!m.matches()) continue;
            if (m.group(2).split(",").length > 7) bad("too many parameters: " + lines[i]);
            int end = i;
            while (!lines[end].equals(m.group(1) + "}")) end++;
            if (end - i + 1 > 60) bad("too long: " + lines[i]);
        }
        if (Pattern.compile("\\bclass\\b").matcher(code).results().count() > 12) bad("too many classes");
    }

    /** Just the document's methods are public, and no other method bears the name of one. */
    private static void face(String code) throws IOException {
        String doc = Files.readString(Path.of("../shared/DOC.md"));
        String face = doc.substring(doc.indexOf("```java"), doc.indexOf("## Terms"));
        List<String> want = heads(face, "    public (?:int|long) \\w+\\([^)]*\\)");
        List<String> got = heads(code, "    public (?:int|long) \\w+\\([^)]*\\)");
        if (!want.stream().sorted().toList().equals(got.stream().sorted().toList())) bad("the face is not the document's");
        for (String head : want) {
            String name = head.replaceAll(".* (\\w+)\\(.*", "$1");
            long others = Pattern.compile("^ +(?:(?:private|static) )*(?:int|long|boolean|void|Jumper) " + name + "\\([^)]*\\) \\{", Pattern.MULTILINE)
                .matcher(code).results().count();
            if (others != 0) bad("another method bears the name " + name);
        }
    }

    private static List<String> heads(String text, String shape) {
        return Pattern.compile(shape).matcher(text).results().map(r -> r.group().trim()).toList();
    }
}
