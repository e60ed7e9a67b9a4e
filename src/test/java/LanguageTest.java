import java.nio.file.Files;
import java.nio.file.Path;
import java.util.Arrays;
import java.util.TreeSet;
import java.util.regex.Matcher;
import java.util.regex.Pattern;

/** The program against those rules of LANGUAGE.md that can be seen in its text. */
public final class LanguageTest {
    public static void main(String[] args) throws Exception {
        String raw = Files.readString(Path.of(args.length > 0 ? args[0] : ".", "src/main/java/WaitingWires.java"));
        String code = raw.replaceAll("(?s)/\\*.*?\\*/", "").replaceAll("//[^\n]*", "");
        String[] forbidden = {"throw", "try", "catch", "synchronized", "assert", "package", "->", "::", "Exact",
            "System.out", "System.nano", "System.current", "Random", "protected", "hashCode", "toString", "double", "float"};
        for (String word : forbidden) {
            boolean letters = word.matches("\\w+");
            Matcher m = Pattern.compile(letters ? "\\b" + word + "\\b" : Pattern.quote(word)).matcher(code);
            Checks.due("'" + word + "' in the program", m.find() ? 1 : 0, 0);
        }
        checkFace(code);
        checkImports(code);
        checkLengths(code);
        Checks.finish();
    }

    private static void checkFace(String code) {
        TreeSet<String> face = new TreeSet<>(Arrays.asList("feed", "end", "text", "fault", "wire", "event", "place",
            "states", "right", "of", "quarrels", "back", "stuck", "aim", "makes", "judge", "cost", "would", "cure", "cures",
            "delay", "beat", "time", "come", "undo", "run", "sheet", "lay", "row", "count"));
        TreeSet<String> found = new TreeSet<>();
        Matcher m = Pattern.compile("public int (\\w+)\\(").matcher(code);
        while (m.find()) {
            found.add(m.group(1));
        }
        Checks.due("the public methods are those of the document", found.equals(face) ? 1 : 0, 1);
        m = Pattern.compile("^ {4,}(?:private |static |final )*(?:int|long|boolean|void|int\\[\\]) (\\w+)\\(",
            Pattern.MULTILINE).matcher(code);
        while (m.find()) {
            Checks.due(m.group(1) + " bears the name of a public one", face.contains(m.group(1)) ? 1 : 0, 0);
        }
    }

    private static void checkImports(String code) {
        Matcher m = Pattern.compile("import ([\\w.]+);").matcher(code);
        while (m.find()) {
            Checks.due("import " + m.group(1), m.group(1).equals("java.util.Arrays") ? 1 : 0, 1);
        }
    }

    private static void checkLengths(String code) {
        int classes = code.split("\\bclass \\w+").length - 1;
        Checks.due("at most twelve classes", classes <= 12 ? 1 : 0, 1);
        int length = 0;
        for (String line : code.split("\n")) {
            boolean opens = line.matches("^( {4}| {8})[\\w\\[\\] ]+\\(.*\\{$");
            length = opens ? 0 : length + 1;
            if (line.matches("^( {4}| {8})\\}$")) {
                Checks.due("a method of " + length + " lines", length <= 60 || line.startsWith("    }") ? 1 : 0, 1);
            }
        }
    }
}
