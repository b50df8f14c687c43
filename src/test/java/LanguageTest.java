import java.io.IOException;
import java.nio.file.Files;
import java.nio.file.Path;
import java.util.ArrayList;
import java.util.List;
import java.util.Set;
import java.util.TreeMap;
import java.util.TreeSet;
import java.util.regex.Matcher;
import java.util.regex.Pattern;

/** Those rules of LANGUAGE.md that a look at the text can hold. */
public final class LanguageTest {
  private static final Set<String> IMPORTS = Set.of("java.util.Arrays", "java.util.NoSuchElementException");
  private static final Set<String> OF_LIBRARY = Set.of("Math.max", "Math.min", "Math.abs", "Integer.bitCount",
      "Arrays.fill", "System.arraycopy");

  private LanguageTest() {
  }

  public static void main(String[] args) throws IOException {
    String whole = Files.readString(Path.of("src/main/java/PrimeCoins.java"));
    String code = whole.replaceAll("\"[^\"\\n]*\"", "\"\"").replaceAll("(?s)/\\*.*?\\*/", "").replaceAll("//.*", "");
    imports(code);
    library(code);
    Check.due("what the rules leave out", all(code, "->|::|\\b(try|catch|finally|synchronized|assert|instanceof|Object"
        + "|equals|hashCode|toString|volatile|transient|native|strictfp|float|double|protected)\\b|\\w+Exact\\b"
        + "|\\bpackage\\b|\"\" *\\+|\\+ *\"\"").toString(), "[]");
    Check.due("signs 1 to 126", all(whole, "[^\\n\\x20-\\x7e]").toString(), "[]");
    Check.due("12 classes at most", all(code, "\\bclass \\w+").size() <= 12, true);
    Check.due("static state", all(code, "\\bstatic (?!final)[^(=;]*[=;]").toString(), "[]");
    Check.due("rows and parts handed to a constructor", all(code, "new [A-Z]\\w*\\([a-z]\\w*").toString(), "[]");
    names(code);
    lengths(whole);
    depths(code);
    Check.close("LanguageTest");
  }

  private static List<String> all(String text, String pattern) {
    List<String> out = new ArrayList<>();
    Matcher m = Pattern.compile(pattern).matcher(text);
    while (m.find()) {
      out.add(m.group());
    }
    return out;
  }

  private static void imports(String code) {
    for (String line : all(code, "import [^;]*")) {
      Check.due(line, IMPORTS.contains(line.substring(7)), true);
    }
  }

  private static void library(String code) {
    for (String call : new TreeSet<>(all(code, "\\b(Math|Integer|Long|Arrays|System|String|Character)\\.\\w+"))) {
      Check.due(call, OF_LIBRARY.contains(call), true);
    }
  }

  /** No private method, and none of a class inside, bears the name of a public one. */
  private static void names(String code) {
    Set<String> shown = new TreeSet<>();
    for (String head : all(code, "\\n  public \\w+ \\w+\\(")) {
      shown.add(head.replaceAll(".* (\\w+)\\(", "$1").trim());
    }
    Check.due("methods of the face", shown.size(), 52);
    for (String head : all(code, "\\n(  private|    )(?!.*\\bnew\\b)( \\w+)* \\w+\\([^)]*\\) *(throws[^{]*)?\\{")) {
      String name = head.replaceAll("(?s)\\(.*", "").replaceAll("(?s).* ", "");
      Check.due("a name of the face's: " + name, shown.contains(name), false);
    }
  }

  private static void lengths(String whole) {
    int from = 0;
    String[] lines = whole.split("\n");
    for (int i = 0; i < lines.length; i++) {
      if (lines[i].matches("(  |    )\\w.*\\(.*\\{") || lines[i].matches("(  |    )public .*\\)")) {
        from = i;
      }
      if (lines[i].matches("(  |    )\\}")) {
        Check.due("sixty lines: " + lines[from].trim(), i - from <= 60 || lines[from].contains("class "), true);
      }
    }
  }

  /** Calls go at most eight deep and never in a ring; names are taken alike in all classes, so it may see too many. */
  private static void depths(String code) {
    TreeMap<String, Set<String>> calls = new TreeMap<>();
    String name = "";
    for (String line : code.split("\n")) {
      Matcher head = Pattern.compile("^(  |    )(?! )(?:\\w+(?:\\[\\])* )*(\\w+)\\([^;]*$").matcher(line);
      if (head.find()) {
        name = head.group(2);
        calls.computeIfAbsent(name, k -> new TreeSet<>());
      } else if (!name.isEmpty()) {
        calls.get(name).addAll(all(line, "(?<!new )(?<!Math\\.)(?<!Integer\\.)(?<!Arrays\\.)\\b\\w+(?=\\()"));
      }
    }
    for (String one : calls.keySet()) {
      Check.due("calls of " + one + " at most eight deep", depth(one, calls, 1) <= 8, true);
    }
  }

  private static int depth(String name, TreeMap<String, Set<String>> calls, int sofar) {
    if (!calls.containsKey(name) || sofar > 20) {
      return sofar > 20 ? 100 : 0;
    }
    int most = 0;
    for (String inner : calls.get(name)) {
      most = Math.max(most, depth(inner, calls, sofar + 1));
    }
    return most + 1;
  }
}
