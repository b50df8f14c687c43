import java.io.IOException;
import java.nio.file.Files;
import java.nio.file.Path;
import java.util.ArrayList;
import java.util.List;
import java.util.Map;
import java.util.TreeSet;
import java.util.regex.Matcher;
import java.util.regex.Pattern;

/** README.md tells of every call of the document's face, with its throws in their order; its example answers as told. */
public final class ReadmeTest {
  private static final Map<String, String> SHORT = Map.of("NoSuchElementException", "NSE",
      "IllegalArgumentException", "IAE", "IllegalStateException", "ISE", "IndexOutOfBoundsException", "IOOBE");

  private ReadmeTest() {
  }

  public static void main(String[] args) throws IOException {
    TreeSet<String> face = new TreeSet<>();
    for (String line : Files.readAllLines(Path.of("../shared/DOC.md"))) {
      Matcher m = Pattern.compile("    public (?:int|long|void) (\\w+)\\(([^)]*)\\)(?: throws (.*))?;").matcher(line);
      if (m.matches()) {
        face.add(m.group(1) + "(" + m.group(2).replaceAll("(int|long) ", "") + ") throws " + shortNames(m.group(3)));
      }
    }
    TreeSet<String> told = new TreeSet<>();
    for (String line : Files.readAllLines(Path.of("README.md"))) {
      Matcher m = Pattern.compile("\\| `(\\w+\\([^)]*\\))` \\| [^|]+ \\|([^|]*)\\|").matcher(line);
      if (m.matches()) {
        told.add(m.group(1) + " throws " + m.group(2).trim());
      }
    }
    Check.due("calls", face.size(), 52);
    Check.due("what README.md tells", told, face);
    example();
    Check.close("ReadmeTest");
  }

  private static String shortNames(String thrown) {
    List<String> out = new ArrayList<>();
    for (String one : thrown == null ? new String[0] : thrown.split(", ")) {
      out.add(SHORT.get(one));
    }
    return String.join(", ", out);
  }

  private static void example() {
    PrimeCoins x = new PrimeCoins();
    Check.due("feed", x.feed(0x6d696e74, 0x20322033, 0x3b707572, 0x73652032, 0x20333b20), 20);
    Check.due("town", x.town(19), 2);
    Check.due("worth", x.worth(0), 6);
    Check.due("tax", x.tax(0), 3);
    Check.due("treasury", x.treasury(3), 1);
    Check.throwsDue("may", IllegalArgumentException.class, () -> x.may(0, 0, 2));
  }
}
