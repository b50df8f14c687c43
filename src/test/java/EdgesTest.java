import java.util.TreeMap;

/** A test for each sentence of the document that names an edge; each is named by its promise. */
public final class EdgesTest {
  private static final int PROMISES = 53;

  private EdgesTest() {
  }

  public static void main(String[] args) {
    TreeMap<Integer, Integer> tests = new TreeMap<>();
    Edge.runAll(TownEdges.class, tests);
    Edge.runAll(DealsEdges.class, tests);
    Edge.runAll(PriceEdges.class, tests);
    Edge.runAll(PurseEdges.class, tests);
    Edge.runAll(NumberEdges.class, tests);
    Edge.runAll(TrayEdges.class, tests);
    int all = 0;
    for (int promise = 1; promise <= PROMISES; promise++) {
      Check.due("promise " + promise + " has tests", tests.containsKey(promise), true);
      all += tests.getOrDefault(promise, 0);
    }
    System.out.println("EdgesTest: " + all + " tests");
    Check.close("EdgesTest");
  }
}
