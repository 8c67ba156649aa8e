import java.io.IOException;
import java.lang.reflect.Method;
import java.lang.reflect.Modifier;
import java.nio.file.Files;
import java.nio.file.Path;
import java.util.Map;
import java.util.TreeMap;
import java.util.TreeSet;
import java.util.regex.Matcher;
import java.util.regex.Pattern;
import java.util.stream.Stream;

/** README.md against the class: its example answers what it says there, its tables have every call, its list every test. */
public final class ReadmeTest {
  private static int checks = 0;
  private static int wrong = 0;

  public static void main(String[] args) throws IOException {
    String page = Files.readString(Path.of("README.md"));
    example(page);
    tables(page);
    tests(page);
    System.out.println("ReadmeTest: " + checks + " checks, " + wrong + " wrong");
    if (wrong != 0) System.exit(1);
  }

  private static void due(String what, Object got, Object want) {
    checks++;
    if (!got.equals(want)) {
      wrong++;
      System.out.println("README.md, " + what + ": it is " + got + ", due is " + want);
    }
  }

  private static void example(String page) {
    Matcher block = Pattern.compile("(?s)```java\n(.*?)```").matcher(page);
    due("there is an example", block.find(), true);
    Matcher text = Pattern.compile("for \\(char letter : \"([^\"]*)\"\\.toCharArray\\(\\)\\) maps\\.feed\\(letter\\);").matcher(block.group(1));
    due("the example feeds a text", text.find(), true);
    SootMaps maps = new SootMaps();
    Check.feed(maps, text.group(1));
    Matcher line = Pattern.compile("(?m)^maps\\.(\\w+)\\(([^)]*)\\); +// (-?\\d+)").matcher(block.group(1));
    int lines = 0;
    while (line.find()) {
      lines++;
      String words = (line.group(1) + " " + line.group(2).replace(",", "")).trim();
      due("the example's " + words, Integer.parseInt(line.group(3)), Calls.call(maps, words));
    }
    due("lines of the example that say no answer", block.group(1).lines().count() - 2, (long) lines);
  }

  private static void tables(String page) throws IOException {
    Map<String, String> refusals = new TreeMap<>();
    Matcher row = Pattern.compile("(?m)^\\| `(\\w+)\\(([^)]*)\\)` \\|[^|]+\\|([^|]*)\\|$").matcher(page);
    Map<String, Integer> parameters = new TreeMap<>();
    while (row.find()) {
      due("a second row of " + row.group(1), parameters.containsKey(row.group(1)), false);
      parameters.put(row.group(1), row.group(2).isEmpty() ? 0 : row.group(2).split(", ").length);
      refusals.put(row.group(1), refusalsIn(row.group(3)));
    }
    Map<String, Integer> face = new TreeMap<>();
    for (Method m : SootMaps.class.getDeclaredMethods()) {
      if (Modifier.isPublic(m.getModifiers())) face.put(m.getName(), m.getParameterCount());
    }
    due("calls of the tables, with how many numbers each takes", parameters, face);
    Map<String, String> promised = promisedRefusals();
    if (!promised.isEmpty()) due("refusals of the calls", refusals, promised);
  }

  private static String refusalsIn(String words) {
    TreeSet<String> found = new TreeSet<>();
    Matcher m = Pattern.compile("\\b(UNKNOWN|OUTSIDE|NOT|FULL)\\b").matcher(words);
    while (m.find()) found.add(m.group());
    return found.toString();
  }

  private static Map<String, String> promisedRefusals() throws IOException {
    Map<String, String> promised = new TreeMap<>();
    Path document = Path.of("../shared/DOC.md");
    if (!Files.exists(document)) return promised;
    Matcher m = Pattern.compile("(?m)^`int (\\w+)\\([^`]*`: (.*)$").matcher(Files.readString(document));
    while (m.find()) promised.put(m.group(1), refusalsIn(m.group(2)));
    return promised;
  }

  private static void tests(String page) throws IOException {
    try (Stream<Path> files = Files.list(Path.of("src/test/java"))) {
      for (Path file : files.sorted().toList()) {
        String name = file.getFileName().toString();
        if (name.endsWith("Test.java")) due(name + " is named", page.contains(name + "`"), true);
      }
    }
  }
}
