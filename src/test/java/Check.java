import java.io.IOException;
import java.nio.file.Files;
import java.nio.file.Path;

/** What the tests of boundaries share: sentences of the document, checks that belong to them, texts that are told. */
final class Check {
  static final int NONE = -1, UNKNOWN = -1000000001, OUTSIDE = -1000000002, NOT = -1000000003, FULL = -1000000004;
  static final int MAX = Integer.MAX_VALUE, MIN = Integer.MIN_VALUE;

  private final String test;
  private final String document;
  private String sentence = "";
  private int sentences;
  private int checksOfSentence;
  private int checks;
  private int wrong;

  Check(String test) {
    this.test = test;
    document = documentIfThere();
  }

  private static String documentIfThere() {
    try {
      return oneLine(Files.readString(Path.of("../shared/DOC.md")));
    } catch (IOException e) {
      return null;
    }
  }

  private static String oneLine(String text) {
    return text.replaceAll("\\s+", " ");
  }

  /** The checks that follow belong to this sentence. It must be the document's own: a test of other words tests nothing. */
  void sentence(String words) {
    endOfSentence();
    sentence = words;
    sentences++;
    if (document != null && !document.contains(oneLine(words))) fail("the document has no such words");
  }

  private void endOfSentence() {
    if (sentences > 0 && checksOfSentence == 0) fail("nothing was checked");
    checksOfSentence = 0;
  }

  private void fail(String what) {
    wrong++;
    if (wrong <= 50) System.out.println(test + ", '" + sentence + "': " + what);
  }

  void due(String what, int got, int want) {
    checks++;
    checksOfSentence++;
    if (got != want) fail(what + ": answered " + got + ", due is " + want);
  }

  void due(String what, String got, String want) {
    checks++;
    checksOfSentence++;
    if (!got.equals(want)) fail(what + ":\n  it is  " + got + "\n  due is " + want);
  }

  void end() {
    endOfSentence();
    if (document == null) System.out.println(test + ": ../shared/DOC.md is not there, quotes were not compared");
    System.out.println(test + ": " + sentences + " sentences, " + checks + " checks, " + wrong + " wrong");
    if (wrong != 0) System.exit(1);
  }

  // ---- texts

  static void feed(SootMaps x, String text) {
    for (char letter : text.toCharArray()) x.feed(letter);
  }

  static int tell(SootMaps x, String text) {
    feed(x, text);
    return x.city();
  }

  static SootMaps of(String text) {
    SootMaps x = new SootMaps();
    tell(x, text);
    return x;
  }

  static String blanks(int n) {
    return " ".repeat(n);
  }

  // ---- what is so

  /** A flue from the oldest layer on, as figures: "112" is two of peat below one of paper. */
  static String flue(SootMaps x, int h) {
    StringBuilder all = new StringBuilder();
    for (int l = 0; l < x.house(h, 2); l++) all.append(x.layer(h, l));
    return all.toString();
  }

  /** All that a call can tell without a change, but for what lies deeper: Twins look there. */
  static String state(SootMaps x) {
    StringBuilder all = new StringBuilder("fault " + x.fault() + ", told");
    for (int what = 0; what <= 11; what++) all.append(' ').append(x.told(what));
    for (int h = 0; h < x.told(3); h++) {
      all.append(", house ").append(x.house(h, 0)).append(' ').append(x.house(h, 1)).append(' ').append(flue(x, h));
    }
    for (int s = 0; s < x.told(4); s++) {
      all.append(", sweep ").append(x.sweep(s, 0)).append(' ').append(x.sweep(s, 1)).append(' ').append(x.sweep(s, 2));
    }
    return all.toString();
  }
}
