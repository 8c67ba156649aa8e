import java.lang.reflect.Constructor;
import java.lang.reflect.Field;
import java.lang.reflect.Method;
import java.lang.reflect.Modifier;
import java.nio.file.Files;
import java.nio.file.Path;
import java.util.Set;
import java.util.TreeSet;
import java.util.regex.Matcher;
import java.util.regex.Pattern;

/** What can be seen of the rules of LANGUAGE.md: the face of the class, words that are left out, sizes. */
public final class LanguageTest {
  private static int wrong = 0;

  public static void main(String[] args) throws Exception {
    String source = Files.readString(Path.of("src/main/java/SootMaps.java"));
    String code = source.replaceAll("(?s)/\\*.*?\\*/", " ").replaceAll("//[^\n]*", " ");
    face();
    names();
    words(code);
    sizes();
    methodLengths(source);
    room();
    System.out.println("LanguageTest: " + wrong + " wrong");
    if (wrong != 0) System.exit(1);
  }

  private static void fail(String what) {
    wrong++;
    System.out.println(what);
  }

  private static void face() {
    Set<String> seen = new TreeSet<>();
    for (Method m : SootMaps.class.getDeclaredMethods()) {
      if (!Modifier.isPrivate(m.getModifiers())) seen.add(m.toString());
    }
    Set<String> due = new TreeSet<>();
    String faces = "feed(int) city() fault() told(int) house(int,int) layer(int,int) sweep(int,int) month(int) "
      + "fire(int,int) rain() swept(int) run(int,int) swap(int,int,int,int) pay(int,int,int) drift(int) undo(int) "
      + "burned(int,int,int) sure(int,int,int) flues(int,int) trade(int,int,int) ring(int) brushes(int,int) "
      + "wet(int,int) see(int,int,boolean) next(int,int) write(int,int) judge() tear() seed(int) keep(int) goBack(int)";
    for (String f : faces.split(" ")) due.add("public int SootMaps." + f);
    if (!seen.equals(due)) fail("rule 1: the methods are " + seen);
    Set<String> constants = new TreeSet<>();
    for (Field f : SootMaps.class.getDeclaredFields()) {
      if (!Modifier.isPrivate(f.getModifiers())) constants.add(f.toString());
      if (Modifier.isStatic(f.getModifiers()) && !Modifier.isFinal(f.getModifiers())) fail("rule 5: " + f);
    }
    Set<String> dueConstants = new TreeSet<>();
    for (String c : "NONE UNKNOWN OUTSIDE NOT FULL".split(" ")) dueConstants.add("public static final int SootMaps." + c);
    if (!constants.equals(dueConstants)) fail("rule 1: the constants are " + constants);
    Constructor<?>[] made = SootMaps.class.getDeclaredConstructors();
    if (made.length != 1 || !Modifier.isPublic(made[0].getModifiers())) fail("rule 1: constructors");
    if (!Modifier.isFinal(SootMaps.class.getModifiers())) fail("rule 1: the class is not final");
  }

  private static void names() {
    Set<String> open = new TreeSet<>();
    for (Method m : SootMaps.class.getDeclaredMethods()) {
      if (Modifier.isPublic(m.getModifiers())) open.add(m.getName());
    }
    for (Class<?> c : allClasses()) {
      for (Method m : c.getDeclaredMethods()) {
        if (!Modifier.isPublic(m.getModifiers()) && open.contains(m.getName())) fail("rule 1: the name of " + m);
        if (m.getParameterCount() > 7) fail("rule 11: parameters of " + m);
      }
    }
  }

  private static Class<?>[] allClasses() {
    Class<?>[] inside = SootMaps.class.getDeclaredClasses();
    Class<?>[] all = new Class<?>[inside.length + 1];
    System.arraycopy(inside, 0, all, 1, inside.length);
    all[0] = SootMaps.class;
    return all;
  }

  private static void words(String code) {
    String[] out = {"\\bthrow\\b", "\\bthrows\\b", "\\btry\\b", "\\bcatch\\b", "\\bsynchronized\\b", "\\bassert\\b",
      "->", "::", "\\bimport\\b", "\\bpackage\\b", "\\bNaN\\b", "Exact\\b", "\\bhashCode\\b", "\\btoString\\b",
      "\\bObject\\b", "\\bRandom\\b", "\\bThread\\b", "currentTimeMillis", "nanoTime", "while \\(true\\)", "for \\(;;\\)"};
    for (String word : out) {
      Matcher m = Pattern.compile(word).matcher(code);
      if (m.find()) fail("the language has no " + m.group());
    }
    Matcher m = Pattern.compile("\\b(System|Math|Integer|Long|Arrays)\\.(\\w+)").matcher(code);
    Set<String> fine = Set.of("System.arraycopy", "Math.min", "Math.max", "Math.floorMod", "Integer.bitCount");
    while (m.find()) if (!fine.contains(m.group())) fail("rule 4: " + m.group());
    for (char c : code.toCharArray()) if (c > 127) fail("rule 4: sign " + (int) c);
  }

  private static void sizes() {
    Class<?>[] all = allClasses();
    if (all.length > 12) fail("rule 11: classes " + all.length);
    for (Class<?> c : all) {
      int fields = 0;
      for (Field f : c.getDeclaredFields()) if (!Modifier.isStatic(f.getModifiers())) fields++;
      if (fields > 20) fail("rule 11: fields of " + c + " " + fields);
      if (c != SootMaps.class && !Modifier.isStatic(c.getModifiers())) fail("rule 2: " + c + " is not static");
    }
  }

  /** A method's lines go from its head to the brace that stands as far in as the head. */
  private static void methodLengths(String source) {
    Matcher m = Pattern.compile("(?sm)^( {4}| {8})[a-z][^\n;]*\\) \\{\n.*?^\\1}").matcher(source);
    int methods = 0;
    while (m.find()) {
      methods++;
      long lines = m.group().lines().count();
      if (lines > 60) fail("rule 11: " + lines + " lines: " + m.group().lines().findFirst().get());
    }
    if (methods < 31) fail("only " + methods + " methods were found");
  }

  /** The dearest calls many times over: nothing is made beyond what the constructor made. */
  private static void room() {
    com.sun.management.ThreadMXBean bean =
      (com.sun.management.ThreadMXBean) java.lang.management.ManagementFactory.getThreadMXBean();
    SootMaps x = new SootMaps();
    String text = "c2 1;h9 7;h0 7;h1 7;h2 7;h3 7;h4 7;h5 7;h6 7;h7 7;s15 1;s496 50;s496 40;s496 30;s496 20;";
    long before = bean.getThreadAllocatedBytes(Thread.currentThread().getId());
    for (int i = 0; i < 400; i++) {
      if (i % 100 == 0) {
        for (int l = 0; l < text.length(); l++) x.feed(text.charAt(l));
        x.city();
      }
      x.drift(30);
      x.undo(30);
      x.burned(0, 3, -1);
      x.trade(0, 511, 8);
      x.keep(0);
      x.goBack(0);
    }
    long made = bean.getThreadAllocatedBytes(Thread.currentThread().getId()) - before;
    if (made > 100000) fail("rule 12: calls made " + made + " bytes");
  }
}
