import java.util.ArrayList;
import java.util.Collections;
import java.util.List;

/** Each refusal of each call, also where two hold at once; that nothing has changed by it; that no number makes a call throw. */
public final class RefusalsTest {
  private static final int NONE = Check.NONE, UNKNOWN = Check.UNKNOWN, OUTSIDE = Check.OUTSIDE, NOT = Check.NOT, FULL = Check.FULL;
  private static final Check check = new Check("RefusalsTest");

  private static final String STREET_TEXT = "c1 2;h9 1;h0 2;h1 3;h9 4;s3 5;s6 7;s8 9;";
  private static final String NINE_TEXT = "c2 1;h9 7;h0 6;h1 5;h2 4;h3 3;h4 2;h5 1;h6 7;h7 6;s511 9;s0 8;s15 7;s240 6;s257 5;";

  private static final Twins NO_CITY = new Twins(check, "", "seed 5", "keep 0", "seed 6", "feed 99", "feed 49");
  private static final Twins BARE = new Twins(check, "c1 2;", "drift 2", "keep 1", "month 3", "feed 99", "feed 49");
  private static final Twins STREET = new Twins(check, STREET_TEXT, ("seed 77|month 2|keep 0|drift 2|fire 0 5|swap 0 0 2 3|pay 1 0 0|run 3 2|"
    + "rain|swept 1|see 0 5 1|see 2 5 0|write 0 0|write 1 0|feed 99|feed 49").split("\\|"));
  /** All houses and sweeps; as much SEEN and in THE BOOK as there can be, all of it right; 30 deeds; both images. */
  private static final Twins FILLED = new Twins(check, NINE_TEXT, filled());
  private static final Twins FULL_TEXT = new Twins(check, STREET_TEXT, repeated(240, "feed 32"));
  private static final Twins LATE = new Twins(check, "c0 1;h9 1;s1 3;s0 4;", late());

  public static void main(String[] args) {
    scenes();
    order();
    unknownHouses();
    unknownSweeps();
    twice();
    unknownImagesAndSets();
    outside();
    notNow();
    full();
    farBelow();
    everyNumber();
    check.end();
  }

  private static String[] repeated(int n, String words) {
    return Collections.nCopies(n, words).toArray(new String[0]);
  }

  private static String[] filled() {
    List<String> all = new ArrayList<>(List.of("seed 9", "keep 0", "drift 3", "keep 1", "swept 0", "swept 4", "pay 1 0 3"));
    all.addAll(Collections.nCopies(14, "month 1"));
    all.addAll(Collections.nCopies(14, "rain"));
    all.add("swept 0");
    for (int i = 0; i < 6; i++) all.add("see " + i + " " + (1 + i) + " 1");
    for (int i = 0; i < 20; i++) all.add("write 0 0");
    return all.toArray(new String[0]);
  }

  private static String[] late() {
    List<String> all = new ArrayList<>(List.of(repeated(300, "month 30")));
    all.addAll(List.of("month 1", "keep 0", "fire 0 4", "seed 8"));
    return all.toArray(new String[0]);
  }

  /** What the scenes are for must hold in them. */
  private static void scenes() {
    check.sentence("What is refused changes nothing.");
    check.due("no city", NO_CITY.make().told(0), 0);
    check.due("no houses", BARE.make().told(3), 0);
    check.due("deeds", STREET.make().told(11), 8);
    check.due("deeds", FILLED.make().told(11), 30);
    check.due("seen", FILLED.make().told(9), 6);
    check.due("entries", FILLED.make().told(10), 20);
    check.due("all right", FILLED.make().judge(), NONE);
    check.due("letters", FULL_TEXT.make().told(5), 240);
    check.due("months", LATE.make().told(6), 9001);
  }

  private static void refused(Twins scene, int due, String... calls) {
    for (String words : calls) scene.unchanged(words, x -> Calls.call(x, words), due);
  }

  private static void order() {
    check.sentence("REFUSALS, of several the first in this order: UNKNOWN");
    refused(STREET, UNKNOWN, "house 4 4", "house -1 -1", "layer 4 8", "layer -1 -1", "sweep 3 3", "sweep -1 -1", "fire 4 8", "fire -1 -1",
      "burned 4 0 -1", "burned 4 4 -1", "sure 4 4 5", "sure -1 0 0", "sure 4 2 3", "flues 4 3", "flues -1 -1", "see 4 0 1", "see -1 8 0",
      "write 4 8", "write -1 -1");
    refused(FILLED, UNKNOWN, "see 9 1 1", "see 9 8 1", "write 9 0", "write 9 8", "write -1 0");
    refused(STREET, UNKNOWN, "swap 0 4 1 2", "swap 0 2 3 3", "swap 0 0 0 0", "swap 0 2 2 2", "pay 0 3 0", "pay 0 0 3", "pay 0 1 4",
      "pay 1 1 1");
    refused(NO_CITY, UNKNOWN, "goBack 2", "goBack -1", "house 0 0", "house 0 9", "swap 0 0 1 1", "pay 0 1 0", "see 0 9 1", "write 0 9");
    check.sentence("OUTSIDE (another number out of its bounds), NOT (not now, as told), FULL.");
    refused(NO_CITY, OUTSIDE, "month 0", "month 31", "drift 0", "drift 31", "undo 0", "undo 31");
    refused(FULL_TEXT, OUTSIDE, "feed -1", "feed 256");
    refused(FILLED, OUTSIDE, "see 0 0 1", "see 8 8 0", "write 0 -1", "write 8 8");
    refused(LATE, OUTSIDE, "month 0", "month 31", "drift 0", "drift 31");
  }

  private static void unknownHouses() {
    check.sentence("UNKNOWN (a HOUSE, SWEEP, IMAGE that there is not");
    String[] calls = {"house # 0", "layer # 0", "fire # 1", "swept #", "run # -1", "swap 0 # 1 2", "swap 0 0 1 #", "pay 0 1 #",
      "burned # 1 -1", "sure # 1 1", "flues # 0", "see # 1 1", "write # 0"};
    for (String words : calls) {
      for (String h : new String[] {"-2147483648", "-1", "4", "9", "2147483647"}) refused(STREET, UNKNOWN, words.replace("#", h));
      refused(BARE, UNKNOWN, words.replace("#", "0"));
      refused(NO_CITY, UNKNOWN, words.replace("#", "0"));
      refused(FILLED, UNKNOWN, words.replace("#", "9"));
    }
    refused(STREET, UNKNOWN, "run 2 2", "run 2 3", "run 2 -2", "run 2 4", "run 0 0", "trade 0 1 4", "trade 0 1 -2");
  }

  private static void unknownSweeps() {
    check.sentence("UNKNOWN (a HOUSE, SWEEP, IMAGE that there is not");
    String[] calls = {"sweep # 0", "swap # 0 1 2", "swap 0 0 # 2", "pay # 1 2", "pay 0 # 2", "trade # 1 -1"};
    for (String words : calls) {
      for (String s : new String[] {"-2147483648", "-1", "3", "5", "2147483647"}) refused(STREET, UNKNOWN, words.replace("#", s));
      refused(BARE, UNKNOWN, words.replace("#", "0"));
      refused(NO_CITY, UNKNOWN, words.replace("#", "0"));
      refused(FILLED, UNKNOWN, words.replace("#", "5"));
    }
  }

  private static void twice() {
    check.sentence("one twice, where two are asked");
    refused(STREET, UNKNOWN, "swap 0 0 0 2", "swap 1 1 1 3", "swap 0 0 1 0", "swap 0 2 1 2", "pay 0 0 2", "pay 2 2 3");
    refused(FILLED, UNKNOWN, "swap 4 8 4 1", "swap 3 4 4 4", "pay 4 4 0");
  }

  private static void unknownImagesAndSets() {
    check.sentence("IMAGE that there is not");
    for (Twins scene : new Twins[] {NO_CITY, BARE, STREET, FILLED}) {
      refused(scene, UNKNOWN, "keep -2147483648", "keep -1", "keep 2", "keep 2147483647", "goBack -2147483648", "goBack -1", "goBack 2",
        "goBack 2147483647");
    }
    check.sentence("bits of such");
    refused(STREET, UNKNOWN, "trade 0 16 -1", "trade 0 31 -1", "trade 0 -1 -1", "trade 0 -2147483648 -1", "trade 0 2147483647 0");
    refused(FILLED, UNKNOWN, "trade 0 512 -1", "trade 0 1023 8", "trade 4 -512 -1");
    refused(BARE, UNKNOWN, "trade 0 0 -1", "trade 0 1 -1");
  }

  private static void outside() {
    check.sentence("OUTSIDE (another number out of its bounds)");
    String[] far = {"-2147483648", "2147483647"};
    String[] calls = {"feed -1", "feed 256", "told -1", "told 12", "house 0 -1", "house 0 4", "layer 0 -1", "layer 0 8", "sweep 0 -1",
      "sweep 0 3", "month 0", "month -1", "month 31", "fire 0 -1", "fire 0 8", "drift 0", "drift -1", "drift 31", "undo 0", "undo -1",
      "undo 31", "burned 0 0 -1", "burned 0 4 -1", "sure 0 0 1", "sure 0 4 1", "sure 0 3 0", "sure 0 3 4", "sure 0 1 2", "flues 0 -1",
      "flues 0 3", "brushes 0 0", "brushes 8 0", "brushes 1 -1", "brushes 1 2", "wet -1 0", "wet 9 0", "wet 0 -1", "wet 0 101",
      "see 0 0 1", "see 0 8 1", "next 0 0", "next 8 0", "next 1 -1", "next 1 2", "write 0 -1", "write 0 8", "seed -1"};
    refused(STREET, OUTSIDE, calls);
    for (String f : far) {
      refused(STREET, OUTSIDE, "feed " + f, "told " + f, "house 0 " + f, "layer 0 " + f, "sweep 0 " + f, "month " + f, "fire 0 " + f,
        "drift " + f, "undo " + f, "burned 0 " + f + " -1", "sure 0 " + f + " 1", "sure 0 3 " + f, "flues 0 " + f, "brushes " + f + " 0",
        "brushes 1 " + f, "wet " + f + " 0", "wet 0 " + f, "see 0 " + f + " 1", "next " + f + " 0", "next 1 " + f, "write 0 " + f);
    }
    refused(STREET, OUTSIDE, "seed -2147483648");
  }

  private static void notNow() {
    check.sentence("NOT (not now, as told)");
    refused(NO_CITY, NOT, "month 1", "month 30", "rain", "drift 1", "drift 30", "undo 1", "undo 30", "goBack 1");
    refused(BARE, NOT, "undo 4", "undo 30", "goBack 0");
    refused(STREET, NOT, "undo 9", "undo 30", "goBack 1");
    check.sentence("NOT: one does not KNOW what he gives, or KNOWS what he would get.");
    // in this scene 0 KNOWS 0 1 3, 1 KNOWS 0 1 2, 2 KNOWS 0 3
    refused(STREET, NOT, "swap 0 2 2 3", "swap 0 1 2 2", "swap 0 3 2 2", "swap 0 3 1 1", "swap 0 1 1 2", "swap 0 2 1 3", "swap 1 2 0 1",
      "swap 2 0 1 1");
    check.sentence("NOT: z does not KNOW it, or s does.");
    refused(STREET, NOT, "pay 0 2 2", "pay 0 1 0", "pay 1 2 2", "pay 2 1 3", "pay 0 1 3", "pay 2 0 2");
  }

  private static void full() {
    check.sentence("OUTSIDE, FULL (240).");
    refused(FULL_TEXT, FULL, "feed 0", "feed 32", "feed 99", "feed 120", "feed 255");
    check.sentence("FULL: MONTHS are above 9000.");
    refused(LATE, FULL, "month 1", "month 30", "drift 1", "drift 30");
    check.sentence("UNKNOWN, OUTSIDE, FULL (6).");
    refused(FILLED, FULL, "see 0 1 0", "see 5 6 0", "see 8 7 1", "see 0 7 0");
    check.sentence("UNKNOWN, OUTSIDE, FULL (20).");
    refused(FILLED, FULL, "write 0 0", "write 0 7", "write 8 0", "write 8 7");
  }

  private static void farBelow() {
    check.sentence("They are far below all that is counted: -1000000001 and on.");
    check.due("UNKNOWN", SootMaps.UNKNOWN, -1000000001);
    check.due("OUTSIDE", SootMaps.OUTSIDE, -1000000002);
    check.due("NOT", SootMaps.NOT, -1000000003);
    check.due("FULL", SootMaps.FULL, -1000000004);
    check.due("NONE", SootMaps.NONE, -1);
  }

  // ---- every call by every number at a bound

  private static final int[] HOUSES = {Check.MIN, -2, -1, 0, 1, 3, 4, 8, 9, Check.MAX};
  private static final int[] SWEEPS = {Check.MIN, -1, 0, 1, 2, 3, 4, 5, Check.MAX};
  private static final int[] NUMBERS = {Check.MIN, UNKNOWN, -2, -1, 0, 1, 2, 3, 4, 7, 8, 9, 11, 12, 30, 31, 100, 101, 255, 256, 511, 512,
    9001, Check.MAX};
  private static final int[] FEW = {Check.MIN, -2, -1, 0, 1, 2, 3, 4, 7, 8, Check.MAX};
  private static final int[] NOTHING = {0};

  private static void everyNumber() {
    check.sentence("Nothing is promised beyond the answers and state changes described above");
    String[] scenes = {"", "c1 2;", STREET_TEXT, NINE_TEXT};
    for (String text : scenes) {
      for (int which = 0; which < Calls.NAMES.size(); which++) everyNumberOf(text, which);
    }
  }

  private static int[][] argumentsOf(String name) {
    return switch (name) {
      case "house", "layer", "fire", "flues", "write" -> new int[][] {HOUSES, NUMBERS, NOTHING, NOTHING};
      case "swept" -> new int[][] {HOUSES, NOTHING, NOTHING, NOTHING};
      case "run" -> new int[][] {HOUSES, HOUSES, NOTHING, NOTHING};
      case "sweep" -> new int[][] {SWEEPS, NUMBERS, NOTHING, NOTHING};
      case "swap" -> new int[][] {SWEEPS, HOUSES, SWEEPS, HOUSES};
      case "pay" -> new int[][] {SWEEPS, SWEEPS, HOUSES, NOTHING};
      case "burned", "sure" -> new int[][] {HOUSES, FEW, NUMBERS, NOTHING};
      case "trade" -> new int[][] {SWEEPS, NUMBERS, HOUSES, NOTHING};
      case "brushes", "wet", "next" -> new int[][] {NUMBERS, NUMBERS, NOTHING, NOTHING};
      case "see" -> new int[][] {HOUSES, NUMBERS, {0, 1}, NOTHING};
      case "city", "fault", "rain", "judge", "tear" -> new int[][] {NOTHING, NOTHING, NOTHING, NOTHING};
      default -> new int[][] {NUMBERS, NOTHING, NOTHING, NOTHING};
    };
  }

  /** Each with objects of its own, and with the model beside it; what is refused is no change. */
  private static void everyNumberOf(String text, int which) {
    int[][] numbers = argumentsOf(Calls.NAMES.get(which));
    for (int a : numbers[0]) {
      for (int b : numbers[1]) {
        for (int c : numbers[2]) {
          for (int d : numbers[3]) oneCall(text, which, a, b, c, d);
        }
      }
    }
  }

  private static void oneCall(String text, int which, int a, int b, int c, int d) {
    SootMaps x = new SootMaps();
    SootModel model = new SootModel();
    for (char letter : text.toCharArray()) {
      x.feed(letter);
      model.feed(letter);
    }
    x.city();
    model.city();
    x.month(2);
    model.month(2);
    String before = Check.state(x);
    int got = Calls.ofMaps(x, which, a, b, c, d);
    String what = Calls.NAMES.get(which) + "(" + a + ", " + b + ", " + c + ", " + d + ") in '" + text + "'";
    check.due(what, got, Calls.ofModel(model, which, a, b, c, d));
    if (got <= UNKNOWN) check.due(what + ", then", Check.state(x), before);
  }
}
