import java.util.function.IntFunction;

/** The boundaries of part 1, THE CITY, and of promises 1 to 4: what a text may hold, and where its first fault is. */
public final class TextEdgesTest {
  private static final int NONE = Check.NONE, OUTSIDE = Check.OUTSIDE, NOT = Check.NOT, FULL = Check.FULL;
  private static final String NINE = "c1 1;h9 1;h9 1;h9 1;h9 1;h9 1;h9 1;h9 1;h9 1;h9 1;";
  private static final String FIVE = "c1 1;s0 1;s0 1;s0 1;s0 1;s0 1;";
  private static final Check check = new Check("TextEdgesTest");

  public static void main(String[] args) {
    newObject();
    textHas240();
    windAndRain();
    nineHouses();
    kinds();
    flueRunsInto();
    fiveSweeps();
    knows();
    price();
    figures();
    words();
    blanks();
    sideBySide();
    firstLetterThatHasOne();
    theEnd();
    theLeast();
    cannotStandThere();
    numberFaults();
    againTenthSixth();
    emptyText();
    feed();
    textIsEmptyThen();
    becomesTheCity();
    faultLeavesAll();
    letterOfTheFault();
    check.end();
  }

  private static void good(String text, int houses) {
    SootMaps x = new SootMaps();
    check.due("city() of '" + text + "'", Check.tell(x, text), houses);
    check.due("fault() of '" + text + "'", x.fault(), NONE);
  }

  private static void fault(String text, int number, int letter) {
    SootMaps x = new SootMaps();
    check.due("city() of '" + text + "'", Check.tell(x, text), -10 - number);
    check.due("fault() of '" + text + "'", x.fault(), letter);
  }

  private static void goodOrFault(String text, boolean isGood, int houses, int number, int letter) {
    if (isGood) good(text, houses);
    else fault(text, number, letter);
  }

  private static String housesOf(int n) {
    return "c0 0;" + "h9 0;".repeat(n);
  }

  private static void newObject() {
    check.sentence("`SootMaps()`: No CITY.");
    SootMaps x = new SootMaps();
    check.due("told(0)", x.told(0), 0);
    check.due("month", x.month(1), NOT);
    check.due("rain", x.rain(), NOT);
    check.due("house", x.house(0, 0), Check.UNKNOWN);
    check.due("all", Check.state(x), "fault -1, told 0 0 0 0 0 0 0 0 0 0 0 0");
  }

  private static void textHas240() {
    check.sentence("THE CITY is told in a text (240 letters at most), letter by letter");
    String full = "c0 0;" + Check.blanks(230) + "h9 1;";
    check.due("letters", full.length(), 240);
    good(full, 1);
    fault("c0 0;" + Check.blanks(231) + "h9 1", 1, 240);
    fault(Check.blanks(239) + "x", 1, 239);
    fault("c0 0;" + Check.blanks(231) + "0008", 1, 236);
    fault("c0 0;h9 " + "0".repeat(232), 2, 8);
    SootMaps x = new SootMaps();
    Check.feed(x, full);
    check.due("the 241st", x.feed('x'), FULL);
    check.due("is not of the text", x.city(), 1);
  }

  private static void windAndRain() {
    check.sentence("the WIND blows soot to the next HOUSE, 0 not, 1 up to the greater number, 2 down");
    for (int w = 0; w <= 999; w++) goodOrFault("c" + w + " 0;", w <= 2, 0, 2, 1);
    String[] flues = {"1 2 3", "1 12 23", "12 23 3"};
    for (int w = 0; w <= 2; w++) {
      SootMaps x = Check.of("c" + w + " 0;h9 1;h9 2;h9 3;");
      x.month(1);
      check.due("W", x.told(1), w);
      check.due("wind " + w, Check.flue(x, 0) + " " + Check.flue(x, 1) + " " + Check.flue(x, 2), flues[w]);
    }
    check.sentence("RAIN washes R layers off, 0 .. 4");
    for (int r = 0; r <= 999; r++) goodOrFault("c0 " + r + ";", r <= 4, 0, 2, 3);
    for (int r = 0; r <= 4; r++) {
      SootMaps x = Check.of("c0 " + r + ";h9 1;");
      x.month(8);
      check.due("R", x.told(2), r);
      check.due("washed", x.rain(), r);
    }
    check.sentence("first, once)");
    fault("h9 0;c0 0;", 1, 0);
    fault("s0 0;c0 0;", 1, 0);
    fault("c0 0;c0 0;", 3, 5);
    fault("c0 0;h9 0;s0 0;c", 3, 15);
  }

  private static void nineHouses() {
    check.sentence("'h' F P ';' (9 HOUSES at most, in a row");
    for (int n = 0; n <= 12; n++) goodOrFault(housesOf(n), n <= 9, n, 3, 50);
    SootMaps x = Check.of(housesOf(9));
    check.due("the ninth", x.house(8, 0), 0);
    check.due("a tenth", x.house(9, 0), Check.UNKNOWN);
  }

  private static void kinds() {
    check.sentence("burns P 0 .. 7 each month: 0 nothing, 1 peat, 2 paper, 3 sugar, 4 tar, 5 coal, 6 cinnamon, 7 wood");
    for (int p = 0; p <= 999; p++) goodOrFault("c0 0;h9 " + p + ";", p <= 7, 1, 2, 8);
    for (int p = 0; p <= 7; p++) {
      SootMaps x = Check.of("c0 0;h9 " + p + ";");
      check.due("burns", x.house(0, 0), p);
      x.month(2);
      check.due("each month", Check.flue(x, 0), p == 0 ? "" : "" + p + p);
    }
  }

  private static void flueRunsInto() {
    check.sentence("its FLUE runs into that of HOUSE F told ahead, or 9: none");
    for (int n = 0; n <= 8; n++) {
      String ahead = housesOf(n);
      for (int f = 0; f <= 999; f++) goodOrFault(ahead + "h" + f + " 0;", f < n || f == 9, n + 1, 2, ahead.length() + 1);
      for (int f = 0; f < n; f++) check.due("runs into", Check.of(ahead + "h" + f + " 0;").house(n, 1), f);
      check.due("runs into none", Check.of(ahead + "h9 0;").house(n, 1), NONE);
    }
  }

  private static void fiveSweeps() {
    check.sentence("5 SWEEPS at most");
    for (int n = 0; n <= 8; n++) {
      String text = "c0 0;" + "s0 0;".repeat(n);
      goodOrFault(text, n <= 5, 0, 3, 30);
      if (n <= 5) check.due("sweeps", Check.of(text).told(4), n);
    }
    SootMaps x = Check.of(FIVE);
    check.due("the fifth", x.sweep(4, 1), 1);
    check.due("a sixth", x.sweep(5, 1), Check.UNKNOWN);
  }

  private static void knows() {
    check.sentence("KNOWS maps of HOUSES K 0 .. 511, a SET of those told ahead");
    for (int n = 0; n <= 9; n++) {
      String ahead = housesOf(n);
      for (int k = 0; k <= 999; k++) {
        goodOrFault(ahead + "s" + k + " 0;", k <= 511 && k < 1 << n, n, 2, ahead.length() + 1);
      }
      int all = (1 << n) - 1;
      check.due("all of " + n, Check.of(ahead + "s" + all + " 0;").sweep(0, 0), all);
    }
    fault("c0 0;s1 0;h9 0;", 2, 6);
    fault("c0 0;h9 0;s2 0;h9 0;", 2, 11);
    good("c0 0;h9 0;s1 0;h9 0;s3 0;", 2);
  }

  private static void price() {
    check.sentence("his PRICE is V a map, 0 .. 99");
    for (int v = 0; v <= 999; v++) goodOrFault("c0 0;s0 " + v + ";", v <= 99, 0, 2, 8);
    check.due("the least", Check.of("c0 0;s0 0;").sweep(0, 1), 0);
    check.due("the greatest", Check.of("c0 0;s0 99;").sweep(0, 1), 99);
  }

  private static void figures() {
    check.sentence("NUMBERS have one to three figures");
    good("c1 1;", 0);
    good("c01 01;", 0);
    good("c001 001;h009 007;s001 099;", 1);
    good("c000 004;h9 000;", 1);
    fault("c0001 1;", 2, 1);
    fault("c1 0000;", 2, 3);
    fault("c0 0;h0009 0;", 2, 6);
    fault("c0 0;h9 0000;", 2, 8);
    fault("c0 0;s0000 0;", 2, 6);
    fault("c0 0;s0 0000;", 2, 8);
    fault("c ;", 1, 2);
    fault("c1 ;", 1, 3);
    fault("c0 0;h ;", 1, 7);
    fault("c0 0;s0 ;", 1, 8);
  }

  private static void words() {
    check.sentence("a word is one letter");
    fault("cc0 0;", 1, 1);
    fault("ci0 0;", 1, 1);
    fault("c0 0;hh9 0;", 1, 6);
    fault("c0 0;so0 0;", 1, 6);
    fault("c0 0;;", 1, 5);
    fault("C0 0;", 1, 0);
    fault("c0 0;H9 0;", 1, 5);
    fault("c0 0;S0 0;", 1, 5);
    fault("c0 0:", 1, 4);
  }

  private static void blanks() {
    check.sentence("blanks (32) may stand anywhere but within NUMBERS");
    String text = "c1 2;h9 1;h0 2;s3 45;";
    int within = text.indexOf("5;");
    for (int at = 0; at <= text.length(); at++) {
      for (int n = 1; n <= 3; n++) {
        String wider = text.substring(0, at) + Check.blanks(n) + text.substring(at);
        goodOrFault(wider, at != within, 2, 1, within + n);
      }
    }
    for (int v = 0; v <= 255; v++) {
      String other = "c1 2;" + (char) v;
      if (v != ' ' && v != 'c' && v != 'h' && v != 's') fault(other, 1, 5);
      if (v != ' ' && (v < '0' || v > '9')) fault("c1" + (char) v + "2;", 1, 2);
    }
    SootMaps x = Check.of(" c 1  2 ; h 9 3;s  1   45 ; ");
    check.due("all", Check.state(x), "fault -1, told 1 1 2 1 1 0 0 0 0 0 0 0, house 3 -1 , sweep 1 45 100000");
  }

  private static void sideBySide() {
    check.sentence("two NUMBERS side by side need one");
    fault("c12;", 2, 1);
    fault("c01;", 1, 3);
    fault("c0 0;h90;", 2, 6);
    fault("c0 0;h09;", 1, 8);
    fault("c0 0;s00;", 1, 8);
    good("c0 1;h9 0;s0 0;", 1);
  }

  private static void firstLetterThatHasOne() {
    check.sentence("FAULTS, at the first letter that has one");
    fault("c3 5;", 2, 1);
    fault("c3 x", 2, 1);
    fault("cx 5;", 1, 1);
    fault("c0 5x", 2, 3);
    fault("c0 0;h8 8;", 2, 6);
    fault("c0 0;h9 8;c", 2, 8);
    fault("c0 0;c9 9;", 3, 5);
    fault("c0 0;s9 100;", 2, 6);
    fault("c0 0;s0 100;h9 9;", 2, 8);
    fault("c9999x", 2, 1);
    fault("xc9", 1, 0);
    fault(NINE + "h99 99;", 3, 50);
    fault(FIVE + "s999 999;", 3, 30);
  }

  private static void theEnd() {
    check.sentence("(the end at the text's length)");
    String text = "c1 2;h9 1;s1 45;";
    for (int length = 1; length <= text.length(); length++) {
      boolean isWhole = length == 5 || length == 10 || length == 16;
      goodOrFault(text.substring(0, length), isWhole, length == 5 ? 0 : 1, 1, length);
      goodOrFault(text.substring(0, length) + "  ", isWhole, length == 5 ? 0 : 1, 1, length + 2);
    }
  }

  private static void theLeast() {
    check.sentence("of these the least");
    fault("c1 1c", 1, 4);
    fault("c1 c", 1, 3);
    fault("c1 1;h9 c", 1, 8);
    fault(NINE + "s0 h", 1, 53);
    fault(FIVE + "h9 s", 1, 33);
    fault("c1 1;9999", 1, 5);
    fault("c1 1 9999;", 1, 5);
    fault("999", 1, 0);
  }

  /** Each of the 256 letters in each place of the grammar. */
  private static void cannotStandThere() {
    check.sentence("1 it cannot stand there (a letter that is no word, another word first than 'c').");
    everyLetter("", v -> v == 'c' ? at(1, 1) : v == ' ' ? fine(0) : at(1, 0));
    everyLetter("c", v -> v >= '0' && v <= '2' || v == ' ' ? at(1, 2) : isFigure(v) ? at(2, 1) : at(1, 1));
    everyLetter("c1", v -> isFigure(v) ? at(2, 1) : v == ' ' ? at(1, 3) : at(1, 2));
    everyLetter("c1 ", v -> v >= '0' && v <= '4' || v == ' ' ? at(1, 4) : isFigure(v) ? at(2, 3) : at(1, 3));
    everyLetter("c1 1", v -> v == ';' ? fine(0) : isFigure(v) ? at(2, 3) : v == ' ' ? at(1, 5) : at(1, 4));
    everyLetter("c1 1 ", v -> v == ';' ? fine(0) : v == ' ' ? at(1, 6) : at(1, 5));
    everyLetter("c1 1;", v -> v == ' ' ? fine(0) : v == 'c' ? at(3, 5) : v == 'h' || v == 's' ? at(1, 6) : at(1, 5));
    everyLetter("c1 1;h", v -> v == '9' || v == ' ' ? at(1, 7) : isFigure(v) ? at(2, 6) : at(1, 6));
    everyLetter("c1 1;h9", v -> isFigure(v) ? at(2, 6) : v == ' ' ? at(1, 8) : at(1, 7));
    everyLetter("c1 1;h9 ", v -> v >= '0' && v <= '7' || v == ' ' ? at(1, 9) : isFigure(v) ? at(2, 8) : at(1, 8));
    everyLetter("c1 1;h9 1", v -> v == ';' ? fine(1) : isFigure(v) ? at(2, 8) : v == ' ' ? at(1, 10) : at(1, 9));
    everyLetter("c1 1;s", v -> v == '0' || v == ' ' ? at(1, 7) : isFigure(v) ? at(2, 6) : at(1, 6));
    everyLetter("c1 1;s0", v -> v == '0' || v == ' ' ? at(1, 8) : isFigure(v) ? at(2, 6) : at(1, 7));
    everyLetter("c1 1;s0 ", v -> isFigure(v) || v == ' ' ? at(1, 9) : at(1, 8));
    everyLetter("c1 1;s0 9", v -> v == ';' ? fine(0) : isFigure(v) || v == ' ' ? at(1, 10) : at(1, 9));
    everyLetter("c1 1;s0 99", v -> v == ';' ? fine(0) : isFigure(v) ? at(2, 8) : v == ' ' ? at(1, 11) : at(1, 10));
    everyLetter("c1 1;s0 099", v -> v == ';' ? fine(0) : isFigure(v) ? at(2, 8) : v == ' ' ? at(1, 12) : at(1, 11));
    everyLetter(NINE, v -> v == ' ' ? fine(9) : v == 'c' || v == 'h' ? at(3, 50) : v == 's' ? at(1, 51) : at(1, 50));
    everyLetter(FIVE, v -> v == ' ' ? fine(0) : v == 'c' || v == 's' ? at(3, 30) : v == 'h' ? at(1, 31) : at(1, 30));
  }

  private static boolean isFigure(int v) {
    return v >= '0' && v <= '9';
  }

  private static int[] at(int number, int letter) {
    return new int[] {number, letter};
  }

  private static int[] fine(int houses) {
    return new int[] {0, houses};
  }

  private static void everyLetter(String ahead, IntFunction<int[]> due) {
    for (int v = 0; v <= 255; v++) {
      int[] d = due.apply(v);
      goodOrFault(ahead + (char) v, d[0] == 0, d[1], d[0], d[1]);
    }
  }

  private static void numberFaults() {
    check.sentence("2 a NUMBER of four figures or more, or out of its bounds");
    fault("c  0000 0;", 2, 3);
    fault("c0   00000000;", 2, 5);
    fault("c4294967297 0;", 2, 1);
    fault("c  3 0;", 2, 3);
    fault("c0   5;", 2, 5);
    fault("c0 0;h  10 0;", 2, 8);
    fault("c0 0;h9  8;", 2, 9);
    fault("c0 0;s0  100;", 2, 9);
    check.sentence("an F that is neither told nor 9");
    fault("c0 0;h0 0;", 2, 6);
    fault("c0 0;h  8 0;", 2, 8);
    fault("c0 0;h9 0;h  1 0;", 2, 13);
    good("c0 0;h9 0;h  0 0;", 2);
    check.sentence("a K with HOUSES that were not told (at its first)");
    fault("c0 0;s  1 0;", 2, 8);
    fault("c0 0;h9 0;s  511 0;", 2, 13);
    fault("c0 0;h9 0;s 2 0;h9 0;", 2, 12);
    good("c0 0;h9 0;s  1 0;", 1);
  }

  private static void againTenthSixth() {
    check.sentence("3 'c' again, a tenth 'h', a sixth 's' (at it).");
    fault("c0 0;c", 3, 5);
    fault("c0 0;  c0 0;", 3, 7);
    good(NINE, 9);
    fault(NINE + "h", 3, 50);
    fault(NINE + "  h9 0;", 3, 52);
    fault(NINE + "s0 1;h9 0;", 3, 55);
    good(FIVE, 0);
    fault(FIVE + "s", 3, 30);
    fault(FIVE + "   s0 0;", 3, 33);
    fault(FIVE + "h9 1;s0 0;", 3, 35);
  }

  private static void emptyText() {
    check.sentence("An empty text: no CITY.");
    SootMaps x = new SootMaps();
    check.due("on a new object", x.city(), 0);
    check.due("no fault", x.fault(), NONE);
    check.due("no city", x.told(0), 0);
    x = Check.of("c2 4;h9 1;s1 9;");
    x.month(3);
    x.keep(0);
    x.rain();
    x.see(0, 1, true);
    x.write(0, 1);
    check.due("behind a city", x.city(), 0);
    check.due("all is gone", Check.state(x), "fault -1, told 0 0 0 0 0 0 0 0 0 0 0 0");
    check.due("month", x.month(1), NOT);
    check.due("house", x.house(0, 0), Check.UNKNOWN);
    check.due("undo", x.undo(1), NOT);
    check.due("image", x.goBack(0), NOT);
    Check.tell(x, "x");
    check.due("then the empty one again", x.city(), 0);
    check.due("no fault any more", x.fault(), NONE);
  }

  private static void feed() {
    check.sentence("A letter (0 .. 255) comes behind THE TEXT: how many it has. OUTSIDE, FULL (240).");
    SootMaps x = new SootMaps();
    for (int v : new int[] {Check.MIN, -1, 256, 257, 65536 + 'c', Check.MAX}) {
      check.due("feed(" + v + ")", x.feed(v), OUTSIDE);
      check.due("letters", x.told(5), 0);
    }
    for (int n = 1; n <= 240; n++) check.due("letter " + n, x.feed(n == 1 ? 0 : n == 2 ? 255 : n), n);
    for (int v : new int[] {0, 32, 'c', 255}) check.due("full for " + v, x.feed(v), FULL);
    for (int v : new int[] {-1, 256}) check.due("outside ahead of full", x.feed(v), OUTSIDE);
    check.due("letters", x.told(5), 240);
  }

  private static void textIsEmptyThen() {
    check.sentence("THE TEXT (it is empty then, with a FAULT, too)");
    SootMaps x = new SootMaps();
    Check.tell(x, "c0 0;h9 1;");
    check.due("letters behind a city", x.told(5), 0);
    check.due("nothing of it is read again", Check.tell(x, "c1 1;"), 0);
    Check.tell(x, "c0 0;h9 9;");
    check.due("letters behind a fault", x.told(5), 0);
    check.due("the first letter", x.feed('c'), 1);
    check.due("the rest", Check.tell(x, "0 0;"), 0);
    Check.feed(x, Check.blanks(240));
    x.city();
    check.due("letters behind a full text", x.told(5), 0);
    check.due("and on", x.feed('c'), 1);
  }

  private static void becomesTheCity() {
    check.sentence("(no LAYERS, MONTHS, nothing PAID; nothing SEEN, no BOOK; IMAGES, what could be undone are gone; "
      + "THE SEED stays): how many HOUSES");
    for (int n = 0; n <= 9; n++) check.due("houses", Check.tell(new SootMaps(), housesOf(n)), n);
    String street = "c1 2;h9 1;h0 2;s1 5;s2 7;";
    SootMaps x = Check.of(street);
    String fresh = Check.state(x);
    x.seed(77);
    x.fire(0, 3);
    x.run(1, NONE);
    x.month(4);
    x.pay(0, 1, 1);
    x.swap(1, 1, 0, 0);
    x.see(0, 1, true);
    x.write(0, 1);
    x.keep(0);
    x.keep(1);
    x.rain();
    check.due("told again", Check.tell(x, street), 2);
    check.due("as a new one", Check.state(x), fresh);
    check.due("nothing is seen", x.next(1, 0), 3);
    check.due("no book", x.judge(), NONE);
    check.due("nothing can be undone", x.undo(1), NOT);
    check.due("image 0", x.goBack(0), NOT);
    check.due("image 1", x.goBack(1), NOT);
    check.due("the seed", x.seed(0), 77);
    check.due("a smaller one", Check.tell(x, "c0 0;h9 4;"), 1);
    check.due("has nothing of the greater", Check.state(x), "fault -1, told 1 0 0 1 0 0 0 0 0 0 0 0, house 4 -1 ");
  }

  private static void faultLeavesAll() {
    check.sentence("-10 less the number of its FAULT (all is as it was)");
    for (String text : new String[] {"x", "c2 4;h9 7;s1 1;h9 8;", "c2 4;h9 7;c"}) {
      String[] ahead = ("month 3|keep 0|seed 9|rain|fire 0 5|pay 0 1 1|run 1 -1|see 0 2 1|see 1 2 0|write 0 2|write 1 0|seed 6")
        .split("\\|");
      Twins twins = new Twins(check, "c1 2;h9 1;h0 2;s1 5;s2 7;", ahead);
      int number = text.equals("x") ? 1 : text.endsWith("c") ? 3 : 2;
      twins.unchangedButFault("city() of '" + text + "'", x -> Check.tell(x, text), -10 - number);
    }
  }

  private static void letterOfTheFault() {
    check.sentence("The letter of the FAULT of the latest city(); NONE.");
    SootMaps x = new SootMaps();
    check.due("no city() yet", x.fault(), NONE);
    Check.tell(x, "c0 0;h9 9;");
    check.due("the letter", x.fault(), 8);
    Check.feed(x, "c0");
    check.due("fed, not told: the latest city()'s", x.fault(), 8);
    x.city();
    check.due("the end", x.fault(), 2);
    Check.tell(x, "x");
    check.due("the first letter is 0", x.fault(), 0);
    Check.tell(x, "c0 0;");
    check.due("none", x.fault(), NONE);
    Check.feed(x, "c0 0;" + Check.blanks(234) + "x");
    x.city();
    check.due("the last letter", x.fault(), 239);
  }
}
