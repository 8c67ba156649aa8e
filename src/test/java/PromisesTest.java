/** The promises of the document one by one: ordinary inputs, the edges that it names, and wrong inputs. */
public final class PromisesTest {
  private static final int NONE = -1, UNKNOWN = -1000000001, OUTSIDE = -1000000002, NOT = -1000000003, FULL = -1000000004;
  private static final int MAX = Integer.MAX_VALUE, MIN = Integer.MIN_VALUE;

  /** Three houses in a row that run together, one that stands alone; three sweeps; the wind blows up. */
  private static final String STREET = "c1 2;h9 1;h0 2;h1 3;h9 4;s3 5;s6 7;s8 9;";

  private static int checks = 0;
  private static int wrong = 0;

  public static void main(String[] args) {
    newObject();
    feed();
    city();
    faultsOfWords();
    faultsOfNumbers();
    faultsOfCounts();
    told();
    house();
    layer();
    sweep();
    month();
    monthsAreCounted();
    fire();
    rain();
    swept();
    run();
    swap();
    pay();
    drift();
    undo();
    burned();
    sure();
    flues();
    trade();
    ring();
    brushes();
    wet();
    see();
    next();
    write();
    judge();
    tear();
    seed();
    keep();
    goBack();
    System.out.println("PromisesTest: " + checks + " checks, " + wrong + " wrong");
    if (wrong != 0) System.exit(1);
  }

  private static void due(int promise, String what, int got, int want) {
    checks++;
    if (got != want) {
      wrong++;
      System.out.println("promise " + promise + ", " + what + ": answered " + got + ", due is " + want);
    }
  }

  private static int tell(SootMaps x, String text) {
    for (char letter : text.toCharArray()) x.feed(letter);
    return x.city();
  }

  private static SootMaps of(String text) {
    SootMaps x = new SootMaps();
    tell(x, text);
    return x;
  }

  /** A flue from the oldest layer on, as figures: 112 is two of peat below one of paper. */
  private static int flue(SootMaps x, int h) {
    int all = 0;
    for (int l = 0; l < x.house(h, 2); l++) all = all * 10 + x.layer(h, l);
    return all;
  }

  private static void fault(String text, int number, int letter) {
    SootMaps x = of(STREET);
    due(3, "city() of '" + text + "'", tell(x, text), -10 - number);
    due(4, "fault() of '" + text + "'", x.fault(), letter);
    due(3, "houses are as they were after '" + text + "'", x.told(3), 4);
    due(3, "the text is empty after '" + text + "'", x.told(5), 0);
  }

  private static void newObject() {
    SootMaps x = new SootMaps();
    for (int what = 0; what <= 11; what++) due(1, "told(" + what + ")", x.told(what), 0);
    due(1, "fault", x.fault(), NONE);
    due(1, "house", x.house(0, 0), UNKNOWN);
    due(1, "sweep", x.sweep(0, 0), UNKNOWN);
    due(1, "month", x.month(1), NOT);
    due(1, "seed", x.seed(1), 0);
    due(1, "goBack", x.goBack(0), NOT);
    due(1, "NONE", SootMaps.NONE, NONE);
    due(1, "UNKNOWN", SootMaps.UNKNOWN, UNKNOWN);
    due(1, "OUTSIDE", SootMaps.OUTSIDE, OUTSIDE);
    due(1, "NOT", SootMaps.NOT, NOT);
    due(1, "FULL", SootMaps.FULL, FULL);
  }

  private static void feed() {
    SootMaps x = new SootMaps();
    due(2, "below", x.feed(-1), OUTSIDE);
    due(2, "above", x.feed(256), OUTSIDE);
    due(2, "least letter", x.feed(0), 1);
    due(2, "greatest letter", x.feed(255), 2);
    for (int i = 3; i <= 240; i++) due(2, "letter " + i, x.feed(' '), i);
    due(2, "full", x.feed(' '), FULL);
    due(2, "outside goes ahead of full", x.feed(256), OUTSIDE);
    due(2, "letters", x.told(5), 240);
    due(2, "a letter 0 is no word", x.city(), -11);
    due(2, "and the text is empty", x.feed('c'), 1);
  }

  private static void city() {
    SootMaps x = of(STREET);
    due(3, "houses", x.told(3), 4);
    due(3, "told again", tell(x, "  c 0  4 ; h 9 7 ;s1 99 ; h 009 000;  "), 2);
    due(3, "no fault", x.fault(), NONE);
    due(3, "wind", x.told(1), 0);
    due(3, "rain", x.told(2), 4);
    due(3, "three figures", x.house(1, 1), NONE);
    due(3, "a city without houses", tell(x, "c2 1;"), 0);
    due(3, "is one", x.told(0), 1);
    due(3, "an empty text", x.city(), 0);
    due(3, "no city", x.told(0), 0);
    due(3, "no wind", x.told(1), 0);
    due(3, "blanks alone", tell(of(STREET), "   "), 0);

    x = of(STREET);
    x.month(2);
    x.pay(0, 1, 2);
    x.see(0, 1, true);
    x.write(0, 1);
    x.seed(77);
    x.keep(0);
    x.keep(1);
    x.rain();
    due(3, "a fault", tell(x, "x"), -11);
    due(3, "leaves months", x.told(6), 2);
    due(3, "leaves what can be undone", x.told(11), 1);
    due(3, "leaves images", x.goBack(1), 1);
    due(3, "leaves what was seen", x.told(9), 1);
    x.rain();
    due(3, "a new city", tell(x, STREET), 4);
    for (int what = 5; what <= 11; what++) due(3, "a new city's told(" + what + ")", x.told(what), 0);
    due(3, "purses are as at first", x.sweep(0, 2), 100000);
    due(3, "image 0 is gone", x.goBack(0), NOT);
    due(3, "image 1 is gone", x.goBack(1), NOT);
    due(3, "the seed stays", x.seed(0), 77);
    due(4, "fault is gone", x.fault(), NONE);
    tell(x, "c0 0;h9 9;");
    due(4, "letter of the fault", x.fault(), 8);
    due(4, "it stays", x.fault(), 8);
  }

  private static void faultsOfWords() {
    fault("x", 1, 0);
    fault("h9 0;", 1, 0);
    fault("s0 0;", 1, 0);
    fault(";", 1, 0);
    fault("  1", 1, 2);
    fault("c", 1, 1);
    fault("c  ", 1, 3);
    fault("c1", 1, 2);
    fault("c1;", 1, 2);
    fault("c1 1", 1, 4);
    fault("c1 1 ", 1, 5);
    fault("c1 1 1;", 1, 5);
    fault("c1 1h", 1, 4);
    fault("c1 c", 1, 3);
    fault("cc", 1, 1);
    fault("c1 1;;", 1, 5);
    fault("c1 1;C", 1, 5);
    fault("c1\t1;", 1, 2);
    fault("c1 1;h;", 1, 6);
    fault("c1 1;h9 0;s0;", 1, 12);
    fault("c1 1;7", 1, 5);
    fault("c" + (char) 178 + " 1;", 1, 1);
  }

  private static void faultsOfNumbers() {
    fault("c3 0;", 2, 1);
    fault("c11;", 2, 1);
    fault("c0 5;", 2, 3);
    fault("c 0000 0;", 2, 2);
    fault("c99999999999 x", 2, 1);
    fault("c0 0000", 2, 3);
    fault("c0 0;h8 0;", 2, 6);
    fault("c0 0;h0 0;", 2, 6);
    fault("c0 0;h10 0;", 2, 6);
    fault("c0 0;h9 8;", 2, 8);
    fault("c0 0;h9 1;h1 0;", 2, 11);
    fault("c0 0;h 9 1;s  2 0;", 2, 14);
    fault("c0 0;s1 0;h9 0;", 2, 6);
    fault("c0 0;s512 0;", 2, 6);
    fault("c0 0;s0 100;", 2, 8);
    fault("c0 0;h9 0;s4 100;", 2, 11);
    SootMaps x = new SootMaps();
    due(3, "the greatest numbers", tell(x, "c2 4;h9 7;h0 7;h1 7;h2 7;h3 7;h4 7;h5 7;h6 7;h7 7;s511 99;"), 9);
    due(3, "a set of all", x.sweep(0, 0), 511);
    due(3, "a chain", x.house(8, 1), 7);
  }

  private static void faultsOfCounts() {
    fault("c1 1;c1 1;", 3, 5);
    fault("c1 1; c", 3, 6);
    String nine = "c1 1;h9 1;h9 1;h9 1;h9 1;h9 1;h9 1;h9 1;h9 1;h9 1;";
    due(3, "nine houses", tell(new SootMaps(), nine), 9);
    fault(nine + "h9 1;", 3, 50);
    fault(nine + "h", 3, 50);
    String five = "c1 1;s0 1;s0 1;s0 1;s0 1;s0 1;";
    SootMaps x = new SootMaps();
    due(3, "five sweeps", tell(x, five), 0);
    due(3, "are told", x.told(4), 5);
    fault(five + "s0 1;", 3, 30);
    fault(five + " s", 3, 31);
  }

  private static void told() {
    SootMaps x = of(STREET);
    x.feed('c');
    x.month(1);
    x.pay(0, 1, 2);
    x.see(0, 1, true);
    x.write(0, 1);
    x.write(1, 1);
    // house 0: own, wind 1; house 1: own, 0, wind 2; house 2: own, 1, 0, wind 3; house 3: own
    int[] all = {1, 1, 2, 4, 3, 1, 1, 10, 7, 1, 2, 2};
    for (int what = 0; what <= 11; what++) due(5, "told(" + what + ")", x.told(what), all[what]);
    due(5, "below", x.told(-1), OUTSIDE);
    due(5, "above", x.told(12), OUTSIDE);
  }

  private static void house() {
    SootMaps x = of(STREET);
    due(6, "burns", x.house(3, 0), 4);
    due(6, "runs into", x.house(2, 1), 1);
    due(6, "runs into none", x.house(3, 1), NONE);
    due(6, "no layers", x.house(0, 2), 0);
    due(6, "no newest", x.house(0, 3), 0);
    x.month(1);
    due(6, "layers", x.house(1, 2), 3);
    due(6, "newest", x.house(1, 3), 3);
    due(6, "what below", x.house(0, -1), OUTSIDE);
    due(6, "what above", x.house(0, 4), OUTSIDE);
    due(6, "house below", x.house(-1, 0), UNKNOWN);
    due(6, "house above, ahead of outside", x.house(4, 4), UNKNOWN);
  }

  private static void layer() {
    SootMaps x = of("c0 1;h9 1;");
    x.month(1);
    x.fire(0, 2);
    x.month(7);
    due(7, "the oldest", x.layer(0, 0), 1);
    due(7, "the newest", x.layer(0, 7), 2);
    x.fire(0, 3);
    x.month(1);
    due(7, "the oldest went", x.layer(0, 0), 2);
    due(7, "the newest came", x.layer(0, 7), 3);
    x.rain();
    due(7, "none there", x.layer(0, 7), 0);
    due(7, "the last left", x.layer(0, 6), 2);
    due(7, "below", x.layer(0, -1), OUTSIDE);
    due(7, "above", x.layer(0, 8), OUTSIDE);
    due(7, "no such house, ahead of outside", x.layer(1, 8), UNKNOWN);
  }

  private static void sweep() {
    SootMaps x = of(STREET);
    due(8, "knows", x.sweep(1, 0), 6);
    due(8, "price", x.sweep(1, 1), 7);
    due(8, "purse", x.sweep(1, 2), 100000);
    x.pay(0, 1, 2);
    due(8, "was paid", x.sweep(1, 2), 100007);
    due(8, "paid", x.sweep(0, 2), 99993);
    due(8, "what below", x.sweep(0, -1), OUTSIDE);
    due(8, "what above", x.sweep(0, 3), OUTSIDE);
    due(8, "sweep below", x.sweep(-1, 0), UNKNOWN);
    due(8, "sweep above, ahead of outside", x.sweep(3, 3), UNKNOWN);
  }

  private static void month() {
    SootMaps x = of(STREET);
    due(9, "layers of all", x.month(1), 10);
    due(9, "flue 0", flue(x, 0), 123);
    due(9, "flue 1, the wind ahead of its own", flue(x, 1), 123);
    due(9, "flue 2", flue(x, 2), 23);
    due(9, "flue 3", flue(x, 3), 34);
    due(9, "two more", x.month(2), 8 + 8 + 6 + 6);
    due(9, "the oldest goes", flue(x, 0), 23123123);
    x = of("c2 2;h9 1;h0 2;h1 0;h9 4;");
    x.month(1);
    due(9, "the wind blows down, behind where it runs", flue(x, 0), 122);
    due(9, "by the wind no further", flue(x, 1), 2);
    due(9, "from the next one", flue(x, 2), 4);
    due(9, "who burns nothing lays nothing", flue(x, 3), 4);
    x = of("c0 2;h9 1;h9 2;");
    due(9, "no wind", x.month(1), 2);
    due(9, "0", x.month(0), OUTSIDE);
    due(9, "31", x.month(31), OUTSIDE);
    due(9, "least", x.month(MIN), OUTSIDE);
    due(9, "30", x.month(30), 16);
    due(9, "no city", new SootMaps().month(1), NOT);
    due(9, "outside ahead of no city", new SootMaps().month(31), OUTSIDE);
  }

  private static void monthsAreCounted() {
    SootMaps x = of("c0 0;h9 1;");
    for (int i = 0; i < 300; i++) x.month(30);
    due(9, "nine thousand", x.told(6), 9000);
    due(9, "is not above", x.month(30), 8);
    due(9, "full", x.month(1), FULL);
    due(16, "full", x.drift(1), FULL);
    due(9, "outside ahead of full", x.month(31), OUTSIDE);
    due(9, "refused: as it was", x.told(6), 9030);
    due(16, "no draw", x.seed(0), 0);
    x.undo(29);
    due(9, "still above", x.month(1), FULL);
    due(17, "the thirtieth back", x.undo(1), 9000);
    due(16, "not full any more", x.drift(1), 8);
  }

  private static void fire() {
    SootMaps x = of(STREET);
    due(10, "what it burned", x.fire(0, 7), 1);
    due(10, "and then", x.fire(0, 0), 7);
    due(10, "the same again is a deed too", x.fire(0, 0), 0);
    due(10, "deeds", x.told(11), 3);
    due(10, "burns", x.house(0, 0), 0);
    due(10, "below", x.fire(0, -1), OUTSIDE);
    due(10, "above", x.fire(0, 8), OUTSIDE);
    due(10, "no such house, ahead of outside", x.fire(4, 8), UNKNOWN);
    due(10, "refused is no deed", x.told(11), 3);
  }

  private static void rain() {
    SootMaps x = of(STREET);
    x.month(1);
    due(11, "layers that went", x.rain(), 8);
    due(11, "the oldest is left", flue(x, 0), 1);
    due(11, "nothing left", flue(x, 3), 0);
    due(11, "no more than there are", x.rain(), 2);
    due(11, "none", x.rain(), 0);
    due(11, "a deed all the same", x.told(11), 4);
    due(11, "no city", new SootMaps().rain(), NOT);
    x = of("c0 0;h9 1;");
    x.month(3);
    due(11, "R is 0", x.rain(), 0);
  }

  private static void swept() {
    SootMaps x = of(STREET);
    x.month(1);
    due(12, "layers that went", x.swept(1), 3);
    due(12, "it is empty", flue(x, 1), 0);
    due(12, "others are not", flue(x, 0), 123);
    due(12, "again", x.swept(1), 0);
    due(12, "deeds", x.told(11), 3);
    due(12, "below", x.swept(-1), UNKNOWN);
    due(12, "above", x.swept(4), UNKNOWN);
  }

  private static void run() {
    SootMaps x = of(STREET);
    due(13, "into which it ran", x.run(2, 0), 1);
    due(13, "then", x.run(2, NONE), 0);
    due(13, "then none", x.run(3, 2), NONE);
    due(13, "runs", x.house(3, 1), 2);
    x.month(1);
    due(13, "laid where it runs now", flue(x, 2), 234);
    due(13, "not where it ran", flue(x, 0), 12);
    due(13, "into itself", x.run(2, 2), UNKNOWN);
    due(13, "into a greater one", x.run(2, 3), UNKNOWN);
    due(13, "into 9", x.run(2, 9), UNKNOWN);
    due(13, "below none", x.run(2, -2), UNKNOWN);
    due(13, "no such house", x.run(4, 0), UNKNOWN);
    due(13, "no such house", x.run(-1, NONE), UNKNOWN);
    due(13, "the first into none", x.run(0, NONE), NONE);
    due(13, "the first into itself", x.run(0, 0), UNKNOWN);
    due(13, "deeds", x.told(11), 5);
  }

  private static void swap() {
    SootMaps x = of(STREET);
    due(14, "he does not know what he gives", x.swap(0, 2, 2, 3), NOT);
    due(14, "the other one does not know it", x.swap(0, 0, 1, 3), NOT);
    due(14, "the other one knows it already", x.swap(0, 1, 1, 2), NOT);
    due(14, "he knows it already", x.swap(0, 0, 1, 1), NOT);
    due(14, "what he knows then", x.swap(0, 0, 1, 2), 7);
    due(14, "what the other one knows then", x.sweep(1, 0), 7);
    due(14, "one sweep twice", x.swap(0, 0, 0, 1), UNKNOWN);
    due(14, "one house twice", x.swap(0, 0, 2, 0), UNKNOWN);
    due(14, "no such sweep", x.swap(3, 0, 2, 3), UNKNOWN);
    due(14, "no such sweep", x.swap(0, 0, -1, 3), UNKNOWN);
    due(14, "no such house", x.swap(0, 4, 2, 3), UNKNOWN);
    due(14, "no such house", x.swap(0, 0, 2, -1), UNKNOWN);
    due(14, "nothing is paid", x.told(8), 0);
    due(14, "deeds", x.told(11), 1);
  }

  private static void pay() {
    SootMaps x = of(STREET);
    due(15, "the price of who gives", x.pay(0, 1, 2), 7);
    due(15, "known then", x.sweep(0, 0), 7);
    due(15, "known on", x.sweep(1, 0), 6);
    due(15, "known already", x.pay(0, 1, 2), NOT);
    due(15, "not known", x.pay(0, 1, 3), NOT);
    due(15, "the next", x.pay(1, 2, 3), 9);
    due(15, "together", x.told(8), 16);
    due(15, "less what he paid", x.sweep(1, 2), 99998);
    due(15, "to himself", x.pay(1, 1, 3), UNKNOWN);
    due(15, "no such sweep", x.pay(3, 1, 3), UNKNOWN);
    due(15, "no such sweep", x.pay(0, 3, 3), UNKNOWN);
    due(15, "no such house", x.pay(0, 1, 4), UNKNOWN);
    due(15, "deeds", x.told(11), 2);
  }

  private static void drift() {
    SootMaps x = of("c0 1;");
    due(16, "no houses", x.drift(2), 0);
    // 12345, then (12345 * 1103515245 + 12345) left over by 2 to the 31
    due(16, "one draw a month", x.seed(0), 1406932606);
    due(16, "months", x.told(6), 2);
    x = of(STREET);
    x.seed(1);
    x.drift(1);
    // draws: seeds 1103527590, 377401575, 662824084, so 16838 of 4, 5758 of 8, 10113 of 4: no rain
    due(16, "three draws a month", x.seed(0), 662824084);
    due(16, "a fire", x.house(2, 0), 5758 % 8);
    due(16, "a month with it", flue(x, 2), 26);
    due(16, "one deed", x.told(11), 1);
    due(16, "undone with the fire", x.undo(1), 0);
    due(16, "burns as ahead", x.house(2, 0), 3);
    due(16, "0", x.drift(0), OUTSIDE);
    due(16, "31", x.drift(31), OUTSIDE);
    due(16, "no city", new SootMaps().drift(1), NOT);
    due(16, "outside ahead of no city", new SootMaps().drift(0), OUTSIDE);
    wetMonth();
  }

  /** From some seed on the third draw is 0: then the rain comes behind the month and washes what it laid. */
  private static void wetMonth() {
    SootMaps x = of("c0 4;h9 1;");
    int v = 0;
    for (int s = 0; s < 200 && v == 0; s++) {
      long a = s;
      for (int d = 0; d < 3; d++) a = (a * 1103515245L + 12345L) % (1L << 31);
      v = a / 65536 % 4 == 0 ? s : 0;
    }
    x.seed(v);
    due(16, "rain behind the month", x.drift(1), 0);
    due(16, "is one deed with it", x.told(11), 1);
  }

  private static void undo() {
    SootMaps x = of(STREET);
    x.month(2);
    x.fire(0, 5);
    x.run(2, NONE);
    x.swept(1);
    x.rain();
    x.swap(0, 0, 1, 2);
    x.pay(0, 2, 3);
    due(17, "each month is one", x.told(11), 8);
    due(17, "undone: pay, swap", x.undo(2), 2);
    due(17, "knows", x.sweep(0, 0), 3);
    due(17, "knows", x.sweep(1, 0), 6);
    due(17, "paid", x.told(8), 0);
    due(17, "purse", x.sweep(2, 2), 100000);
    due(17, "undone: rain, swept", x.undo(2), 2);
    due(17, "flue", flue(x, 1), 123123);
    due(17, "undone: run, fire", x.undo(2), 2);
    due(17, "runs", x.house(2, 1), 1);
    due(17, "burns", x.house(0, 0), 1);
    due(17, "not so many", x.undo(3), NOT);
    due(17, "undone: a month", x.undo(1), 1);
    due(17, "flue", flue(x, 1), 123);
    due(17, "undone: the first", x.undo(1), 0);
    due(17, "none left", x.undo(1), NOT);
    due(17, "0", x.undo(0), OUTSIDE);
    due(17, "31", x.undo(31), OUTSIDE);
    x.month(30);
    x.fire(3, 0);
    due(17, "thirty are kept", x.told(11), 30);
    due(17, "thirty are undone", x.undo(30), 1);
    x.see(0, 1, true);
    x.write(0, 1);
    x.drift(3);
    x.undo(3);
    due(17, "what was seen stays", x.told(9), 1);
    due(17, "the book stays", x.told(10), 1);
    due(17, "the seed stays", x.seed(0) == 0 ? 0 : 1, 1);
  }

  private static void burned() {
    SootMaps x = of("c0 2;h9 3;h0 3;h0 5;h9 0;");
    x.month(2);
    due(18, "one row", x.burned(0, 2, NONE), 1);
    due(18, "the row: 3, 3", x.burned(0, 2, 0), 27);
    due(18, "no second", x.burned(0, 2, 1), NONE);
    due(18, "below none", x.burned(0, 2, -2), NONE);
    due(18, "far above", x.burned(0, 2, MAX), NONE);
    due(18, "in three months not", x.burned(0, 3, NONE), 0);
    due(18, "in three months none", x.burned(0, 3, 0), NONE);
    due(18, "an empty flue", x.burned(3, 3, NONE), 1);
    due(18, "by nothing", x.burned(3, 3, 0), 0);
    x.run(2, NONE);
    x.fire(1, 0);
    x.swept(0);
    x.fire(0, 6);
    x.month(1);
    due(18, "one layer in two months: first, last", x.burned(0, 2, NONE), 2);
    due(18, "the last month's is the lesser row", x.burned(0, 2, 0), 6);
    due(18, "the first month's the greater", x.burned(0, 2, 1), 48);
    due(18, "in three months", x.burned(0, 3, NONE), 3);
    due(18, "the third", x.burned(0, 3, 2), 384);
    due(18, "n below", x.burned(0, 0, NONE), OUTSIDE);
    due(18, "n above", x.burned(0, 4, NONE), OUTSIDE);
    due(18, "no such house, ahead of outside", x.burned(4, 4, NONE), UNKNOWN);
    SootMaps y = of("c2 0;h9 7;h0 7;h1 7;h2 7;h3 7;h4 7;h5 7;h6 7;h7 7;");
    y.month(1);
    due(18, "pushed out by others: all fit", y.burned(0, 1, NONE), 8);
    due(18, "the last of all", y.burned(0, 3, 511), 511);
    due(18, "tried only", y.told(11), 1);
  }

  private static void sure() {
    SootMaps x = of("c0 2;h9 6;h9 0;");
    x.month(1);
    due(19, "surely", x.sure(0, 1, 1), 6);
    due(19, "in which month is not sure", x.sure(0, 2, 1), NONE);
    due(19, "nor the second", x.sure(0, 2, 2), NONE);
    due(19, "surely nothing", x.sure(1, 3, 3), 0);
    x.fire(0, 2);
    x.month(1);
    due(19, "the first of two", x.sure(0, 2, 1), 6);
    due(19, "the second of two", x.sure(0, 2, 2), 2);
    due(19, "no row at all", x.sure(0, 1, 1), NONE);
    due(19, "m below", x.sure(0, 2, 0), OUTSIDE);
    due(19, "m above n", x.sure(0, 2, 3), OUTSIDE);
    due(19, "n below", x.sure(0, 0, 1), OUTSIDE);
    due(19, "n above", x.sure(0, 4, 1), OUTSIDE);
    due(19, "no such house, ahead of outside", x.sure(2, 4, 9), UNKNOWN);
  }

  private static void flues() {
    SootMaps x = of(STREET);
    due(20, "soot of the first", x.flues(0, 0), 3);
    due(20, "soot by the chain and the wind", x.flues(2, 0), 15);
    due(20, "soot of the last, no wind", x.flues(3, 0), 8);
    x.fire(2, 0);
    due(20, "who burns nothing", x.flues(2, 0), 0);
    due(20, "heat", x.flues(0, 1), 6);
    due(20, "heat straight", x.flues(1, 1), 4);
    due(20, "no heat", x.flues(3, 1), 0);
    due(20, "all empty: alike", x.flues(3, 2), 15);
    x.month(1);
    due(20, "like", x.flues(0, 2), 3);
    due(20, "like itself alone", x.flues(3, 2), 8);
    due(20, "below", x.flues(0, -1), OUTSIDE);
    due(20, "above", x.flues(0, 3), OUTSIDE);
    due(20, "no such house, ahead of outside", x.flues(4, 3), UNKNOWN);
    SootMaps y = of("c2 0;h9 1;h9 2;");
    due(20, "the wind down", y.flues(1, 0), 3);
    due(20, "the wind down from the first", y.flues(0, 0), 1);
  }

  private static void trade() {
    SootMaps x = of("c0 0;h9 1;h9 1;h9 1;h9 1;h9 1;s1 5;s6 3;s14 3;s17 9;");
    due(21, "one swap each with two", x.trade(0, 7, NONE), 0);
    due(21, "the lesser gives the lesser house", x.trade(0, 7, 1), 1);
    due(21, "the greater the next", x.trade(0, 7, 2), 2);
    due(21, "he knows it", x.trade(0, 7, 0), NONE);
    due(21, "not of the set", x.trade(0, 7, 3), NONE);
    due(21, "one is paid", x.trade(0, 15, NONE), 3);
    due(21, "of like ones the lesser, house by house", x.trade(0, 15, 2), 1);
    due(21, "only he knows it", x.trade(0, 15, 3), 2);
    due(21, "who knows his map takes the price", x.trade(0, 16, NONE), 9);
    due(21, "nobody knows it", of("c0 0;h9 1;h9 1;s1 0;s1 0;").trade(0, 2, NONE), NONE);
    due(21, "then from nobody", of("c0 0;h9 1;h9 1;h9 1;s1 0;s2 0;").trade(0, 6, 1), NONE);
    due(21, "all is known", x.trade(0, 1, NONE), 0);
    due(21, "an empty set", x.trade(0, 0, NONE), 0);
    due(21, "bits of no house", x.trade(0, 32, NONE), UNKNOWN);
    due(21, "below", x.trade(0, -1, NONE), UNKNOWN);
    due(21, "least", x.trade(0, MIN, NONE), UNKNOWN);
    due(21, "no such house", x.trade(0, 1, 5), UNKNOWN);
    due(21, "below none", x.trade(0, 1, -2), UNKNOWN);
    due(21, "no such sweep", x.trade(4, 1, NONE), UNKNOWN);
    due(21, "the dear one swaps, the cheap one is paid",
      of("c0 0;h9 1;h9 1;h9 1;s1 0;s6 90;s2 4;").trade(0, 6, NONE), 0);
    due(21, "tried only", x.sweep(0, 0), 1);
    SootMaps y = of("c0 0;h9 1;h9 1;h9 1;h9 1;h9 1;h9 1;h9 1;h9 1;h9 1;s15 1;s496 50;s496 40;s496 30;s496 20;");
    due(21, "the greatest table", y.trade(0, 511, NONE), 0);
    due(21, "four from the least", y.trade(0, 511, 7), 1);
    due(21, "the fifth from the next", y.trade(0, 511, 8), 2);
  }

  private static void ring() {
    SootMaps x = of("c0 0;h9 1;h9 1;h9 1;s7 1;s1 1;s3 1;s5 1;");
    due(22, "of two", x.ring(NONE), 2);
    due(22, "the first", x.ring(0), 2);
    due(22, "the second", x.ring(1), 3);
    due(22, "no third", x.ring(2), NONE);
    due(22, "below none", x.ring(-2), NONE);
    x.pay(2, 0, 2);
    due(22, "none", x.ring(NONE), NONE);
    due(22, "none", x.ring(0), NONE);
    due(22, "no city", new SootMaps().ring(NONE), NONE);
    due(22, "the lesser second", of("c0 0;h9 1;h9 1;h9 1;s1 1;s2 1;s4 1;").ring(1), 1);
    due(22, "three from whom the first can't get", of("c0 0;h9 1;h9 1;s3 1;s1 1;s0 1;").ring(NONE), NONE);
  }

  private static void brushes() {
    SootMaps x = of(STREET);
    due(23, "empty", x.brushes(1, 0), 0);
    x.month(1);
    due(23, "in two", x.brushes(1, 0), 2);
    due(23, "in four", x.brushes(3, 0), 4);
    due(23, "in none", x.brushes(7, 0), 0);
    x.swept(3);
    due(23, "swept", x.brushes(3, 0), 3);
    due(23, "who burns it", x.brushes(3, 1), 2);
    due(23, "who burns none", x.brushes(7, 1), NONE);
    x.fire(0, 4);
    due(23, "the one with most flues", x.brushes(4, 1), 0);
    x.fire(1, 4);
    due(23, "the next with more", x.brushes(4, 1), 1);
    due(23, "of like ones the least", of("c0 0;h9 1;h9 1;").brushes(1, 1), 0);
    due(23, "kind below", x.brushes(0, 0), OUTSIDE);
    due(23, "kind above", x.brushes(8, 1), OUTSIDE);
    due(23, "what below", x.brushes(1, -1), OUTSIDE);
    due(23, "what above", x.brushes(1, 2), OUTSIDE);
    due(23, "no city", new SootMaps().brushes(1, 0), 0);
    due(23, "no city: nobody", new SootMaps().brushes(1, 1), NONE);
  }

  private static void wet() {
    SootMaps x = new SootMaps();
    due(24, "no layers", x.wet(0, 50), 1000000000);
    due(24, "one", x.wet(1, 50), 500000000);
    due(24, "two", x.wet(2, 50), 240000000);
    due(24, "all rightly but for what lies above", x.wet(2, 0), 980000000);
    due(24, "eight, cut each time", x.wet(8, 1), 508139620);
    due(24, "a hundred at most", x.wet(8, 100), 0);
    due(24, "n below", x.wet(-1, 0), OUTSIDE);
    due(24, "n above", x.wet(9, 0), OUTSIDE);
    due(24, "q below", x.wet(0, -1), OUTSIDE);
    due(24, "q above", x.wet(0, 101), OUTSIDE);
  }

  private static void see() {
    SootMaps x = of(STREET);
    due(25, "kind below", x.see(0, 0, true), OUTSIDE);
    due(25, "kind above", x.see(0, 8, true), OUTSIDE);
    due(25, "no such house, ahead of outside", x.see(4, 8, true), UNKNOWN);
    for (int i = 1; i <= 6; i++) due(25, "the " + i, x.see(3, 1 + i, i % 2 == 0), i);
    due(25, "full", x.see(0, 1, true), FULL);
    due(25, "outside ahead of full", x.see(0, 0, true), OUTSIDE);
    due(25, "how much", x.told(9), 6);
    due(25, "no deed", x.told(11), 0);
  }

  private static void next() {
    SootMaps x = of(STREET);
    // where soot would lie: of 0 in 0 1; of 1 in 0 1 2; of 2 in 0 1 2 3; of 3 in 3
    due(26, "nothing seen: all", x.next(5, 0), 15);
    due(26, "parted best by 2", x.next(5, 1), 2);
    x.see(0, 5, true);
    due(26, "it was in 0", x.next(5, 0), 7);
    due(26, "of like ones the least", x.next(5, 1), 2);
    x.see(3, 5, false);
    due(26, "it was not in 3", x.next(5, 0), 3);
    due(26, "2 parts them", x.next(5, 1), 2);
    due(26, "of another kind nothing is seen", x.next(6, 0), 15);
    x.see(2, 5, true);
    due(26, "who", x.next(5, 0), 2);
    due(26, "one is not parted", x.next(5, 1), NONE);
    x.see(0, 5, false);
    due(26, "nobody", x.next(5, 0), 0);
    due(26, "nobody is not parted", x.next(5, 1), NONE);
    due(26, "the greatest kind", x.next(7, 0), 15);
    due(26, "kind below", x.next(0, 0), OUTSIDE);
    due(26, "kind above", x.next(8, 0), OUTSIDE);
    due(26, "what below", x.next(1, -1), OUTSIDE);
    due(26, "what above", x.next(1, 2), OUTSIDE);
    x.run(2, NONE);
    due(26, "by where it runs now", x.next(6, 1), 0);
    due(26, "no city", new SootMaps().next(1, 0), 0);
    due(26, "no city: none", new SootMaps().next(1, 1), NONE);
    due(26, "the wind both ways: alike", of("c2 0;h9 0;h0 0;").next(1, 1), 1);
  }

  private static void write() {
    SootMaps x = of(STREET);
    due(27, "below", x.write(0, -1), OUTSIDE);
    due(27, "above", x.write(0, 8), OUTSIDE);
    due(27, "no such house, ahead of outside", x.write(4, 8), UNKNOWN);
    for (int i = 1; i <= 20; i++) due(27, "entry " + i, x.write(i % 4, i % 8), i);
    due(27, "full", x.write(0, 0), FULL);
    due(27, "outside ahead of full", x.write(0, 8), OUTSIDE);
    due(27, "entries", x.told(10), 20);
    due(27, "no deed", x.told(11), 0);
  }

  private static void judge() {
    SootMaps x = of(STREET);
    due(28, "no book", x.judge(), NONE);
    x.write(0, 0);
    due(28, "none lies there", x.judge(), NONE);
    x.write(2, 3);
    due(28, "the second is wrong", x.judge(), 1);
    x.month(1);
    due(28, "the first is wrong then", x.judge(), 0);
    x.swept(0);
    due(28, "all is right", x.judge(), NONE);
  }

  private static void tear() {
    SootMaps x = of(STREET);
    due(29, "nothing", x.tear(), 0);
    x.see(0, 1, true);
    x.write(0, 1);
    x.write(0, 1);
    due(29, "both", x.tear(), 3);
    due(29, "nothing seen", x.told(9), 0);
    due(29, "no book", x.told(10), 0);
    due(29, "nothing is wrong", x.judge(), NONE);
    due(29, "all could be", x.next(1, 0), 15);
    due(29, "written anew", x.write(0, 0), 1);
  }

  private static void seed() {
    SootMaps x = new SootMaps();
    due(30, "0 at first", x.seed(MAX), 0);
    due(30, "the greatest", x.seed(5), MAX);
    due(30, "below", x.seed(-1), OUTSIDE);
    due(30, "least", x.seed(MIN), OUTSIDE);
    due(30, "as it was", x.seed(0), 5);
    x = of("c0 0;");
    x.seed(MAX);
    x.drift(1);
    due(30, "left over", x.seed(0), (int) ((MAX * 1103515245L + 12345L) % (1L << 31)));
  }

  private static void keep() {
    SootMaps x = of(STREET);
    x.month(2);
    due(31, "kept", x.keep(1), 1);
    due(31, "nothing can be undone", x.told(11), 0);
    due(31, "months are as they were", x.told(6), 2);
    due(31, "no such image", x.keep(2), UNKNOWN);
    due(31, "no such image", x.keep(-1), UNKNOWN);
    due(31, "the other is not kept", x.goBack(0), NOT);
    x.rain();
    x.keep(2);
    due(31, "refused: it can be undone", x.undo(1), 2);
    due(31, "no city", new SootMaps().keep(0), 1);
  }

  private static void goBack() {
    SootMaps x = of(STREET);
    x.month(1);
    x.seed(7);
    x.see(0, 1, true);
    x.keep(0);
    x.write(0, 1);
    x.drift(2);
    x.fire(0, 6);
    x.run(1, NONE);
    x.swap(0, 0, 1, 2);
    x.pay(0, 2, 3);
    x.keep(1);
    due(32, "back", x.goBack(0), 1);
    due(32, "nothing can be undone", x.told(11), 0);
    due(32, "months", x.told(6), 1);
    due(32, "flue", flue(x, 0), 123);
    due(32, "burns", x.house(0, 0), 1);
    due(32, "runs", x.house(1, 1), 0);
    due(32, "knows", x.sweep(0, 0), 3);
    due(32, "purse", x.sweep(0, 2), 100000);
    due(32, "paid", x.told(8), 0);
    due(32, "what was seen stays", x.told(9), 1);
    due(32, "the book stays", x.told(10), 1);
    due(32, "the seed", x.seed(0), 7);
    x.month(3);
    due(32, "the other one", x.goBack(1), 1);
    due(32, "months", x.told(6), 3);
    due(32, "paid", x.told(8), 9);
    x.swept(0);
    due(32, "again", x.goBack(0), 1);
    due(32, "the image stayed", flue(x, 0), 123);
    x.rain();
    due(32, "no such image", x.goBack(2), UNKNOWN);
    due(32, "no such image", x.goBack(-1), UNKNOWN);
    due(32, "refused: it can be undone", x.told(11), 1);
  }
}
