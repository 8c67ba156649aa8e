/** The boundaries of part 3: what is TRIED, SEEN and judged; promises 18 to 29. */
public final class TriedEdgesTest {
  private static final int NONE = Check.NONE, UNKNOWN = Check.UNKNOWN, OUTSIDE = Check.OUTSIDE, FULL = Check.FULL,
    MAX = Check.MAX, MIN = Check.MIN;
  private static final String STREET = "c1 2;h9 1;h0 2;h1 3;h9 4;s3 5;s6 7;s8 9;";
  private static final String NINE = "h9 1;h9 1;h9 1;h9 1;h9 1;h9 1;h9 1;h9 1;h9 1;";
  private static final Check check = new Check("TriedEdgesTest");

  public static void main(String[] args) {
    nothingChanges();
    burned();
    burnedAsNow();
    theIthRow();
    sure();
    soot();
    heat();
    like();
    fluesOutside();
    tradeOnceToEach();
    tradeLeast();
    tradeNone();
    fromWhom();
    tradeUnknown();
    ring();
    brushes();
    fear();
    wet();
    seen();
    sixAtMost();
    seenOfThatKind();
    parted();
    book();
    wrongEntry();
    tear();
    promisesOfRows();
    check.end();
  }

  private static void nothingChanges() {
    check.sentence("TRIED from now; nothing changes by it.");
    String[] ahead = "seed 3|month 2|keep 0|rain|fire 0 5|see 0 1 1|see 1 1 0|write 0 1|write 2 3".split("\\|");
    String[] tried = {"burned 0 3 -1", "burned 1 2 0", "sure 2 3 1", "flues 2 0", "flues 0 1", "flues 1 2", "trade 0 15 -1",
      "trade 0 15 2", "ring -1", "ring 0", "brushes 1 0", "brushes 2 1", "wet 8 50", "next 1 0", "next 1 1", "judge"};
    Twins twins = new Twins(check, STREET, ahead);
    for (String words : tried) twins.unchanged(words, x -> Calls.call(x, words), Calls.call(twins.make(), words));
    oneBehindTheOther();
  }

  /** What is tried leaves nothing behind for what is tried next, in rows that are used again either. */
  private static void oneBehindTheOther() {
    String text = "c1 0;h9 1;h0 2;h1 3;h9 4;h3 5;h9 6;s3 5;s6 7;s24 9;s63 50;s0 2;";
    String[] tried = {"trade 0 63 -1", "trade 0 4 -1", "trade 0 0 -1", "trade 0 28 3", "trade 4 63 -1", "trade 4 1 0", "trade 2 7 -1",
      "trade 1 57 5", "burned 0 3 -1", "burned 2 1 0", "burned 5 2 0", "sure 1 1 1", "sure 5 1 1", "ring -1", "ring 1", "next 1 1"};
    Twins twins = new Twins(check, text, "month 1");
    for (String first : tried) {
      SootMaps x = twins.make();
      for (String second : tried) {
        Calls.call(x, first);
        check.due(second + " behind " + first, Calls.call(x, second), Calls.call(twins.make(), second));
      }
    }
  }

  // ---- burned

  private static void burned() {
    check.sentence("rows of KINDS (0 to 7) that a HOUSE could have burned in the latest n MONTHS (1 .. 3), all FLUES empty ahead of them");
    for (int first = 0; first <= 7; first++) {
      for (int second = 0; second <= 7; second++) {
        SootMaps x = Check.of("c0 0;h9 " + first + ";");
        x.month(1);
        x.fire(0, second);
        x.month(1);
        int layers = (first > 0 ? 1 : 0) + (second > 0 ? 1 : 0);
        check.due("one month", x.burned(0, 1, NONE), layers < 2 ? 1 : 0);
        check.due("two months", x.burned(0, 2, NONE), layers == 1 ? 2 : 1);
        check.due("three months", x.burned(0, 3, NONE), layers == 0 ? 1 : 3);
      }
    }
    SootMaps x = Check.of("c0 0;h9 7;");
    check.due("no month went by, an empty flue", x.burned(0, 3, NONE), 1);
    x.month(3);
    check.due("three of three", x.burned(0, 3, 0), 511);
    check.due("three of two", x.burned(0, 2, NONE), 0);
    x.month(1);
    check.due("four layers of three months", x.burned(0, 3, NONE), 0);
    for (int n : new int[] {MIN, -1, 0, 4, 5, MAX}) {
      check.due("n " + n, x.burned(0, n, NONE), OUTSIDE);
      check.due("n " + n, x.burned(0, n, 0), OUTSIDE);
    }
    for (int h : new int[] {MIN, -1, 1, 9, MAX}) {
      for (int n = 0; n <= 4; n++) check.due("house " + h, x.burned(h, n, NONE), UNKNOWN);
    }
  }

  private static void burnedAsNow() {
    check.sentence("others as they burn now, without RAIN, FIRES, so that its own FLUE lies as it does now");
    SootMaps x = Check.of("c0 1;h9 1;h0 2;");
    x.month(1);
    check.due("the other lays on it", x.burned(0, 1, 0), 1);
    x.fire(1, 3);
    check.due("not as it burns now", x.burned(0, 1, NONE), 0);
    x.fire(1, 2);
    x.run(1, NONE);
    check.due("not as it runs now", x.burned(0, 1, NONE), 0);
    check.due("in two months", x.burned(0, 2, 0), 1 * 8 + 2);
    x.rain();
    check.due("washed off", x.burned(0, 1, 0), 1);
    x.swept(0);
    check.due("swept", x.burned(0, 1, 0), 0);
    x = Check.of("c0 0;h9 1;h0 7;h0 7;h0 7;h0 7;h0 7;h0 7;h0 7;h0 7;");
    x.month(1);
    check.due("eight others lie on it", x.burned(0, 1, NONE), 8);
    check.due("all of three months", x.burned(0, 3, NONE), 512);
    x = Check.of("c0 0;h9 1;h0 7;h0 7;h0 7;h0 7;h0 7;h0 7;h0 7;");
    x.month(1);
    check.due("seven others lie on it", x.burned(0, 1, NONE), 1);
    check.due("the last of two months", x.burned(0, 2, NONE), 8);
    x = Check.of("c1 0;h9 3;h9 0;");
    x.month(1);
    check.due("by the wind alone", x.burned(1, 1, 0), 0);
    x = Check.of("c2 0;h9 3;h0 4;");
    x.month(1);
    check.due("twice by the next one", x.burned(0, 1, 0), 3);
    check.due("and no other", x.burned(0, 1, NONE), 1);
  }

  private static void theIthRow() {
    check.sentence("how many; the i-th (the first MONTH's KIND the highest figure of eight, rising)");
    SootMaps x = Check.of("c0 0;h9 5;");
    x.month(1);
    int[] due = {5, 40, 320};
    check.due("how many", x.burned(0, 3, NONE), 3);
    for (int i = 0; i <= 2; i++) check.due("row " + i, x.burned(0, 3, i), due[i]);
    for (int i : new int[] {3, 4, 511, 512, MAX, -2, MIN}) check.due("row " + i, x.burned(0, 3, i), NONE);
    x = Check.of("c0 0;h9 1;h0 7;h0 7;h0 7;h0 7;h0 7;h0 7;h0 7;h0 7;");
    x.month(1);
    for (int n = 1; n <= 3; n++) {
      int rows = 1 << 3 * n;
      check.due("all of " + n, x.burned(0, n, NONE), rows);
      check.due("the first", x.burned(0, n, 0), 0);
      check.due("the last", x.burned(0, n, rows - 1), rows - 1);
      check.due("beyond", x.burned(0, n, rows), NONE);
    }
    SootMaps none = Check.of("c0 0;h9 5;");
    none.month(4);
    check.due("none fits", none.burned(0, 3, NONE), 0);
    check.due("none fits, the first", none.burned(0, 3, 0), NONE);
  }

  private static void sure() {
    check.sentence("SURE in MONTH m (1 .. n): the KIND, if it is the same in all; NONE.");
    SootMaps x = Check.of("c0 0;h9 1;h9 0;");
    x.month(1);
    x.fire(0, 7);
    x.month(1);
    x.fire(0, 3);
    x.month(1);
    int[] due = {1, 7, 3};
    for (int m = 1; m <= 3; m++) {
      check.due("month " + m + " of three", x.sure(0, 3, m), due[m - 1]);
      check.due("nothing in month " + m, x.sure(1, 3, m), 0);
    }
    check.due("no row of two", x.sure(0, 2, 1), NONE);
    check.due("no row of one", x.sure(0, 1, 1), NONE);
    SootMaps y = Check.of("c0 0;h9 6;");
    y.month(1);
    check.due("one of one", y.sure(0, 1, 1), 6);
    for (int m = 1; m <= 3; m++) check.due("6 or nothing", y.sure(0, 3, m), NONE);
    y.fire(0, 6);
    y.month(1);
    check.due("twice in three", y.sure(0, 3, 2), NONE);
    check.due("twice in two", y.sure(0, 2, 2), 6);
    check.sentence("UNKNOWN, OUTSIDE (m 1 .. n).");
    for (int n = 1; n <= 3; n++) {
      for (int m : new int[] {MIN, -1, 0, n + 1, 4, MAX}) check.due("m " + m + " of " + n, x.sure(0, n, m), OUTSIDE);
    }
    for (int n : new int[] {MIN, -1, 0, 4, MAX}) {
      for (int m : new int[] {-1, 0, 1, 4, MAX}) check.due("n " + n, x.sure(0, n, m), OUTSIDE);
    }
    for (int h : new int[] {MIN, -1, 2, MAX}) {
      for (int n = 0; n <= 4; n++) check.due("house " + h, x.sure(h, n, 5), UNKNOWN);
    }
  }

  // ---- flues

  private static void soot() {
    check.sentence("SOOT of a HOUSE: FLUES in which a LAYER of its KIND would lie by the next MONTH because of it (a SET; 0: it burns nothing).");
    String chain = "h9 1;h0 1;h1 1;h2 1;h3 1;h4 1;h5 1;h6 1;h7 1;";
    for (int w = 0; w <= 2; w++) {
      SootMaps x = Check.of("c" + w + " 0;" + chain);
      SootMaps y = Check.of("c" + w + " 0;" + NINE);
      for (int h = 0; h <= 8; h++) {
        int above = w == 1 && h < 8 ? 1 << h + 1 : 0;
        int below = w == 2 && h > 0 ? 1 << h - 1 : 0;
        check.due("wind " + w + ", chain", x.flues(h, 0), (1 << h + 1) - 1 | above);
        check.due("wind " + w + ", alone", y.flues(h, 0), 1 << h | above | below);
        x.fire(h, 0);
        check.due("it burns nothing", x.flues(h, 0), 0);
        x.fire(h, 7);
        check.due("it burns again", x.flues(h, 0), (1 << h + 1) - 1 | above);
      }
    }
    SootMaps x = Check.of("c0 0;h9 1;h0 2;");
    x.run(1, NONE);
    check.due("as it runs now", x.flues(1, 0), 2);
  }

  private static void heat() {
    check.sentence("HEAT: HOUSES whose FLUES run into its own, straight or by others (a SET).");
    SootMaps x = Check.of("c0 0;h9 1;h0 1;h1 1;h2 1;h3 1;h4 1;h5 1;h6 1;h7 1;");
    for (int h = 0; h <= 8; h++) check.due("of the chain " + h, x.flues(h, 1), 511 & -1 << h + 1);
    SootMaps y = Check.of("c1 0;" + NINE);
    for (int h = 0; h <= 8; h++) check.due("not by the wind", y.flues(h, 1), 0);
    SootMaps z = Check.of("c0 0;h9 0;h0 0;h0 0;h2 0;h9 0;");
    check.due("two straight, one by another, who burn nothing", z.flues(0, 1), 14);
    check.due("straight", z.flues(2, 1), 8);
    z.run(2, NONE);
    check.due("as they run now", z.flues(0, 1), 2);
  }

  private static void like() {
    check.sentence("LIKE: HOUSES of whose FLUES all LAYERS are as in its own (a SET, it too).");
    SootMaps x = Check.of("c0 0;" + NINE);
    check.due("all empty", x.flues(8, 2), 511);
    x.swept(0);
    x.month(1);
    check.due("all alike", x.flues(0, 2), 511);
    x.swept(3);
    check.due("but one", x.flues(0, 2), 503);
    check.due("itself alone", x.flues(3, 2), 8);
    x.month(7);
    x.fire(5, 2);
    check.due("eight and seven are not alike", x.flues(0, 2), 503);
    x.month(1);
    check.due("the newest is not", x.flues(0, 2), 511 & ~32);
    check.due("of the other one", x.flues(5, 2), 32);
    x.fire(5, 1);
    x.month(7);
    check.due("the oldest is not", x.flues(5, 2), 32);
    x.month(1);
    check.due("it went", x.flues(5, 2), 511);
  }

  private static void fluesOutside() {
    check.sentence("What = 0 SOOT, 1 HEAT, 2 LIKE. UNKNOWN, OUTSIDE.");
    SootMaps x = Check.of(STREET);
    check.due("soot", x.flues(1, 0), 7);
    check.due("heat", x.flues(1, 1), 4);
    check.due("like", x.flues(1, 2), 15);
    for (int what : new int[] {MIN, -1, 3, MAX}) check.due("what " + what, x.flues(0, what), OUTSIDE);
    for (int h : new int[] {MIN, -1, 4, 9, MAX}) {
      for (int what : new int[] {-1, 0, 2, 3}) check.due("house " + h, x.flues(h, what), UNKNOWN);
    }
  }

  // ---- trade

  /** A sweep who knows the houses of his own, and one other who knows the rest, at a price of 10 a map. */
  private static SootMaps twoSweeps(int known) {
    int own = (1 << known) - 1;
    return Check.of("c0 0;" + NINE + "s" + own + " 1;s" + (511 & ~own) + " 10;");
  }

  private static void tradeOnceToEach() {
    check.sentence("each map for one that he does not KNOW and the SWEEP KNOWS now (each of his maps once to each other SWEEP), or for his PRICE");
    for (int known = 0; known <= 9; known++) {
      SootMaps x = twoSweeps(known);
      int due = Math.max(0, 9 - known - known) * 10;
      check.due("he knows " + known, x.trade(0, 511, NONE), due);
    }
    SootMaps x = Check.of("c0 0;h9 1;h9 1;h9 1;s1 1;s2 50;s4 60;");
    check.due("the same map to two", x.trade(0, 7, NONE), 0);
    x = Check.of("c0 0;h9 1;h9 1;h9 1;s1 1;s6 50;");
    check.due("not twice to one", x.trade(0, 7, NONE), 50);
    x = Check.of("c0 0;h9 1;h9 1;h9 1;s1 1;s3 50;s4 60;");
    check.due("who knows it takes the price; what is got is not given on", x.trade(0, 7, NONE), 50);
    x = Check.of("c0 0;h9 1;h9 1;s0 1;s3 7;");
    check.due("who knows nothing pays for all", x.trade(0, 3, NONE), 14);
  }

  private static void tradeLeast() {
    check.sentence("the least that is PAID in all");
    check.due("of two prices", Check.of("c0 0;h9 1;s0 1;s1 9;s1 8;").trade(0, 1, NONE), 8);
    check.due("a price of 0", Check.of("c0 0;h9 1;s0 1;s1 9;s1 0;").trade(0, 1, NONE), 0);
    check.due("the dearest", Check.of("c0 0;" + NINE + "s0 0;s511 99;").trade(0, 511, NONE), 891);
    check.due("the swap where it saves most", Check.of("c0 0;h9 1;h9 1;h9 1;s1 0;s6 9;s4 3;").trade(0, 6, NONE), 0);
    check.due("one swap, the other by the cheaper one",
      Check.of("c0 0;h9 1;h9 1;h9 1;s1 0;s7 2;s6 90;").trade(0, 6, NONE), 2);
    SootMaps x = Check.of("c0 0;" + NINE + "s15 1;s496 50;s496 40;s496 30;s496 20;");
    check.due("four others of whom each swaps", x.trade(0, 511, NONE), 0);
    check.due("he pays nobody for what he knows", x.trade(0, 15, NONE), 0);
    check.due("an empty set", x.trade(0, 0, NONE), 0);
    check.due("one sweep alone who knows all", Check.of("c0 0;h9 1;s1 5;").trade(0, 1, NONE), 0);
  }

  private static void tradeNone() {
    check.sentence("NONE: somebody must be asked who does not KNOW it.");
    check.due("one sweep alone", Check.of("c0 0;h9 1;s0 5;").trade(0, 1, NONE), NONE);
    SootMaps x = Check.of("c0 0;h9 1;h9 1;h9 1;s1 5;s2 6;");
    check.due("one of the set is known to nobody", x.trade(0, 7, NONE), NONE);
    check.due("it alone", x.trade(0, 4, NONE), NONE);
    check.due("the rest", x.trade(0, 3, NONE), 0);
    for (int h = 0; h <= 2; h++) check.due("from nobody then", x.trade(0, 7, h), NONE);
  }

  private static void fromWhom() {
    check.sentence("FROM WHOM a HOUSE's map comes then (of like ones, HOUSE by HOUSE of the SET, the lesser SWEEP; NONE: he KNOWS it, it is "
      + "not of the SET).");
    SootMaps x = Check.of("c0 0;h9 1;h9 1;h9 1;h9 1;s1 5;s14 3;s14 3;");
    check.due("he knows it", x.trade(0, 15, 0), NONE);
    check.due("not of the set", x.trade(0, 6, 3), NONE);
    check.due("not of an empty set", x.trade(0, 0, 1), NONE);
    check.due("the lesser swaps first", x.trade(0, 6, 1), 1);
    check.due("the next one then", x.trade(0, 6, 2), 2);
    check.due("of three: two from the lesser", x.trade(0, 14, 1), 1);
    check.due("of three: two from the lesser", x.trade(0, 14, 2), 1);
    check.due("of three: one from the other", x.trade(0, 14, 3), 2);
    SootMaps y = Check.of("c0 0;h9 1;h9 1;s3 9;s0 1;s3 9;s3 8;s3 8;");
    check.due("the cheapest, of like ones the lesser", y.trade(1, 3, 0), 3);
    check.due("each of them", y.trade(1, 3, 1), 3);
    SootMaps z = Check.of("c0 0;h9 1;s1 4;s1 4;s1 4;s1 4;s0 4;");
    check.due("the least sweep of all", z.trade(4, 1, 0), 0);
    SootMaps v = Check.of("c0 0;h9 1;s0 4;s0 4;s0 4;s0 4;s1 4;");
    check.due("the last sweep of all", v.trade(0, 1, 0), 4);
  }

  private static void tradeUnknown() {
    check.sentence("TRADE: h = NONE how much, else FROM WHOM; NONE. UNKNOWN.");
    for (int houses = 0; houses <= 9; houses++) {
      int all = (1 << houses) - 1;
      SootMaps x = Check.of("c0 0;" + "h9 1;".repeat(houses) + "s" + all + " 0;s0 0;");
      check.due("all of " + houses, x.trade(0, all, NONE), 0);
      for (int set : new int[] {all + 1, 1 << houses | 1, 512, 1 << 30, MAX, MIN, MIN + 1, -1}) {
        check.due("set " + set + " of " + houses, x.trade(0, set, NONE), UNKNOWN);
      }
      if (houses > 0) check.due("the last house", x.trade(1, all, houses - 1), 0);
      for (int h : new int[] {houses, 9, MAX, -2, MIN}) check.due("house " + h, x.trade(0, 0, h), UNKNOWN);
      for (int s : new int[] {-1, 2, 5, MAX, MIN}) check.due("sweep " + s, x.trade(s, 0, NONE), UNKNOWN);
    }
    check.due("no city", new SootMaps().trade(0, 0, NONE), UNKNOWN);
  }

  // ---- ring

  private static void ring() {
    check.sentence("a row of 2 to 5 SWEEPS, none twice, the least first, each of whom can give the next one (the last the first) some map "
      + "that the next one does not KNOW: the first such (fewest SWEEPS, then one by one the lesser): how many; the i-th; NONE.");
    ringOf("no city", new SootMaps(), NONE, NONE);
    ringOf("no sweeps", Check.of("c0 0;h9 1;"), NONE, NONE);
    ringOf("one sweep", Check.of("c0 0;h9 1;s1 1;"), NONE, NONE);
    ringOf("two who know the same", Check.of("c0 0;h9 1;s1 1;s1 1;"), NONE, NONE);
    ringOf("one who has nothing new", Check.of("c0 0;h9 1;h9 1;s3 1;s1 1;"), NONE, NONE);
    ringOf("two", Check.of("c0 0;h9 1;h9 1;s2 1;s1 1;"), 0, 1);
    ringOf("five in a row of more and more", Check.of("c0 0;" + NINE + "s0 1;s1 1;s3 1;s7 1;s511 1;"), NONE, NONE);
    ringOf("the last two of five", Check.of("c0 0;" + NINE + "s511 1;s0 1;s0 1;s256 1;s255 1;"), 3, 4);
    ringOf("the first two of five", Check.of("c0 0;" + NINE + "s1 1;s2 1;s4 1;s8 1;s16 1;"), 0, 1);
    ringOf("the lesser second", Check.of("c0 0;" + NINE + "s3 1;s1 1;s2 1;s4 1;s8 1;"), 0, 3);
    ringOf("the lesser first", Check.of("c0 0;" + NINE + "s7 1;s1 1;s3 1;s2 1;s8 1;"), 0, 4);
    SootMaps x = Check.of("c0 0;h9 1;h9 1;s2 1;s1 1;");
    x.swap(0, 1, 1, 0);
    ringOf("swapped", x, NONE, NONE);
    x.undo(1);
    ringOf("undone", x, 0, 1);
  }

  private static void ringOf(String what, SootMaps x, int first, int second) {
    check.due(what + ": how many", x.ring(NONE), first == NONE ? NONE : 2);
    check.due(what + ": the first", x.ring(0), first);
    check.due(what + ": the second", x.ring(1), second);
    for (int i : new int[] {2, 3, 4, 5, MAX, -2, MIN}) check.due(what + ": i " + i, x.ring(i), NONE);
  }

  // ---- brushes, fear, wet

  private static void brushes() {
    check.sentence("BRUSHES: the fewest HOUSES whose FLUES are to be swept so that a told KIND lies in none: always those in which it lies: how many");
    SootMaps x = Check.of("c0 0;" + NINE);
    check.due("in none", x.brushes(1, 0), 0);
    x.month(1);
    check.due("in all", x.brushes(1, 0), 9);
    check.due("another kind", x.brushes(2, 0), 0);
    x.fire(4, 7);
    x.month(7);
    check.due("the oldest of eight", x.brushes(1, 0), 9);
    check.due("the newest seven", x.brushes(7, 0), 1);
    x.month(1);
    check.due("the oldest went", x.brushes(1, 0), 8);
    for (int h = 0; h <= 8; h++) x.swept(h);
    for (int kind = 1; kind <= 7; kind++) check.due("all are swept", x.brushes(kind, 0), 0);
    check.due("no city", new SootMaps().brushes(1, 0), 0);
    check.sentence("What = 0 BRUSHES, 1 FEAR (NONE). OUTSIDE (KINDS 1 .. 7).");
    for (int kind = 1; kind <= 7; kind++) {
      SootMaps y = Check.of("c0 0;h9 " + kind + ";");
      y.month(1);
      check.due("brushes of " + kind, y.brushes(kind, 0), 1);
      check.due("fear of " + kind, y.brushes(kind, 1), 0);
      for (int what : new int[] {MIN, -1, 2, MAX}) check.due("what " + what, y.brushes(kind, what), OUTSIDE);
    }
    for (int kind : new int[] {MIN, -1, 0, 8, 9, MAX}) {
      for (int what : new int[] {-1, 0, 1, 2}) check.due("kind " + kind, x.brushes(kind, what), OUTSIDE);
    }
  }

  private static void fear() {
    check.sentence("FEAR: of HOUSES that burn a KIND the one whose SOOT lies in most FLUES; of like ones the least; NONE.");
    SootMaps x = Check.of("c0 0;h9 1;h0 1;h1 1;h9 2;h3 2;h3 2;h9 3;");
    check.due("the longest", x.brushes(1, 1), 2);
    check.due("of like ones the least", x.brushes(2, 1), 4);
    check.due("the only one", x.brushes(3, 1), 6);
    for (int kind = 4; kind <= 7; kind++) check.due("nobody", x.brushes(kind, 1), NONE);
    x.fire(2, 0);
    check.due("who burns it now", x.brushes(1, 1), 1);
    x.fire(0, 0);
    x.fire(1, 0);
    check.due("nobody any more", x.brushes(1, 1), NONE);
    check.due("by the wind", Check.of("c1 0;h9 1;h9 1;").brushes(1, 1), 0);
    check.due("by the wind down", Check.of("c2 0;h9 1;h9 1;").brushes(1, 1), 1);
    check.due("nine alike", Check.of("c0 0;" + NINE).brushes(1, 1), 0);
    check.due("no city", new SootMaps().brushes(1, 1), NONE);
  }

  private static void wet() {
    check.sentence("WET: odds that a map of n LAYERS (0 .. 8) is read rightly, each by q of a hundred (0 .. 100) and 2 for each LAYER above it "
      + "(100 at most) wrongly: a BILLION times (100 less that) / 100 each, from the newest on (cut).");
    SootMaps x = new SootMaps();
    for (int q = 0; q <= 100; q++) {
      long odds = 1000000000L;
      check.due("no layer", x.wet(0, q), 1000000000);
      for (int n = 1; n <= 8; n++) {
        int wrongly = q + 2 * (n - 1);
        odds = odds * (wrongly > 100 ? 0 : 100 - wrongly) / 100;
        if (n == 1 || n == 8) check.due("wet(" + n + ", " + q + ")", x.wet(n, q), (int) odds);
      }
      x = q % 50 == 49 ? new SootMaps() : x;
    }
    check.due("a hundred", x.wet(1, 100), 0);
    check.due("a hundred by two above", x.wet(2, 98), 0);
    check.due("a hundred at most", x.wet(2, 99), 0);
    check.due("more than a hundred twice", x.wet(3, 99), 0);
    check.due("ninety-nine", x.wet(2, 97), 300000);
    check.due("cut: .. 193050, 13513, 675, 20, 0", x.wet(8, 85), 0);
    check.due("cut", x.wet(4, 93), 1050);
    for (int n : new int[] {MIN, -1, 9, 10, MAX}) for (int q : new int[] {-1, 0, 100, 101}) check.due("n " + n, x.wet(n, q), OUTSIDE);
    for (int q : new int[] {MIN, -1, 101, 102, MAX}) for (int n : new int[] {0, 8}) check.due("q " + q, x.wet(n, q), OUTSIDE);
  }

  // ---- seen, book

  private static void seen() {
    check.sentence("SEEN: how much. UNKNOWN, OUTSIDE, FULL (6).");
    for (int n = 0; n <= 6; n++) {
      SootMaps x = Check.of(STREET);
      for (int i = 1; i <= n; i++) check.due("seen", x.see(i % 4, 1 + i % 7, i % 2 == 0), i);
      check.due("how much", x.told(9), n);
      check.due("one more", x.see(3, 7, true), n < 6 ? n + 1 : FULL);
      check.due("how much then", x.told(9), Math.min(6, n + 1));
      for (int kind : new int[] {MIN, -1, 0, 8, 9, MAX}) check.due("kind " + kind, x.see(0, kind, true), OUTSIDE);
      for (int h : new int[] {MIN, -1, 4, 9, MAX}) {
        for (int kind : new int[] {0, 1, 7, 8}) check.due("house " + h, x.see(h, kind, false), UNKNOWN);
      }
      check.due("refused: as it was", x.told(9), Math.min(6, n + 1));
    }
    check.due("no city", new SootMaps().see(0, 1, true), UNKNOWN);
  }

  private static void sixAtMost() {
    check.sentence("SEEN (6 at most): a FLUE had a KIND in it, or not.");
    for (int n = 1; n <= 7; n++) {
      SootMaps x = Check.of("c0 0;" + NINE);
      // each that was not in a flue leaves one house fewer
      for (int i = 0; i < n; i++) check.due("the " + i, x.see(i, 3, false), i < 6 ? i + 1 : FULL);
      check.due("who is left of nine behind " + n, x.next(3, 0), 511 & -1 << Math.min(6, n));
      check.due("all of another kind", x.next(2, 0), 511);
    }
    SootMaps x = Check.of("c0 0;" + NINE);
    x.see(8, 7, true);
    check.due("it was in the last", x.next(7, 0), 256);
    x.month(1);
    check.due("what lies there now is not asked", x.next(1, 0), 511);
  }

  private static void seenOfThatKind() {
    check.sentence("HOUSES of which each alone could have burned a told KIND, by where its SOOT would lie now (own FLUE, those into which it runs, "
      + "the WIND's), by all that is SEEN of that KIND: who (a SET)");
    SootMaps x = Check.of("c1 0;h9 0;h0 0;h1 0;h9 0;");
    // 0 in 0 1; 1 in 0 1 2; 2 in 0 1 2 3; 3 in 3
    for (int kind = 1; kind <= 7; kind++) check.due("nothing seen of " + kind, x.next(kind, 0), 15);
    int[] in = {7, 7, 6, 12};
    for (int f = 0; f <= 3; f++) {
      SootMaps y = Check.of("c1 0;h9 0;h0 0;h1 0;h9 0;");
      y.see(f, 3, true);
      check.due("it was in " + f, y.next(3, 0), in[f]);
      y.see(f, 4, false);
      check.due("it was not in " + f, y.next(4, 0), 15 & ~in[f]);
      check.due("another kind", y.next(5, 0), 15);
      y.see(f, 3, false);
      check.due("both", y.next(3, 0), 0);
    }
    x.see(2, 7, true);
    x.see(1, 7, true);
    x.see(3, 7, false);
    x.see(0, 7, true);
    x.see(3, 1, true);
    x.see(0, 7, true);
    check.due("all six: by the five of the kind", x.next(7, 0), 2);
    check.due("all six: by the one of the kind", x.next(1, 0), 12);
    x.run(2, NONE);
    check.due("as it runs now", x.next(7, 0), 2);
    check.due("no houses", Check.of("c0 0;").next(1, 0), 0);
    check.due("no city", new SootMaps().next(1, 0), 0);
    check.due("nine", Check.of("c0 0;" + NINE).next(7, 0), 511);
    check.sentence("LOOKED INTO next: what = 0 who, 1 the FLUE; NONE. OUTSIDE.");
    for (int kind : new int[] {MIN, -1, 0, 8, 9, MAX}) {
      for (int what : new int[] {-1, 0, 1, 2}) check.due("kind " + kind, x.next(kind, what), OUTSIDE);
    }
    for (int what : new int[] {MIN, -1, 2, MAX}) check.due("what " + what, x.next(1, what), OUTSIDE);
  }

  private static void parted() {
    check.sentence("the FLUE by which these are parted best (whose SOOT would lie in it or not): the greatest part is least; of like ones the least; "
      + "NONE: none parts them.");
    check.due("no city", new SootMaps().next(1, 1), NONE);
    check.due("no houses", Check.of("c0 0;").next(1, 1), NONE);
    check.due("one house", Check.of("c0 0;h9 0;").next(1, 1), NONE);
    check.due("two, each alone: the least", Check.of("c0 0;h9 0;h9 0;").next(1, 1), 0);
    check.due("two, 1 in 0 too", Check.of("c0 0;h9 0;h0 0;").next(1, 1), 1);
    check.due("nine in a chain: 5 to 4, then 4 to 5", Check.of("c0 0;h9 0;h0 0;h1 0;h2 0;h3 0;h4 0;h5 0;h6 0;h7 0;").next(1, 1), 4);
    check.due("all into 0: 1 to 8 by each other", Check.of("c0 0;h9 0;h0 0;h0 0;h0 0;h0 0;h0 0;h0 0;h0 0;h0 0;").next(1, 1), 1);
    SootMaps x = Check.of("c0 0;h9 0;h0 0;h0 0;");
    x.see(0, 1, true);
    x.see(1, 1, false);
    check.due("0 and 2", x.next(1, 0), 5);
    check.due("parted by 2", x.next(1, 1), 2);
    x.see(2, 1, false);
    check.due("0 alone", x.next(1, 1), NONE);
    x.see(0, 1, false);
    check.due("nobody", x.next(1, 1), NONE);
    SootMaps y = Check.of("c2 0;h9 0;h0 0;h9 0;h2 0;");
    // 0 in 0; 1 in 0 1; 2 in 1 2; 3 in 2 3
    check.due("two to two: the least of three", y.next(1, 1), 0);
    y.see(0, 1, false);
    check.due("2 and 3", y.next(1, 0), 12);
    check.due("parted by 1", y.next(1, 1), 1);
  }

  private static void book() {
    check.sentence("An entry behind THE BOOK (0 .. 7): how many. UNKNOWN, OUTSIDE, FULL (20).");
    for (int n = 0; n <= 20; n++) {
      SootMaps x = Check.of(STREET);
      for (int i = 1; i <= n; i++) check.due("entry", x.write(i % 4, i % 8), i);
      check.due("entries", x.told(10), n);
      check.due("one more", x.write(3, n % 8), n < 20 ? n + 1 : FULL);
      for (int kind : new int[] {MIN, -1, 8, 9, MAX}) check.due("kind " + kind, x.write(0, kind), OUTSIDE);
      for (int h : new int[] {MIN, -1, 4, 9, MAX}) {
        for (int kind : new int[] {-1, 0, 7, 8}) check.due("house " + h, x.write(h, kind), UNKNOWN);
      }
      check.due("refused: as it was", x.told(10), Math.min(20, n + 1));
    }
    check.due("no city", new SootMaps().write(0, 0), UNKNOWN);
  }

  private static void wrongEntry() {
    check.sentence("THE BOOK (20 at most) tells KINDS of newest LAYERS (0: none): WRONG: the first that is otherwise now; NONE.");
    check.due("no city", new SootMaps().judge(), NONE);
    check.due("no book", Check.of(STREET).judge(), NONE);
    for (int wrong = 0; wrong <= 20; wrong++) {
      SootMaps x = Check.of("c0 0;h9 3;h9 0;");
      x.month(2);
      for (int i = 0; i < 20; i++) {
        if (i == wrong || i == wrong + 3) x.write(0, 4);
        else x.write(i % 2, i % 2 == 0 ? 3 : 0);
      }
      check.due("wrong is " + wrong, x.judge(), wrong == 20 ? NONE : wrong);
      check.due("refused", x.write(0, 5), FULL);
      check.due("as it was", x.judge(), wrong == 20 ? NONE : wrong);
    }
    for (int burns = 0; burns <= 7; burns++) {
      for (int told = 0; told <= 7; told++) {
        SootMaps x = Check.of("c0 1;h9 " + burns + ";");
        x.month(1);
        x.write(0, told);
        check.due("burns " + burns + ", told " + told, x.judge(), burns == told ? NONE : 0);
        x.rain();
        check.due("now there is none", x.judge(), told == 0 ? NONE : 0);
      }
    }
    SootMaps x = Check.of("c0 1;h9 1;");
    x.month(1);
    x.fire(0, 2);
    x.month(1);
    x.write(0, 1);
    check.due("an older layer is not the newest", x.judge(), 0);
    x.rain();
    check.due("it is now", x.judge(), NONE);
  }

  private static void tear() {
    check.sentence("Nothing SEEN, no BOOK: how much both had.");
    check.due("no city", new SootMaps().tear(), 0);
    for (int seen = 0; seen <= 6; seen += 3) {
      for (int entries = 0; entries <= 20; entries += 10) {
        SootMaps x = Check.of(STREET);
        x.month(1);
        for (int i = 0; i < seen; i++) x.see(0, 1, false);
        for (int i = 0; i < entries; i++) x.write(0, 7);
        check.due("seen " + seen + ", entries " + entries, x.tear(), seen + entries);
        check.due("nothing seen", x.told(9), 0);
        check.due("no book", x.told(10), 0);
        check.due("again", x.tear(), 0);
        check.due("all could be", x.next(1, 0), 15);
        check.due("nothing wrong", x.judge(), NONE);
        check.due("no deed", x.told(11), 1);
        for (int i = 1; i <= 6; i++) check.due("seen anew", x.see(0, 1, true), i);
        for (int i = 1; i <= 20; i++) check.due("written anew", x.write(0, 7), i);
      }
    }
  }

  private static void promisesOfRows() {
    check.sentence("BURNED: i = NONE how many, else the i-th; NONE. UNKNOWN, OUTSIDE.");
    SootMaps x = Check.of("c0 0;h9 2;");
    x.month(2);
    check.due("how many of three", x.burned(0, 3, NONE), 3);
    int[] rows = {2 * 8 + 2, 2 * 64 + 2, 2 * 64 + 2 * 8};
    for (int i = 0; i <= 2; i++) check.due("row " + i, x.burned(0, 3, i), rows[i]);
    for (int i : new int[] {MIN, -2, 3, MAX}) check.due("row " + i, x.burned(0, 3, i), NONE);
    for (int i : new int[] {MIN, -2, NONE, 0, MAX}) {
      check.due("n 0, i " + i, x.burned(0, 0, i), OUTSIDE);
      check.due("n 4, i " + i, x.burned(0, 4, i), OUTSIDE);
      check.due("no such house, i " + i, x.burned(1, 0, i), UNKNOWN);
    }
    check.sentence("RING: i = NONE how many, else the i-th; NONE.");
    ringOf("none", Check.of("c0 0;h9 1;s1 0;s0 0;"), NONE, NONE);
    ringOf("two", Check.of("c0 0;h9 1;h9 1;s0 0;s1 0;s3 0;s2 0;"), 1, 3);
    check.sentence("WET. OUTSIDE.");
    int[][] bad = {{-1, 0}, {9, 0}, {0, -1}, {0, 101}, {-1, -1}, {9, 101}, {MIN, 50}, {MAX, 50}, {4, MIN}, {4, MAX}};
    for (int[] b : bad) check.due("wet(" + b[0] + ", " + b[1] + ")", x.wet(b[0], b[1]), OUTSIDE);
    int[][] good = {{0, 0, 1000000000}, {0, 100, 1000000000}, {1, 0, 1000000000}, {1, 100, 0}, {8, 100, 0}, {2, 0, 980000000}};
    for (int[] g : good) check.due("wet(" + g[0] + ", " + g[1] + ")", x.wet(g[0], g[1]), g[2]);
    check.sentence("WRONG; NONE.");
    check.due("no entries", x.judge(), NONE);
    x.write(0, 2);
    check.due("right", x.judge(), NONE);
    x.write(0, 0);
    check.due("the second is wrong", x.judge(), 1);
    x.swept(0);
    check.due("the first is wrong", x.judge(), 0);
    x.undo(1);
    check.due("undone", x.judge(), 1);
  }
}
