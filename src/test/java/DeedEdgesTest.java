/** The boundaries of part 2, of what is DRAWN, UNDONE and kept, and of promises 5 to 17 and 30 to 32. */
public final class DeedEdgesTest {
  private static final int NONE = Check.NONE, UNKNOWN = Check.UNKNOWN, OUTSIDE = Check.OUTSIDE, NOT = Check.NOT,
    FULL = Check.FULL, MAX = Check.MAX, MIN = Check.MIN;
  private static final int[] FAR = {MIN, -1000000001, -2, MAX};
  private static final String STREET = "c1 2;h9 1;h0 2;h1 3;h9 4;s3 5;s6 7;s8 9;";
  private static final Check check = new Check("DeedEdgesTest");

  public static void main(String[] args) {
    eightLayers();
    lesserHousesFirst();
    runsOn();
    wind();
    monthsAreCounted();
    fires();
    rains();
    sweepings();
    falseFlues();
    swaps();
    told();
    house();
    layer();
    sweep();
    month();
    above9000();
    payment();
    draws();
    drawnMonths();
    thirtyAreKept();
    deedsAndOthers();
    sinceTheTextOrImage();
    asAheadOfThem();
    undo();
    images();
    keep();
    goBack();
    seed();
    promisesOfDeeds();
    promisesOfTrade();
    promiseOfDrift();
    check.end();
  }

  private static String flues(SootMaps x) {
    StringBuilder all = new StringBuilder();
    for (int h = 0; h < x.told(3); h++) all.append(h == 0 ? "" : " ").append(Check.flue(x, h));
    return all.toString();
  }

  private static String fluesAfterAMonth(String text) {
    SootMaps x = Check.of(text);
    x.month(1);
    return flues(x);
  }

  // ---- part 2

  private static void eightLayers() {
    check.sentence("A FLUE has LAYERS (8 at most, the newest last; the oldest go when there are more), each of a KIND 1 to 7.");
    SootMaps x = Check.of("c0 0;h9 1;");
    for (int n = 1; n <= 10; n++) {
      x.fire(0, 1 + n % 7);
      check.due("layers of all in month " + n, x.month(1), Math.min(8, n));
      check.due("layers", x.house(0, 2), Math.min(8, n));
    }
    check.due("the oldest two went", Check.flue(x, 0), "45671234");
    check.due("eight in one month", fluesAfterAMonth("c0 0;h9 1;h0 2;h0 3;h0 4;h0 5;h0 6;h0 7;h0 1;"), "12345671 2 3 4 5 6 7 1");
    check.due("nine in one month", fluesAfterAMonth("c0 0;h9 1;h0 2;h0 3;h0 4;h0 5;h0 6;h0 7;h0 1;h0 2;"),
      "23456712 2 3 4 5 6 7 1 2");
    check.due("ten, the wind's too", fluesAfterAMonth("c2 0;h9 1;h0 2;h0 3;h0 4;h0 5;h0 6;h0 7;h0 1;h0 3;").split(" ")[0],
      "23456713");
    x = Check.of("c0 0;h9 7;h9 7;h9 7;h9 7;h9 7;h9 7;h9 7;h9 7;h9 7;");
    check.due("all are full", x.month(30), 72);
    check.due("and stay so", x.month(1), 72);
  }

  private static void lesserHousesFirst() {
    check.sentence("each HOUSE that burns something lays a LAYER of it in its own FLUE, lesser HOUSES first");
    check.due("each its own", fluesAfterAMonth("c0 0;h9 1;h9 7;h9 4;"), "1 7 4");
    check.due("0 is nothing", fluesAfterAMonth("c1 0;h9 0;h0 0;"), " ");
    check.due("0 between others", fluesAfterAMonth("c0 0;h9 1;h0 0;h1 3;"), "13 3 3");
    check.due("the lesser lies below", fluesAfterAMonth("c0 0;h9 5;h0 4;h0 3;"), "543 4 3");
    check.due("no houses", Check.of("c1 0;").month(30), 0);
  }

  private static void runsOn() {
    check.sentence("the same LAYER, in the FLUE into which its own runs, in that into which that runs, and on (behind its own at once)");
    check.due("the longest chain", fluesAfterAMonth("c0 0;h9 0;h0 0;h1 0;h2 0;h3 0;h4 0;h5 0;h6 0;h7 6;"), "6 6 6 6 6 6 6 6 6");
    check.due("from the midst", fluesAfterAMonth("c0 0;h9 0;h0 0;h1 5;h2 0;"), "5 5 5 ");
    check.due("two into one", fluesAfterAMonth("c0 0;h9 0;h0 1;h0 2;h2 3;"), "123 1 23 3");
    check.due("ahead of the next house's", fluesAfterAMonth("c0 0;h9 1;h0 2;h1 3;"), "123 23 3");
    check.due("not into a greater one", fluesAfterAMonth("c0 0;h9 1;h0 0;"), "1 ");
  }

  private static void wind() {
    check.sentence("then, by the WIND, the KIND that it burns, in its neighbour's own FLUE, if there is one there (no further).");
    check.due("none", fluesAfterAMonth("c0 0;h9 1;h9 2;"), "1 2");
    check.due("up, none above the last", fluesAfterAMonth("c1 0;h9 1;h9 2;"), "1 12");
    check.due("down, none below the first", fluesAfterAMonth("c2 0;h9 1;h9 2;"), "12 2");
    check.due("one house, up", fluesAfterAMonth("c1 0;h9 3;"), "3");
    check.due("one house, down", fluesAfterAMonth("c2 0;h9 3;"), "3");
    check.due("nine houses, up", fluesAfterAMonth("c1 0;h9 0;h9 0;h9 0;h9 0;h9 0;h9 0;h9 0;h9 2;h9 3;"), "       2 23");
    check.due("nine houses, down", fluesAfterAMonth("c2 0;h9 1;h9 2;h9 0;h9 0;h9 0;h9 0;h9 0;h9 0;h9 3;"), "12 2      3 3");
    check.due("up, not on where that runs", fluesAfterAMonth("c1 0;h9 0;h9 4;h0 0;"), " 4 4");
    check.due("down, not on where that runs", fluesAfterAMonth("c2 0;h9 0;h0 0;h9 4;"), " 4 4");
    check.due("behind where it runs: twice", fluesAfterAMonth("c2 0;h9 1;h0 2;h1 3;"), "1223 233 3");
    check.due("who burns nothing sends nothing", fluesAfterAMonth("c1 0;h9 0;h9 0;"), " ");
  }

  private static void monthsAreCounted() {
    check.sentence("MONTHS are counted.");
    SootMaps x = Check.of("c0 0;");
    check.due("at first", x.told(6), 0);
    x.month(1);
    check.due("one", x.told(6), 1);
    x.month(30);
    check.due("thirty more", x.told(6), 31);
    x.drift(30);
    check.due("drawn ones too", x.told(6), 61);
    x.rain();
    check.due("a rain is none", x.told(6), 61);
  }

  private static void fires() {
    check.sentence("A FIRE of another KIND: a HOUSE burns that from now on.");
    for (int kind = 0; kind <= 7; kind++) {
      SootMaps x = Check.of("c0 0;h9 3;h9 3;");
      x.month(1);
      check.due("what it burned", x.fire(1, kind), 3);
      check.due("what it burns", x.house(1, 0), kind);
      x.month(2);
      check.due("from now on, it alone", flues(x), kind == 0 ? "333 3" : "333 3" + kind + kind);
      check.due("then", x.fire(1, 5), kind);
    }
  }

  private static void rains() {
    check.sentence("RAIN: the R newest LAYERS of each FLUE go.");
    for (int r = 0; r <= 4; r++) {
      for (int layers = 0; layers <= 8; layers++) {
        SootMaps x = Check.of("c0 " + r + ";h9 0;h9 7;");
        for (int l = 1; l <= layers; l++) {
          x.fire(0, 1 + l % 7);
          x.fire(1, 1);
          x.month(1);
        }
        String ahead = Check.flue(x, 0);
        int left = Math.max(0, layers - r);
        check.due("R " + r + " of " + layers + " in each of two", x.rain(), 2 * (layers - left));
        check.due("the oldest are left", Check.flue(x, 0), ahead.substring(0, left));
        check.due("layers of all", x.told(7), 2 * left);
      }
    }
    SootMaps x = Check.of("c0 3;h9 1;h0 2;h9 0;");
    x.month(1);
    check.due("no more than there are", x.rain(), 3);
    check.due("all are empty", x.told(7), 0);
    check.due("no houses", Check.of("c0 4;").rain(), 0);
  }

  private static void sweepings() {
    check.sentence("SWEPT: a FLUE is empty.");
    SootMaps x = Check.of("c0 0;h9 1;h0 2;h9 0;");
    check.due("empty already", x.swept(0), 0);
    x.month(5);
    check.due("eight", x.swept(0), 8);
    check.due("it alone", flues(x), " 22222 ");
    check.due("five", x.swept(1), 5);
    check.due("none", x.swept(2), 0);
    x.month(1);
    check.due("laid anew", flues(x), "12 2 ");
    for (int h : new int[] {-1, 3, 9}) check.due("no such house", x.swept(h), UNKNOWN);
    for (int h : FAR) check.due("no such house", x.swept(h), UNKNOWN);
  }

  private static void falseFlues() {
    check.sentence("A FALSE FLUE: a HOUSE's FLUE runs into that of a lesser one (or into none) from now on.");
    String nine = "c0 0;h9 1;h9 1;h9 1;h9 1;h9 1;h9 1;h9 1;h9 1;h9 1;";
    for (int h = 0; h <= 8; h++) {
      SootMaps x = Check.of(nine);
      int before = NONE;
      for (int f = -3; f <= 10; f++) {
        boolean isGood = f == NONE || f >= 0 && f < h;
        check.due("run(" + h + ", " + f + ")", x.run(h, f), isGood ? before : UNKNOWN);
        before = isGood ? f : before;
        check.due("runs", x.house(h, 1), before);
      }
      for (int f : FAR) check.due("far off", x.run(h, f), UNKNOWN);
    }
    SootMaps x = Check.of("c0 0;h9 1;h0 2;h0 0;");
    x.month(1);
    x.run(1, NONE);
    x.month(1);
    check.due("from now on", flues(x), "121 22 ");
    for (int h : new int[] {-1, 3, 9, MIN, MAX}) check.due("no such house", x.run(h, NONE), UNKNOWN);
    check.due("what lies stays", flues(x), "121 22 ");
    check.sentence("UNKNOWN (f neither a lesser HOUSE nor NONE)");
    check.due("itself", x.run(1, 1), UNKNOWN);
    check.due("a greater one", x.run(1, 2), UNKNOWN);
    check.due("the first into itself", x.run(0, 0), UNKNOWN);
    check.due("below NONE", x.run(1, -2), UNKNOWN);
    check.due("the text's word for none", x.run(2, 9), UNKNOWN);
    check.due("NONE", x.run(1, NONE), NONE);
    check.due("the greatest lesser one", x.run(2, 1), 0);
  }

  private static void swaps() {
    check.sentence("SWAPPED: one SWEEP gives one that he KNOWS (he KNOWS it on) to another one who does not, for one that he "
      + "does not KNOW and the other one does");
    // all that two sweeps can know of two houses, all that they can ask for
    for (int ofS = 0; ofS <= 3; ofS++) {
      for (int ofZ = 0; ofZ <= 3; ofZ++) {
        for (int a = 0; a <= 1; a++) {
          SootMaps x = Check.of("c0 0;h9 1;h9 1;s" + ofS + " 5;s" + ofZ + " 7;");
          int b = 1 - a;
          boolean isGood = ofS == 1 << a && ofZ == 1 << b;
          check.due("swap of " + ofS + ", " + ofZ, x.swap(0, a, 1, b), isGood ? 3 : NOT);
          check.due("s knows", x.sweep(0, 0), isGood ? 3 : ofS);
          check.due("z knows", x.sweep(1, 0), isGood ? 3 : ofZ);
          check.due("deeds", x.told(11), isGood ? 1 : 0);
          check.due("nothing is paid", x.told(8), 0);
        }
      }
    }
    SootMaps x = Check.of("c0 0;h9 1;h9 1;h9 1;h9 1;h9 1;h9 1;h9 1;h9 1;h9 1;s0 0;s0 0;s0 0;s256 0;s1 0;");
    check.due("the last sweeps, the first and the last house", x.swap(3, 8, 4, 0), 257);
    check.due("z knows", x.sweep(4, 0), 257);
    check.sentence("UNKNOWN (a HOUSE, SWEEP, IMAGE that there is not; one twice, where two are asked; bits of such)");
    check.due("a sweep twice", x.swap(3, 8, 3, 0), UNKNOWN);
    check.due("a house twice", x.swap(3, 8, 0, 8), UNKNOWN);
    check.due("a sweep twice", x.pay(3, 3, 1), UNKNOWN);
    check.due("a sweep that there is not", x.swap(5, 8, 0, 0), UNKNOWN);
    check.due("a house that there is not", x.swap(3, 9, 0, 0), UNKNOWN);
    check.due("an image that there is not", x.keep(2), UNKNOWN);
    check.due("bits of such", x.trade(3, 512, NONE), UNKNOWN);
  }

  private static void payment() {
    check.sentence("or is PAID the PRICE of who gives");
    for (int ofS = 0; ofS <= 1; ofS++) {
      for (int ofZ = 0; ofZ <= 1; ofZ++) {
        SootMaps x = Check.of("c0 0;h9 1;s" + ofS + " 5;s" + ofZ + " 99;");
        boolean isGood = ofS == 0 && ofZ == 1;
        check.due("pay of " + ofS + ", " + ofZ, x.pay(0, 1, 0), isGood ? 99 : NOT);
        check.due("s knows", x.sweep(0, 0), isGood ? 1 : ofS);
        check.due("z knows it on", x.sweep(1, 0), ofZ);
        check.due("s paid", x.sweep(0, 2), isGood ? 99901 : 100000);
        check.due("z was paid", x.sweep(1, 2), isGood ? 100099 : 100000);
        check.due("together", x.told(8), isGood ? 99 : 0);
      }
    }
    SootMaps x = Check.of("c0 0;h9 1;s0 5;s1 0;");
    check.due("a price of 0", x.pay(0, 1, 0), 0);
    check.due("is a deed too", x.told(11), 1);
    x = Check.of("c0 0;h9 1;h9 1;h9 1;h9 1;h9 1;h9 1;h9 1;h9 1;h9 1;s0 99;s0 99;s0 99;s0 99;s511 99;");
    for (int s = 0; s <= 3; s++) for (int h = 0; h <= 8; h++) x.pay(s, 4, h);
    check.due("the most that can be paid", x.told(8), 4 * 9 * 99);
    check.due("to the last sweep", x.sweep(4, 2), 100000 + 4 * 9 * 99);
    check.due("by each", x.sweep(3, 2), 100000 - 9 * 99);
  }

  // ---- what is told

  private static void told() {
    check.sentence("0 1 there is a CITY, 0 not, 1 W, 2 R, 3 HOUSES, 4 SWEEPS, 5 letters of THE TEXT, 6 MONTHS, 7 LAYERS of all, "
      + "8 what was PAID together, 9 what was SEEN, 10 entries of THE BOOK, 11 how many can be undone. OUTSIDE.");
    SootMaps x = Check.of("c2 4;h9 1;h0 2;h0 3;s1 11;s2 13;");
    Check.feed(x, "c0 0;");
    x.month(7);
    x.pay(0, 1, 1);
    for (int i = 0; i < 6; i++) x.see(0, 1, true);
    for (int i = 0; i < 20; i++) x.write(0, 1);
    int[] due = {1, 2, 4, 3, 2, 5, 7, 8 + 8 + 7, 13, 6, 20, 8};
    for (int what = 0; what <= 11; what++) check.due("told(" + what + ")", x.told(what), due[what]);
    SootMaps none = new SootMaps();
    for (int what = 0; what <= 11; what++) check.due("no city, told(" + what + ")", none.told(what), 0);
    for (int what : new int[] {MIN, -2, -1, 12, 13, MAX}) {
      check.due("told(" + what + ")", x.told(what), OUTSIDE);
      check.due("no city, told(" + what + ")", none.told(what), OUTSIDE);
    }
    SootMaps bare = Check.of("c0 0;");
    check.due("a city without houses is one", bare.told(0), 1);
  }

  private static void house() {
    check.sentence("what = 0 what it burns, 1 into which its FLUE runs (NONE), 2 how many LAYERS, 3 the newest KIND (0: none). "
      + "UNKNOWN, OUTSIDE.");
    SootMaps x = Check.of("c0 0;h9 7;h0 0;h0 2;");
    check.due("no layers", x.house(0, 2), 0);
    check.due("no newest", x.house(0, 3), 0);
    x.month(4);
    int[][] due = {{7, NONE, 8, 2}, {0, 0, 0, 0}, {2, 0, 4, 2}};
    for (int h = 0; h <= 2; h++) {
      for (int what = 0; what <= 3; what++) check.due("house(" + h + ", " + what + ")", x.house(h, what), due[h][what]);
      for (int what : new int[] {MIN, -1, 4, MAX}) check.due("house(" + h + ", " + what + ")", x.house(h, what), OUTSIDE);
    }
    for (int h : new int[] {MIN, -1, 3, 8, 9, MAX}) {
      for (int what : new int[] {-1, 0, 3, 4}) check.due("house(" + h + ", " + what + ")", x.house(h, what), UNKNOWN);
    }
    check.due("without houses", Check.of("c0 0;").house(0, 0), UNKNOWN);
  }

  private static void layer() {
    check.sentence("The KIND of a LAYER (0 the oldest); 0: there is none. UNKNOWN, OUTSIDE (0 .. 7).");
    for (int layers = 0; layers <= 9; layers++) {
      SootMaps x = Check.of("c0 0;h9 1;h9 0;");
      for (int l = 1; l <= layers; l++) {
        x.fire(0, 1 + l % 7);
        x.month(1);
      }
      int gone = Math.max(0, layers - 8);
      for (int l = 0; l <= 7; l++) {
        check.due("layer " + l + " of " + layers, x.layer(0, l), l < layers - gone ? 1 + (l + 1 + gone) % 7 : 0);
        check.due("of an empty flue", x.layer(1, l), 0);
      }
      for (int l : new int[] {MIN, -1, 8, 9, MAX}) check.due("layer(0, " + l + ")", x.layer(0, l), OUTSIDE);
      for (int h : new int[] {MIN, -1, 2, MAX}) {
        for (int l : new int[] {-1, 0, 7, 8}) check.due("layer(" + h + ", " + l + ")", x.layer(h, l), UNKNOWN);
      }
    }
  }

  private static void sweep() {
    check.sentence("what = 0 what he KNOWS (a SET), 1 his PRICE, 2 what he was PAID less what he PAID, and 100000. UNKNOWN, OUTSIDE.");
    SootMaps x = Check.of("c0 0;h9 1;h9 1;s0 0;s3 99;s1 4;");
    x.pay(0, 1, 0);
    x.pay(2, 1, 1);
    x.pay(0, 2, 1);
    int[][] due = {{3, 0, 99897}, {3, 99, 100198}, {3, 4, 99905}};
    for (int s = 0; s <= 2; s++) {
      for (int what = 0; what <= 2; what++) check.due("sweep(" + s + ", " + what + ")", x.sweep(s, what), due[s][what]);
      for (int what : new int[] {MIN, -1, 3, MAX}) check.due("sweep(" + s + ", " + what + ")", x.sweep(s, what), OUTSIDE);
    }
    for (int s : new int[] {MIN, -1, 3, 4, 5, MAX}) {
      for (int what : new int[] {-1, 0, 2, 3}) check.due("sweep(" + s + ", " + what + ")", x.sweep(s, what), UNKNOWN);
    }
    check.due("without sweeps", Check.of("c0 0;h9 1;").sweep(0, 0), UNKNOWN);
  }

  // ---- months

  private static void month() {
    check.sentence("n MONTHS (1 .. 30): LAYERS of all. OUTSIDE, NOT: no CITY; FULL: MONTHS are above 9000.");
    for (int n = 1; n <= 30; n++) {
      SootMaps x = Check.of("c0 0;h9 1;h9 0;");
      check.due("month(" + n + ")", x.month(n), Math.min(n, 8));
      check.due("months", x.told(6), n);
      check.due("deeds", x.told(11), n);
    }
    SootMaps none = new SootMaps();
    SootMaps x = Check.of("c0 0;h9 1;");
    for (int n : new int[] {MIN, -1, 0, 31, 32, MAX}) {
      check.due("month(" + n + ")", x.month(n), OUTSIDE);
      check.due("drift(" + n + ")", x.drift(n), OUTSIDE);
      check.due("no city, month(" + n + ")", none.month(n), OUTSIDE);
      check.due("no city, drift(" + n + ")", none.drift(n), OUTSIDE);
    }
    for (int n : new int[] {1, 30}) {
      check.due("no city", none.month(n), NOT);
      check.due("no city", none.drift(n), NOT);
    }
    check.due("a city without houses", Check.of("c0 0;").month(30), 0);
  }

  private static SootMaps aged(int months) {
    SootMaps x = Check.of("c0 0;h9 1;");
    for (int m = 0; m < months; m += 30) x.month(Math.min(30, months - m));
    return x;
  }

  private static void above9000() {
    check.sentence("FULL: MONTHS are above 9000.");
    for (int months = 8999; months <= 9002; months++) {
      boolean isFull = months > 9000;
      for (int n : new int[] {1, 30}) {
        SootMaps x = aged(months);
        check.due("months", x.told(6), months);
        check.due("month(" + n + ") at " + months, x.month(n), isFull ? FULL : 8);
        check.due("months then", x.told(6), isFull ? months : months + n);
        SootMaps y = aged(months);
        int drifted = y.drift(n);
        check.due("drift(" + n + ") at " + months, drifted == FULL ? 1 : 0, isFull ? 1 : 0);
        check.due("months then", y.told(6), isFull ? months : months + n);
        check.due("drawn", y.seed(0) == 0 ? 0 : 1, isFull ? 0 : 1);
      }
    }
    SootMaps x = aged(9001);
    check.due("outside ahead of full", x.month(31), OUTSIDE);
    check.due("outside ahead of full", x.drift(0), OUTSIDE);
    check.due("other deeds are not full", x.swept(0), 8);
    x.undo(2);
    check.due("undone to 9000: not full", x.month(1), 8);
    check.due("full again", x.month(1), FULL);
  }

  private static long drawn(long seed, int draws) {
    long v = seed;
    for (int d = 0; d < draws; d++) v = (v * 1103515245L + 12345L) % 2147483648L;
    return v;
  }

  private static void draws() {
    check.sentence("THE SEED (0 at first: each DRAW it becomes it times 1103515245 and 12345, left over by 2 to the 31");
    check.due("at first", new SootMaps().seed(0), 0);
    for (int v : new int[] {0, 1, 2, 65535, 65536, 1 << 30, MAX - 1, MAX}) {
      SootMaps x = Check.of("c0 0;");
      x.seed(v);
      x.drift(1);
      check.due("one draw of " + v, x.seed(v), (int) drawn(v, 1));
      x.drift(30);
      check.due("thirty", x.seed(v), (int) drawn(v, 30));
    }
  }

  private static void drawnMonths() {
    check.sentence("n MONTHS: ahead of each, if there are HOUSES, a DRAW of these, whose FIRE is of the KIND of a DRAW of 8; then (in "
      + "any case) a DRAW of 4: on 0 RAIN behind the MONTH.");
    for (int houses = 0; houses <= 9; houses++) {
      for (int v = 0; v < 40; v++) {
        SootMaps x = Check.of("c0 1;" + "h9 1;".repeat(houses));
        x.seed(v);
        int all = x.drift(1);
        int draws = houses > 0 ? 3 : 1;
        int h = houses > 0 ? (int) (drawn(v, 1) / 65536 % houses) : NONE;
        int kind = (int) (drawn(v, 2) / 65536 % 8);
        boolean isWet = drawn(v, draws) / 65536 % 4 == 0;
        int dry = houses > 0 && kind == 0 ? houses - 1 : houses;
        check.due("layers of all of " + houses, all, isWet ? 0 : dry);
        for (int g = 0; g < houses; g++) check.due("burns", x.house(g, 0), g == h ? kind : 1);
        check.due("draws", x.seed(0), (int) drawn(v, draws));
        check.due("one deed", x.told(11), 1);
        check.due("undone: the month, fire and rain", x.undo(1), 0);
        for (int g = 0; g < houses; g++) check.due("burns as ahead", x.house(g, 0), 1);
      }
    }
    SootMaps a = Check.of(STREET);
    SootMaps b = Check.of(STREET);
    a.drift(30);
    for (int m = 0; m < 30; m++) b.drift(1);
    check.due("thirty at once are thirty one by one", Check.state(a), Check.state(b));
    check.due("and their seed", a.seed(0), b.seed(0));
  }

  // ---- undone, kept

  /** Fires of one house as a row of figures: what it burns tells how many are undone. */
  private static void thirtyAreKept() {
    check.sentence("(30 at most are kept)");
    for (int deeds = 0; deeds <= 65; deeds++) {
      SootMaps x = Check.of("c0 0;h9 0;");
      for (int d = 1; d <= deeds; d++) x.fire(0, d % 8);
      int kept = Math.min(30, deeds);
      check.due("kept of " + deeds, x.told(11), kept);
      for (int left = deeds - 1; left >= deeds - kept; left--) {
        check.due("undone", x.undo(1), 0);
        check.due("burns behind " + left + " of " + deeds, x.house(0, 0), left % 8);
        check.due("kept", x.told(11), left - deeds + kept);
      }
      check.due("no more", x.undo(1), NOT);
    }
    for (int n = 1; n <= 30; n++) {
      SootMaps x = Check.of("c0 0;h9 0;");
      for (int d = 1; d <= 47; d++) x.fire(0, d % 8);
      x.undo(n);
      check.due("at once " + n, x.house(0, 0), (47 - n) % 8);
      check.due("left", x.told(11), 30 - n);
    }
    for (int n = 1; n <= 29; n++) {
      SootMaps x = Check.of("c0 0;h9 0;");
      for (int d = 1; d <= 47; d++) x.fire(0, d % 8);
      x.undo(n);
      for (int d = 1; d <= n; d++) x.swept(0);
      x.fire(0, 7);
      check.due("kept again", x.told(11), 30);
      x.undo(1);
      x.undo(n);
      check.due("and undone again", x.house(0, 0), (47 - n) % 8);
      check.due("the rest", x.told(11), 29 - n);
    }
    SootMaps x = Check.of("c0 0;h9 1;");
    x.fire(0, 2);
    x.month(30);
    check.due("months push out what is older", x.undo(30), 0);
    check.due("the fire stays", x.house(0, 0), 2);
  }

  private static void deedsAndOthers() {
    check.sentence("UNDONE: the latest deeds (fire(), rain(), swept(), run(), swap(), pay(), each MONTH, with what is DRAWN)");
    String[] deeds = {"fire 0 1", "fire 0 5", "rain", "swept 0", "run 2 1", "run 2 -1", "swap 0 0 1 2", "pay 0 2 3", "month 1",
      "drift 1"};
    for (String words : deeds) {
      SootMaps x = Check.of(STREET);
      x.month(2);
      String before = Check.state(x);
      Calls.call(x, words);
      check.due(words + " is one", x.told(11), 3);
      check.due(words + " is undone", x.undo(1), 2);
      check.due(words + ", undone", Check.state(x), before);
    }
    for (int n = 1; n <= 30; n++) {
      SootMaps x = Check.of(STREET);
      x.month(n);
      check.due("each month", x.told(11), n);
      x.keep(0);
      x.drift(n);
      check.due("each drawn month", x.told(11), n);
    }
    String[] others = {"feed 99", "fault", "told 0", "house 0 0", "layer 0 0", "sweep 0 0", "burned 0 1 -1", "sure 0 1 1", "flues 0 0",
      "trade 0 1 -1", "ring -1", "brushes 1 0", "wet 1 1", "see 0 1 1", "next 1 0", "write 0 1", "judge", "tear", "seed 4",
      "month 0", "fire 0 8", "swept 9", "run 0 0", "swap 0 0 1 1", "pay 0 0 0", "pay 1 0 1", "drift 31", "undo 31", "keep 2",
      "goBack 0"};
    for (String words : others) {
      SootMaps x = Check.of(STREET);
      x.month(2);
      Calls.call(x, words);
      check.due(words, x.told(11), 2);
    }
  }

  private static void sinceTheTextOrImage() {
    check.sentence("since the text or IMAGE");
    String[] ends = {"keep 0", "keep 1", "goBack 0"};
    for (String words : ends) {
      SootMaps x = Check.of(STREET);
      x.keep(0);
      x.month(3);
      check.due("ahead of " + words, x.told(11), 3);
      Calls.call(x, words);
      check.due(words, x.told(11), 0);
      check.due(words + ", undo", x.undo(1), NOT);
      x.fire(0, 7);
      check.due("behind it", x.undo(2), NOT);
      check.due("behind it", x.told(11), 1);
    }
    SootMaps x = Check.of(STREET);
    x.month(3);
    Check.tell(x, "c9 9;");
    check.due("a text with a fault", x.told(11), 3);
    Check.tell(x, STREET);
    check.due("a text", x.told(11), 0);
    x.month(3);
    x.city();
    check.due("an empty text", x.told(11), 0);
    check.due("an empty text, undo", x.undo(1), NOT);
  }

  private static void asAheadOfThem() {
    check.sentence("FLUES, FIRES, where they run, who KNOWS what, MONTHS, what was PAID are as ahead of them; THE SEED stays.");
    SootMaps x = Check.of(STREET);
    x.see(0, 1, true);
    x.write(0, 0);
    String before = Check.state(x);
    String[] deeds = "month 2|fire 0 5|rain|swept 1|run 2 0|swap 0 0 1 2|pay 0 2 3|drift 2".split("\\|");
    for (String words : deeds) Calls.call(x, words);
    int seed = (int) drawn(0, 6);
    check.due("all ten", x.undo(10), 0);
    check.due("as ahead", Check.state(x), before);
    check.due("the seed", x.seed(8), seed);
    x.drift(1);
    x.seed(5);
    x.see(1, 1, true);
    x.write(1, 1);
    x.undo(1);
    check.due("a seed that was given", x.seed(0), 5);
    check.due("what was seen", x.told(9), 2);
    check.due("the book", x.told(10), 2);
  }

  private static void undo() {
    check.sentence("The n latest (1 .. 30) are undone: MONTHS. OUTSIDE, NOT: not so many.");
    for (int deeds = 0; deeds <= 31; deeds++) {
      for (int n : new int[] {MIN, -1, 0, 1, deeds - 1, deeds, deeds + 1, 29, 30, 31, MAX}) {
        SootMaps x = Check.of("c0 0;h9 1;");
        for (int d = 0; d < deeds; d++) x.month(1);
        int due = n < 1 || n > 30 ? OUTSIDE : n > deeds ? NOT : deeds - n;
        check.due("undo(" + n + ") of " + deeds, x.undo(n), due);
        check.due("months", x.told(6), due < 0 ? deeds : due);
        check.due("left", x.told(11), due < 0 ? Math.min(30, deeds) : Math.min(30, deeds) - n);
      }
    }
    check.due("no city", new SootMaps().undo(1), NOT);
    check.due("no city, outside ahead", new SootMaps().undo(31), OUTSIDE);
  }

  private static void images() {
    check.sentence("IMAGES 0, 1 keep these, THE SEED.");
    for (int i = 0; i <= 1; i++) {
      SootMaps x = Check.of(STREET);
      x.drift(3);
      x.pay(0, 1, 2);
      x.run(3, 2);
      int seed = (int) drawn(0, 9);
      x.keep(i);
      String kept = Check.state(x);
      x.drift(5);
      x.fire(0, 1);
      x.run(3, NONE);
      x.pay(1, 0, 0);
      x.swap(0, 0, 2, 3);
      x.swept(1);
      x.seed(4);
      check.due("go back to " + i, x.goBack(i), 1);
      check.due("as kept", Check.state(x), kept);
      check.due("the seed as kept", x.seed(3), seed);
      x.see(0, 1, true);
      x.write(0, 1);
      x.month(1);
      check.due("a second time", x.goBack(i), 1);
      check.due("the seed as kept", x.seed(3), seed);
      check.due("what was seen is no part of it", x.told(9), 1);
      check.due("nor the book", x.told(10), 1);
      x.tear();
      check.due("as kept", Check.state(x), kept);
    }
  }

  private static void keep() {
    check.sentence("IMAGE i becomes what is so (nothing can be undone then): 1. UNKNOWN.");
    for (int i : new int[] {MIN, -1, 2, 3, MAX}) check.due("keep(" + i + ")", Check.of(STREET).keep(i), UNKNOWN);
    SootMaps x = Check.of(STREET);
    check.due("the first", x.keep(0), 1);
    x.month(1);
    check.due("the second", x.keep(1), 1);
    check.due("nothing can be undone", x.told(11), 0);
    x.month(1);
    check.due("the first anew", x.keep(0), 1);
    x.month(1);
    check.due("the second", x.goBack(1), 1);
    check.due("is as it was kept", x.told(6), 1);
    check.due("the first", x.goBack(0), 1);
    check.due("is as it was kept last", x.told(6), 2);
    SootMaps none = new SootMaps();
    check.due("no city", none.keep(0), 1);
    none.seed(9);
    check.due("no city", none.goBack(0), 1);
    check.due("its seed", none.seed(0), 0);
  }

  private static void goBack() {
    check.sentence("What is so becomes IMAGE i (nothing can be undone then): 1. UNKNOWN, NOT: it was not kept.");
    SootMaps x = Check.of(STREET);
    for (int i : new int[] {MIN, -1, 2, 3, MAX}) check.due("goBack(" + i + ")", x.goBack(i), UNKNOWN);
    for (int i = 0; i <= 1; i++) check.due("not kept", x.goBack(i), NOT);
    x.keep(1);
    x.month(2);
    check.due("the other was not kept", x.goBack(0), NOT);
    check.due("refused: can be undone", x.told(11), 2);
    check.due("kept", x.goBack(1), 1);
    check.due("nothing can be undone", x.told(11), 0);
    Check.tell(x, "c0");
    check.due("a text with a fault leaves it", x.goBack(1), 1);
    Check.tell(x, STREET);
    check.due("a text does not", x.goBack(1), NOT);
    check.due("on a new object", new SootMaps().goBack(0), NOT);
  }

  private static void seed() {
    check.sentence("THE SEED becomes v (0 .. 2147483647): what it was. OUTSIDE.");
    SootMaps x = new SootMaps();
    check.due("the greatest", x.seed(MAX), 0);
    for (int v : new int[] {MIN, MIN + 1, -2, -1}) check.due("seed(" + v + ")", x.seed(v), OUTSIDE);
    check.due("the least", x.seed(0), MAX);
    check.due("one", x.seed(1), 0);
    check.due("what it was", x.seed(MAX - 1), 1);
    check.due("what it was", x.seed(0), MAX - 1);
  }

  // ---- the deeds' own promises

  private static void promisesOfDeeds() {
    check.sentence("A FIRE (0 .. 7): what it burned. UNKNOWN, OUTSIDE.");
    SootMaps x = Check.of(STREET);
    int before = 4;
    for (int kind : new int[] {0, 7, 0, 1, 1}) {
      check.due("fire(3, " + kind + ")", x.fire(3, kind), before);
      before = kind;
    }
    for (int kind : new int[] {MIN, -1, 8, 9, MAX}) check.due("fire(0, " + kind + ")", x.fire(0, kind), OUTSIDE);
    for (int h : new int[] {MIN, -1, 4, 9, MAX}) {
      for (int kind : new int[] {-1, 0, 7, 8}) check.due("fire(" + h + ", " + kind + ")", x.fire(h, kind), UNKNOWN);
    }
    check.due("burns as it did", x.house(0, 0), 1);
    check.sentence("RAIN: LAYERS that went. NOT: no CITY.");
    x = Check.of(STREET);
    check.due("none lie there", x.rain(), 0);
    x.month(1);
    check.due("two of each", x.rain(), 8);
    check.due("one of two", x.rain(), 2);
    check.due("no city", new SootMaps().rain(), NOT);
    x.city();
    check.due("no city any more", x.rain(), NOT);
    check.due("no deed", x.told(11), 0);
    check.sentence("SWEPT: LAYERS that went. UNKNOWN.");
    x = Check.of(STREET);
    x.month(1);
    int[] gone = {3, 3, 2, 2};
    for (int h = 0; h <= 3; h++) {
      check.due("swept(" + h + ")", x.swept(h), gone[h]);
      check.due("swept(" + h + ") again", x.swept(h), 0);
    }
    for (int h : new int[] {MIN, -1, 4, 9, MAX}) check.due("swept(" + h + ")", x.swept(h), UNKNOWN);
    check.due("no city", new SootMaps().swept(0), UNKNOWN);
    check.sentence("A FALSE FLUE: into which it ran (NONE).");
    x = Check.of(STREET);
    check.due("into 1", x.run(2, NONE), 1);
    check.due("into none", x.run(2, NONE), NONE);
    check.due("into none", x.run(2, 0), NONE);
    check.due("into 0", x.run(2, 1), 0);
    check.due("the first into none", x.run(0, NONE), NONE);
    check.due("five deeds", x.told(11), 5);
  }

  private static void promisesOfTrade() {
    check.sentence("SWAPPED: SWEEP s gives the map of HOUSE a to SWEEP z for that of HOUSE b: what s KNOWS then.");
    SootMaps x = Check.of(STREET);
    check.due("0 gives 0 for 2", x.swap(0, 0, 1, 2), 7);
    check.due("1 knows", x.sweep(1, 0), 7);
    check.due("2 gives 3 for 1", x.swap(2, 3, 0, 1), 10);
    check.due("0 knows", x.sweep(0, 0), 15);
    check.due("the same again", x.swap(2, 3, 0, 1), NOT);
    check.due("the other way round", x.swap(0, 1, 2, 3), NOT);
    check.due("deeds", x.told(11), 2);
    check.sentence("SWEEP s pays SWEEP z for the map of a HOUSE: the PRICE.");
    x = Check.of(STREET);
    check.due("0 pays 1", x.pay(0, 1, 2), 7);
    check.due("2 pays 0 for it", x.pay(2, 0, 2), 5);
    check.due("1 pays 2", x.pay(1, 2, 3), 9);
    check.due("0", x.sweep(0, 2), 99998);
    check.due("1", x.sweep(1, 2), 99998);
    check.due("2", x.sweep(2, 2), 100004);
    check.due("together", x.told(8), 21);
    check.due("known already", x.pay(0, 1, 2), NOT);
    check.due("not known to him", x.pay(1, 2, 0), NOT);
    check.due("not known to him, known to the other", x.pay(0, 2, 1), NOT);
    check.due("deeds", x.told(11), 3);
  }

  private static void promiseOfDrift() {
    check.sentence("n MONTHS BY DRAWS (1 .. 30): LAYERS of all. OUTSIDE, NOT: no CITY;");
    for (int n = 1; n <= 30; n++) {
      SootMaps x = Check.of("c1 0;h9 1;h0 2;h9 3;");
      int all = x.drift(n);
      check.due("layers of all", all, x.told(7));
      check.due("months", x.told(6), n);
      check.due("deeds", x.told(11), n);
      check.due("three draws a month", x.seed(0), (int) drawn(0, 3 * n));
    }
    SootMaps x = Check.of(STREET);
    SootMaps none = new SootMaps();
    none.seed(5);
    for (int n : new int[] {MIN, -1, 0, 31, 32, MAX}) {
      check.due("drift(" + n + ")", x.drift(n), OUTSIDE);
      check.due("no city, drift(" + n + ")", none.drift(n), OUTSIDE);
    }
    for (int n : new int[] {1, 30}) check.due("no city, drift(" + n + ")", none.drift(n), NOT);
    check.due("nothing is drawn", x.seed(0), 0);
    check.due("nothing is drawn", none.seed(0), 5);
  }
}
