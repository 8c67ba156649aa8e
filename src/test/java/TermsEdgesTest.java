/** The sentences of "Terms" on which all promises rest, and how long an object is used. */
public final class TermsEdgesTest {
  private static final int NONE = Check.NONE, NOT = Check.NOT, FULL = Check.FULL;
  private static final Check check = new Check("TermsEdgesTest");

  public static void main(String[] args) {
    cutsTowardsZero();
    fromZeroOn();
    sets();
    constants();
    maps();
    theLastCall();
    check.end();
  }

  private static void cutsTowardsZero() {
    check.sentence("All numbers are whole; / cuts towards 0.");
    SootMaps x = new SootMaps();
    // times 51, 49, 47, 45, 43, 41, 39, 37 of a hundred; the fifth is 22727155.5, each behind it is cut too
    int[] due = {1000000000, 510000000, 249900000, 117453000, 52853850, 22727155, 9318133, 3634071, 1344606};
    for (int n = 0; n <= 8; n++) check.due("wet(" + n + ", 49)", x.wet(n, 49), due[n]);
    // a single house burns the kind of the second draw
    x = Check.of("c0 0;h9 1;");
    for (int v = 0; v < 100; v++) {
      x.seed(v);
      x.drift(1);
      long second = ((v * 1103515245L + 12345) % 2147483648L * 1103515245L + 12345) % 2147483648L;
      check.due("the kind drawn from " + v, x.house(0, 0), (int) (second / 65536 % 8));
    }
    check.sentence("the DRAW of n is it / 65536, left over by n");
    for (int houses = 1; houses <= 9; houses++) {
      SootMaps y = Check.of("c0 0;" + "h9 0;".repeat(houses));
      for (int v = 0; v < 40; v++) {
        y.seed(v * 50000000);
        y.keep(0);
        y.drift(1);
        long first = (v * 50000000L * 1103515245L + 12345) % 2147483648L;
        long second = (first * 1103515245L + 12345) % 2147483648L;
        int h = (int) (first / 65536 % houses);
        check.due("the house drawn of " + houses, y.house(h, 0), (int) (second / 65536 % 8));
        y.goBack(0);
      }
    }
  }

  private static void fromZeroOn() {
    check.sentence("What has a number has it from 0 on, as it comes.");
    SootMaps x = Check.of("c0 0;h9 7;s1 4;h9 6;s3 5;h9 5;");
    for (int h = 0; h <= 2; h++) check.due("house " + h, x.house(h, 0), 7 - h);
    for (int s = 0; s <= 1; s++) check.due("sweep " + s, x.sweep(s, 1), 4 + s);
    x.month(1);
    x.fire(0, 1);
    x.month(1);
    check.due("the oldest layer is 0", x.layer(0, 0), 7);
    check.due("the next is 1", x.layer(0, 1), 1);
    x.write(0, 2);
    check.due("the first entry is 0", x.judge(), 0);
    check.due("the first row is 0", x.burned(0, 2, 0), 7 * 8 + 1);
    x.keep(0);
    check.due("the first image is 0", x.goBack(0), 1);
    Check.tell(x, ";");
    check.due("the first letter is 0", x.fault(), 0);
    SootMaps y = Check.of("c0 0;h9 1;h9 1;s1 0;s2 0;");
    check.due("the first of the ring is 0", y.ring(0), 0);
  }

  private static void sets() {
    check.sentence("A SET is a whole number, bit k for k.");
    for (int h = 0; h <= 8; h++) {
      SootMaps x = Check.of("c0 0;h9 1;h9 1;h9 1;h9 1;h9 1;h9 1;h9 1;h9 1;h9 1;s" + (1 << h) + " 3;s0 0;");
      check.due("knows " + h, x.sweep(0, 0), 1 << h);
      check.due("of which he can give", x.pay(1, 0, h), 3);
      check.due("which the other knows", x.sweep(1, 0), 1 << h);
      check.due("soot of " + h, x.flues(h, 0), 1 << h);
      check.due("trade of it alone", x.trade(1, 1 << h, NONE), 0);
      x.fire(h, 2);
      x.month(1);
      check.due("like it", x.flues(h, 2), 1 << h);
      x.see(h, 4, true);
      check.due("who", x.next(4, 0), 1 << h);
      if (h > 0) {
        x.run(h, 0);
        check.due("heat", x.flues(0, 1), 1 << h);
      }
    }
    check.sentence("SWEEPS KNOW whose maps they have (a SET)");
    SootMaps x = Check.of("c0 0;h9 1;h9 1;h9 1;h9 1;h9 1;h9 1;h9 1;h9 1;h9 1;s0 3;s511 0;");
    check.due("none", x.sweep(0, 0), 0);
    check.due("all", x.sweep(1, 0), 511);
    for (int h = 8; h >= 0; h--) {
      x.pay(0, 1, h);
      check.due("from " + h + " on", x.sweep(0, 0), 511 & -1 << h);
    }
  }

  private static void constants() {
    check.sentence("NONE is -1.");
    check.due("NONE", SootMaps.NONE, -1);
    check.due("where nothing runs", Check.of("c0 0;h9 1;").house(0, 1), -1);
    check.sentence("BILLION is 1000000000.");
    check.due("all is read rightly", new SootMaps().wet(0, 0), 1000000000);
    check.due("one of which nothing is read wrongly", new SootMaps().wet(1, 0), 1000000000);
  }

  private static void maps() {
    check.sentence("A MAP of a HOUSE is what lies in its FLUE when it is looked at");
    SootMaps x = Check.of("c0 1;h9 1;s1 4;s0 5;");
    x.pay(1, 0, 0);
    x.month(1);
    check.due("layers that came behind the map", x.layer(0, 0), 1);
    check.due("known on", x.sweep(1, 0), 1);
    x.swept(0);
    check.due("known, though the flue is empty", x.sweep(1, 0), 1);
  }

  /** 512 calls on one object: the last is answered as the first. */
  private static void theLastCall() {
    check.sentence("An object is used for at most 512 calls after it has been made");
    SootMaps letters = new SootMaps();
    for (int n = 1; n <= 512; n++) check.due("feed, call " + n, letters.feed(' '), n <= 240 ? n : FULL);
    String text = "c0 1;h9 1;";
    SootMaps fires = Check.of(text);
    for (int n = text.length() + 2; n <= 511; n++) fires.fire(0, n % 8);
    check.due("undo, call 512", fires.undo(30), 0);
    SootMaps kept = Check.of(text);
    for (int n = text.length() + 2; n <= 511; n++) kept.keep(n % 2);
    check.due("undo, call 512", kept.undo(1), NOT);
    SootMaps cities = new SootMaps();
    for (int n = 1; n <= 511; n++) cities.city();
    check.due("told, call 512", cities.told(0), 0);
    SootMaps months = Check.of(text);
    for (int n = 1; n <= 300; n++) months.month(30);
    for (int n = text.length() + 302; n <= 511; n++) months.rain();
    check.due("month, call 512", months.month(30), 8);
  }
}
