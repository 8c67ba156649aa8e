import java.util.Random;

/** Runs of drawn calls, each answered by SootMaps and by SootModel: the answers must be the same. */
public final class ModelTest {
  private static final int RUNS = 1500;
  private static final int KINDS_OF_CALL = 31;

  private final Random random;
  private final SootMaps maps = new SootMaps();
  private final SootModel model = new SootModel();
  private final StringBuilder calls = new StringBuilder();
  private int count;

  private ModelTest(long seed) {
    random = new Random(seed);
  }

  public static void main(String[] args) {
    long from = args.length > 0 ? Long.parseLong(args[0]) : 0;
    int runs = args.length > 1 ? Integer.parseInt(args[1]) : RUNS;
    int wrong = 0;
    for (int r = 0; r < runs && wrong < 5; r++) {
      ModelTest run = new ModelTest(from + r);
      String difference = run.differs();
      if (difference != null) {
        wrong++;
        System.out.println("run " + (from + r) + ": " + run.calls + difference);
      }
    }
    System.out.println("ModelTest: " + runs + " runs, " + wrong + " differ");
    if (wrong != 0) System.exit(1);
  }

  private String differs() {
    int style = random.nextInt(8);
    String difference = style == 7 ? null : tell(style < 6 ? goodText() : spoiled(goodText()));
    while (difference == null && count < 512) {
      difference = random.nextInt(120) == 0 ? tell(random.nextBoolean() ? goodText() : spoiled(goodText())) : step();
    }
    return difference;
  }

  private String tell(String text) {
    String difference = null;
    for (int i = 0; i < text.length() && difference == null && count < 511; i++) {
      difference = call(0, text.charAt(i), 0, 0, 0);
    }
    if (difference == null) difference = call(1, 0, 0, 0, 0);
    if (difference == null) difference = call(2, 0, 0, 0, 0);
    return difference;
  }

  private String goodText() {
    StringBuilder t = new StringBuilder();
    int houses = random.nextInt(3) == 0 ? random.nextInt(10) : 3 + random.nextInt(7);
    int sweeps = random.nextInt(6);
    boolean likeKinds = random.nextInt(3) == 0;
    blank(t).append('c').append(random.nextInt(3)).append(' ').append(random.nextInt(5)).append(';');
    int told = 0;
    for (int i = 0; i < houses + sweeps; i++) {
      blank(t);
      boolean isHouse = told < houses && (i - told >= sweeps || random.nextInt(4) > 0);
      if (isHouse) {
        int f = told > 0 && random.nextBoolean() ? random.nextInt(told) : 9;
        t.append('h').append(f).append(' ').append(likeKinds ? random.nextInt(3) : random.nextInt(8)).append(';');
        told++;
      } else {
        int price = random.nextInt(3) == 0 ? random.nextInt(100) : random.nextInt(4);
        t.append('s').append(random.nextInt(1 << told)).append(' ').append(price).append(';');
      }
    }
    return t.length() > 240 ? t.substring(0, 240) : t.toString();
  }

  private StringBuilder blank(StringBuilder t) {
    if (random.nextInt(20) == 0) t.append(' ');
    return t;
  }

  private String spoiled(String text) {
    StringBuilder t = new StringBuilder(text);
    String letters = "chs;0123456789 x";
    for (int i = 1 + random.nextInt(2); i > 0 && t.length() > 0; i--) {
      int at = random.nextInt(t.length());
      char letter = random.nextInt(12) == 0 ? (char) random.nextInt(256) : letters.charAt(random.nextInt(16));
      switch (random.nextInt(4)) {
        case 0 -> t.deleteCharAt(at);
        case 1 -> t.insert(at, letter);
        case 2 -> t.setCharAt(at, letter);
        default -> t.setLength(random.nextInt(6) == 0 ? 0 : at);
      }
    }
    return t.toString();
  }

  private int house() {
    int some = Math.max(1, maps.told(3));
    return random.nextInt(25) == 0 ? odd() : random.nextInt(some);
  }

  private int sweeper() {
    int some = Math.max(1, maps.told(4));
    return random.nextInt(25) == 0 ? odd() : random.nextInt(some);
  }

  private int odd() {
    int[] some = {-1, -2, 5, 9, 10, 31, 32, 100, 241, 9001, Integer.MAX_VALUE, Integer.MIN_VALUE};
    return some[random.nextInt(some.length)];
  }

  private int upTo(int low, int top) {
    return random.nextInt(25) == 0 ? odd() : low + random.nextInt(top - low + 1);
  }

  private String step() {
    int which = random.nextInt(KINDS_OF_CALL);
    switch (which) {
      case 0: return random.nextInt(20) > 0 ? null : call(0, upTo(0, 255), 0, 0, 0);
      case 1: return random.nextInt(40) > 0 ? null : call(1, 0, 0, 0, 0);
      case 3: return call(which, upTo(0, 12), 0, 0, 0);
      case 4: return call(which, house(), upTo(-1, 4), 0, 0);
      case 5: return call(which, house(), upTo(-1, 8), 0, 0);
      case 6: return call(which, sweeper(), upTo(-1, 3), 0, 0);
      case 7: case 14: return call(which, random.nextInt(3) > 0 ? upTo(1, 3) : upTo(0, 31), 0, 0, 0);
      case 8: case 25: return call(which, house(), upTo(-1, 8), 0, 0);
      case 10: return call(which, house(), 0, 0, 0);
      case 11: return call(which, house(), upTo(-1, 4), 0, 0);
      case 12: return call(which, sweeper(), house(), sweeper(), house());
      case 13: return call(which, sweeper(), sweeper(), house(), 0);
      case 15: return call(which, random.nextInt(3) > 0 ? upTo(1, 3) : upTo(0, 31), 0, 0, 0);
      case 16: return call(which, house(), upTo(1, 3), upTo(-1, 4), 0);
      case 17: return call(which, house(), upTo(1, 3), upTo(1, 3), 0);
      case 18: return call(which, house(), upTo(0, 2), 0, 0);
      case 19: return call(which, sweeper(), upTo(0, (1 << maps.told(3)) - 1), random.nextBoolean() ? -1 : house(), 0);
      case 20: return call(which, upTo(-1, 5), 0, 0, 0);
      case 21: return call(which, upTo(1, 7), upTo(0, 1), 0, 0);
      case 22: return call(which, upTo(0, 8), upTo(0, 100), 0, 0);
      case 23: return call(which, house(), upTo(1, 3), random.nextInt(2), 0);
      case 24: return call(which, upTo(1, 3), upTo(0, 1), 0, 0);
      case 27: return random.nextInt(10) > 0 ? null : call(which, 0, 0, 0, 0);
      case 28: return call(which, random.nextInt() & (random.nextInt(9) == 0 ? -1 : Integer.MAX_VALUE), 0, 0, 0);
      case 29: case 30: return random.nextInt(3) > 0 ? null : call(which, upTo(0, 1), 0, 0, 0);
      default: return call(which, 0, 0, 0, 0);
    }
  }

  private String call(int which, int a, int b, int c, int d) {
    count++;
    String name = NAMES[which];
    int got = ofMaps(which, a, b, c, d);
    int want = ofModel(which, a, b, c, d);
    if (which == 0) calls.append((char) a);
    else calls.append("\n  ").append(name).append("(").append(a).append(", ").append(b).append(", ").append(c)
      .append(", ").append(d).append(") = ").append(got).append(' ');
    return got == want ? null : "\n  " + name + " answered " + got + ", the model " + want;
  }

  private static final String[] NAMES = {"feed", "city", "fault", "told", "house", "layer", "sweep", "month", "fire",
    "rain", "swept", "run", "swap", "pay", "drift", "undo", "burned", "sure", "flues", "trade", "ring", "brushes",
    "wet", "see", "next", "write", "judge", "tear", "seed", "keep", "goBack"};

  private int ofMaps(int which, int a, int b, int c, int d) {
    return switch (which) {
      case 0 -> maps.feed(a);
      case 1 -> maps.city();
      case 2 -> maps.fault();
      case 3 -> maps.told(a);
      case 4 -> maps.house(a, b);
      case 5 -> maps.layer(a, b);
      case 6 -> maps.sweep(a, b);
      case 7 -> maps.month(a);
      case 8 -> maps.fire(a, b);
      case 9 -> maps.rain();
      case 10 -> maps.swept(a);
      case 11 -> maps.run(a, b);
      case 12 -> maps.swap(a, b, c, d);
      case 13 -> maps.pay(a, b, c);
      case 14 -> maps.drift(a);
      case 15 -> maps.undo(a);
      case 16 -> maps.burned(a, b, c);
      case 17 -> maps.sure(a, b, c);
      case 18 -> maps.flues(a, b);
      case 19 -> maps.trade(a, b, c);
      case 20 -> maps.ring(a);
      case 21 -> maps.brushes(a, b);
      case 22 -> maps.wet(a, b);
      case 23 -> maps.see(a, b, c == 1);
      case 24 -> maps.next(a, b);
      case 25 -> maps.write(a, b);
      case 26 -> maps.judge();
      case 27 -> maps.tear();
      case 28 -> maps.seed(a);
      case 29 -> maps.keep(a);
      default -> maps.goBack(a);
    };
  }

  private int ofModel(int which, int a, int b, int c, int d) {
    return switch (which) {
      case 0 -> model.feed(a);
      case 1 -> model.city();
      case 2 -> model.fault();
      case 3 -> model.told(a);
      case 4 -> model.house(a, b);
      case 5 -> model.layer(a, b);
      case 6 -> model.sweep(a, b);
      case 7 -> model.month(a);
      case 8 -> model.fire(a, b);
      case 9 -> model.rain();
      case 10 -> model.swept(a);
      case 11 -> model.run(a, b);
      case 12 -> model.swap(a, b, c, d);
      case 13 -> model.pay(a, b, c);
      case 14 -> model.drift(a);
      case 15 -> model.undo(a);
      case 16 -> model.burned(a, b, c);
      case 17 -> model.sure(a, b, c);
      case 18 -> model.flues(a, b);
      case 19 -> model.trade(a, b, c);
      case 20 -> model.ring(a);
      case 21 -> model.brushes(a, b);
      case 22 -> model.wet(a, b);
      case 23 -> model.see(a, b, c == 1);
      case 24 -> model.next(a, b);
      case 25 -> model.write(a, b);
      case 26 -> model.judge();
      case 27 -> model.tear();
      case 28 -> model.seed(a);
      case 29 -> model.keep(a);
      default -> model.goBack(a);
    };
  }
}
