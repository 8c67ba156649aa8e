import java.util.Random;

/** Runs of drawn calls, each answered by SootMaps and by SootModel: the answers must be the same. */
public final class ModelTest {
  private static final int RUNS = 1500;

  private final Random random;
  private final SootMaps maps = new SootMaps();
  private final SootModel model = new SootModel();
  private final StringBuilder calls = new StringBuilder();
  private int count;

  private ModelTest(long seed) {
    random = new Random(seed);
  }

  public static void main(String[] args) {
    long from = args.length > 0 ? Long.parseLong(args[0]) : 0;
    int runs = args.length > 1 ? Integer.parseInt(args[1]) : RUNS;
    int wrong = 0;
    for (int r = 0; r < runs && wrong < 5; r++) {
      ModelTest run = new ModelTest(from + r);
      String difference = run.differs();
      if (difference != null) {
        wrong++;
        System.out.println("run " + (from + r) + ": " + run.calls + difference);
      }
    }
    System.out.println("ModelTest: " + runs + " runs, " + wrong + " differ");
    if (wrong != 0) System.exit(1);
  }

  private String differs() {
    int style = random.nextInt(8);
    String difference = style == 7 ? null : tell(style < 6 ? goodText() : spoiled(goodText()));
    while (difference == null && count < 512) {
      difference = random.nextInt(120) == 0 ? tell(random.nextBoolean() ? goodText() : spoiled(goodText())) : step();
    }
    return difference;
  }

  private String tell(String text) {
    String difference = null;
    for (int i = 0; i < text.length() && difference == null && count < 511; i++) {
      difference = call(0, text.charAt(i), 0, 0, 0);
    }
    if (difference == null) difference = call(1, 0, 0, 0, 0);
    if (difference == null) difference = call(2, 0, 0, 0, 0);
    return difference;
  }

  private String goodText() {
    StringBuilder t = new StringBuilder();
    int houses = random.nextInt(3) == 0 ? random.nextInt(10) : 3 + random.nextInt(7);
    int sweeps = random.nextInt(6);
    boolean likeKinds = random.nextInt(3) == 0;
    blank(t).append('c').append(random.nextInt(3)).append(' ').append(random.nextInt(5)).append(';');
    int told = 0;
    for (int i = 0; i < houses + sweeps; i++) {
      blank(t);
      boolean isHouse = told < houses && (i - told >= sweeps || random.nextInt(4) > 0);
      if (isHouse) {
        int f = told > 0 && random.nextBoolean() ? random.nextInt(told) : 9;
        t.append('h').append(f).append(' ').append(likeKinds ? random.nextInt(3) : random.nextInt(8)).append(';');
        told++;
      } else {
        int price = random.nextInt(3) == 0 ? random.nextInt(100) : random.nextInt(4);
        t.append('s').append(random.nextInt(1 << told)).append(' ').append(price).append(';');
      }
    }
    return t.length() > 240 ? t.substring(0, 240) : t.toString();
  }

  private StringBuilder blank(StringBuilder t) {
    if (random.nextInt(20) == 0) t.append(' ');
    return t;
  }

  private String spoiled(String text) {
    StringBuilder t = new StringBuilder(text);
    String letters = "chs;0123456789 x";
    for (int i = 1 + random.nextInt(2); i > 0 && t.length() > 0; i--) {
      int at = random.nextInt(t.length());
      char letter = random.nextInt(12) == 0 ? (char) random.nextInt(256) : letters.charAt(random.nextInt(16));
      switch (random.nextInt(4)) {
        case 0 -> t.deleteCharAt(at);
        case 1 -> t.insert(at, letter);
        case 2 -> t.setCharAt(at, letter);
        default -> t.setLength(random.nextInt(6) == 0 ? 0 : at);
      }
    }
    return t.toString();
  }

  private int house() {
    int some = Math.max(1, maps.told(3));
    return random.nextInt(25) == 0 ? odd() : random.nextInt(some);
  }

  private int sweeper() {
    int some = Math.max(1, maps.told(4));
    return random.nextInt(25) == 0 ? odd() : random.nextInt(some);
  }

  private int odd() {
    int[] some = {-1, -2, 5, 9, 10, 31, 32, 100, 241, 9001, Integer.MAX_VALUE, Integer.MIN_VALUE};
    return some[random.nextInt(some.length)];
  }

  private int upTo(int low, int top) {
    return random.nextInt(25) == 0 ? odd() : low + random.nextInt(top - low + 1);
  }

  private String step() {
    int which = random.nextInt(Calls.NAMES.size());
    switch (which) {
      case 0: return random.nextInt(20) > 0 ? null : call(0, upTo(0, 255), 0, 0, 0);
      case 1: return random.nextInt(40) > 0 ? null : call(1, 0, 0, 0, 0);
      case 3: return call(which, upTo(0, 12), 0, 0, 0);
      case 4: return call(which, house(), upTo(-1, 4), 0, 0);
      case 5: return call(which, house(), upTo(-1, 8), 0, 0);
      case 6: return call(which, sweeper(), upTo(-1, 3), 0, 0);
      case 7: case 14: return call(which, random.nextInt(3) > 0 ? upTo(1, 3) : upTo(0, 31), 0, 0, 0);
      case 8: case 25: return call(which, house(), upTo(-1, 8), 0, 0);
      case 10: return call(which, house(), 0, 0, 0);
      case 11: return call(which, house(), upTo(-1, 4), 0, 0);
      case 12: return call(which, sweeper(), house(), sweeper(), house());
      case 13: return call(which, sweeper(), sweeper(), house(), 0);
      case 15: return call(which, random.nextInt(3) > 0 ? upTo(1, 3) : upTo(0, 31), 0, 0, 0);
      case 16: return call(which, house(), upTo(1, 3), upTo(-1, 4), 0);
      case 17: return call(which, house(), upTo(1, 3), upTo(1, 3), 0);
      case 18: return call(which, house(), upTo(0, 2), 0, 0);
      case 19: return call(which, sweeper(), upTo(0, (1 << maps.told(3)) - 1), random.nextBoolean() ? -1 : house(), 0);
      case 20: return call(which, upTo(-1, 5), 0, 0, 0);
      case 21: return call(which, upTo(1, 7), upTo(0, 1), 0, 0);
      case 22: return call(which, upTo(0, 8), upTo(0, 100), 0, 0);
      case 23: return call(which, house(), upTo(1, 3), random.nextInt(2), 0);
      case 24: return call(which, upTo(1, 3), upTo(0, 1), 0, 0);
      case 27: return random.nextInt(10) > 0 ? null : call(which, 0, 0, 0, 0);
      case 28: return call(which, random.nextInt() & (random.nextInt(9) == 0 ? -1 : Integer.MAX_VALUE), 0, 0, 0);
      case 29: case 30: return random.nextInt(3) > 0 ? null : call(which, upTo(0, 1), 0, 0, 0);
      default: return call(which, 0, 0, 0, 0);
    }
  }

  private String call(int which, int a, int b, int c, int d) {
    count++;
    String name = Calls.NAMES.get(which);
    int got = Calls.ofMaps(maps, which, a, b, c, d);
    int want = Calls.ofModel(model, which, a, b, c, d);
    if (which == 0) calls.append((char) a);
    else calls.append("\n  ").append(name).append("(").append(a).append(", ").append(b).append(", ").append(c)
      .append(", ").append(d).append(") = ").append(got).append(' ');
    return got == want ? null : "\n  " + name + " answered " + got + ", the model " + want;
  }
}
