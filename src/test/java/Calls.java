import java.util.List;

/** Calls by their number or by words such as "fire 0 7", on SootMaps and on the model. */
final class Calls {
  static final List<String> NAMES = List.of("feed", "city", "fault", "told", "house", "layer", "sweep", "month", "fire",
    "rain", "swept", "run", "swap", "pay", "drift", "undo", "burned", "sure", "flues", "trade", "ring", "brushes",
    "wet", "see", "next", "write", "judge", "tear", "seed", "keep", "goBack");

  private Calls() {
  }

  /** "see 0 1 1" is see(0, 1, true). */
  static int call(SootMaps x, String words) {
    String[] parts = words.split(" ");
    int[] a = new int[4];
    for (int i = 1; i < parts.length; i++) a[i - 1] = Integer.parseInt(parts[i]);
    int which = NAMES.indexOf(parts[0]);
    if (which < 0) throw new IllegalArgumentException(words);
    return ofMaps(x, which, a[0], a[1], a[2], a[3]);
  }

  static int ofMaps(SootMaps maps, int which, int a, int b, int c, int d) {
    return switch (which) {
      case 0 -> maps.feed(a);
      case 1 -> maps.city();
      case 2 -> maps.fault();
      case 3 -> maps.told(a);
      case 4 -> maps.house(a, b);
      case 5 -> maps.layer(a, b);
      case 6 -> maps.sweep(a, b);
      case 7 -> maps.month(a);
      case 8 -> maps.fire(a, b);
      case 9 -> maps.rain();
      case 10 -> maps.swept(a);
      case 11 -> maps.run(a, b);
      case 12 -> maps.swap(a, b, c, d);
      case 13 -> maps.pay(a, b, c);
      case 14 -> maps.drift(a);
      case 15 -> maps.undo(a);
      case 16 -> maps.burned(a, b, c);
      case 17 -> maps.sure(a, b, c);
      case 18 -> maps.flues(a, b);
      case 19 -> maps.trade(a, b, c);
      case 20 -> maps.ring(a);
      case 21 -> maps.brushes(a, b);
      case 22 -> maps.wet(a, b);
      case 23 -> maps.see(a, b, c == 1);
      case 24 -> maps.next(a, b);
      case 25 -> maps.write(a, b);
      case 26 -> maps.judge();
      case 27 -> maps.tear();
      case 28 -> maps.seed(a);
      case 29 -> maps.keep(a);
      default -> maps.goBack(a);
    };
  }

  static int ofModel(SootModel model, int which, int a, int b, int c, int d) {
    return switch (which) {
      case 0 -> model.feed(a);
      case 1 -> model.city();
      case 2 -> model.fault();
      case 3 -> model.told(a);
      case 4 -> model.house(a, b);
      case 5 -> model.layer(a, b);
      case 6 -> model.sweep(a, b);
      case 7 -> model.month(a);
      case 8 -> model.fire(a, b);
      case 9 -> model.rain();
      case 10 -> model.swept(a);
      case 11 -> model.run(a, b);
      case 12 -> model.swap(a, b, c, d);
      case 13 -> model.pay(a, b, c);
      case 14 -> model.drift(a);
      case 15 -> model.undo(a);
      case 16 -> model.burned(a, b, c);
      case 17 -> model.sure(a, b, c);
      case 18 -> model.flues(a, b);
      case 19 -> model.trade(a, b, c);
      case 20 -> model.ring(a);
      case 21 -> model.brushes(a, b);
      case 22 -> model.wet(a, b);
      case 23 -> model.see(a, b, c == 1);
      case 24 -> model.next(a, b);
      case 25 -> model.write(a, b);
      case 26 -> model.judge();
      case 27 -> model.tear();
      case 28 -> model.seed(a);
      case 29 -> model.keep(a);
      default -> model.goBack(a);
    };
  }
}
