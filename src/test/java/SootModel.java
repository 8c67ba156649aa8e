import java.util.ArrayDeque;
import java.util.ArrayList;
import java.util.Arrays;
import java.util.Deque;
import java.util.List;

/** The document once more, by lists and by trying everything out: what SootMaps is compared with. */
final class SootModel {
  static final int NONE = -1, UNKNOWN = -1000000001, OUTSIDE = -1000000002, NOT = -1000000003, FULL = -1000000004;

  /** What can be undone and kept. */
  static final class World {
    List<List<Integer>> flues = new ArrayList<>();
    List<Integer> burns = new ArrayList<>();
    List<Integer> into = new ArrayList<>();
    List<Integer> knows = new ArrayList<>();
    List<Integer> gain = new ArrayList<>();
    int months, paid;

    World copy() {
      World w = new World();
      for (List<Integer> f : flues) w.flues.add(new ArrayList<>(f));
      w.burns.addAll(burns);
      w.into.addAll(into);
      w.knows.addAll(knows);
      w.gain.addAll(gain);
      w.months = months;
      w.paid = paid;
      return w;
    }
  }

  private final StringBuilder text = new StringBuilder();
  private int faultAt = NONE;
  private boolean there;
  private int wind, wash;
  private List<Integer> prices = new ArrayList<>();
  private World w = new World();
  private final Deque<World> undone = new ArrayDeque<>();
  private final World[] images = new World[2];
  private final long[] imageSeeds = new long[2];
  private long seed;
  private final List<int[]> seen = new ArrayList<>();
  private final List<int[]> book = new ArrayList<>();

  // ---- the city

  int feed(int letter) {
    if (letter < 0 || letter > 255) return OUTSIDE;
    if (text.length() == 240) return FULL;
    text.append((char) letter);
    return text.length();
  }

  int city() {
    String t = text.toString();
    text.setLength(0);
    faultAt = NONE;
    List<int[]> clauses = new ArrayList<>();
    int[] fault = parse(t, clauses);
    if (fault != null) {
      faultAt = fault[0];
      return -10 - fault[1];
    }
    there = false;
    wind = wash = 0;
    w = new World();
    prices = new ArrayList<>();
    for (int[] c : clauses) {
      if (c[0] == 'c') {
        there = true;
        wind = c[1];
        wash = c[2];
      } else if (c[0] == 'h') {
        w.flues.add(new ArrayList<>());
        w.into.add(c[1] == 9 ? NONE : c[1]);
        w.burns.add(c[2]);
      } else {
        w.knows.add(c[1]);
        w.gain.add(0);
        prices.add(c[2]);
      }
    }
    undone.clear();
    Arrays.fill(images, null);
    seen.clear();
    book.clear();
    return w.flues.size();
  }

  /** {letter, number} of the first fault, or null; the clauses as {word, first, second}. */
  private static int[] parse(String t, List<int[]> clauses) {
    List<String> tokens = new ArrayList<>();
    List<Integer> where = new ArrayList<>();
    for (int i = 0; i < t.length(); ) {
      int j = i + 1;
      if (Character.digit(t.charAt(i), 10) >= 0 && t.charAt(i) < 128) {
        while (j < t.length() && "0123456789".indexOf(t.charAt(j)) >= 0) j++;
      }
      if (t.charAt(i) != ' ') {
        tokens.add(t.substring(i, j));
        where.add(i);
      }
      i = j;
    }
    int houses = 0, sweeps = 0, cities = 0;
    int[] open = null;
    for (int k = 0; k < tokens.size(); k++) {
      String s = tokens.get(k);
      int at = where.get(k);
      boolean number = s.matches("[0-9]+");
      if (open == null) {
        if (!s.matches("[chs]") || cities == 0 && !s.equals("c")) return new int[] {at, 1};
        if (s.equals("c") && ++cities > 1) return new int[] {at, 3};
        if (s.equals("h") && ++houses > 9) return new int[] {at, 3};
        if (s.equals("s") && ++sweeps > 5) return new int[] {at, 3};
        open = new int[] {s.charAt(0), NONE, NONE};
      } else if (open[1] == NONE || open[2] == NONE) {
        if (!number) return new int[] {at, 1};
        if (s.length() > 3) return new int[] {at, 2};
        int v = Integer.parseInt(s);
        boolean first = open[1] == NONE;
        boolean good = switch (open[0]) {
          case 'c' -> first ? v <= 2 : v <= 4;
          case 'h' -> first ? v == 9 || v < houses - 1 : v <= 7;
          default -> first ? v <= 511 && v < Math.pow(2, houses) : v <= 99;
        };
        if (!good) return new int[] {at, 2};
        open[first ? 1 : 2] = v;
      } else {
        if (!s.equals(";")) return new int[] {at, 1};
        clauses.add(open);
        open = null;
      }
    }
    return open == null ? null : new int[] {t.length(), 1};
  }

  int fault() {
    return faultAt;
  }

  int told(int what) {
    if (what < 0 || what > 11) return OUTSIDE;
    return new int[] {there ? 1 : 0, wind, wash, houses(), sweeps(), text.length(), w.months, layers(w), w.paid,
      seen.size(), book.size(), undone.size()}[what];
  }

  int house(int h, int what) {
    if (!isHouse(h)) return UNKNOWN;
    if (what < 0 || what > 3) return OUTSIDE;
    return new int[] {w.burns.get(h), w.into.get(h), w.flues.get(h).size(), newest(h)}[what];
  }

  int layer(int h, int l) {
    if (!isHouse(h)) return UNKNOWN;
    if (l < 0 || l > 7) return OUTSIDE;
    return l < w.flues.get(h).size() ? w.flues.get(h).get(l) : 0;
  }

  int sweep(int s, int what) {
    if (!isSweep(s)) return UNKNOWN;
    if (what < 0 || what > 2) return OUTSIDE;
    return new int[] {w.knows.get(s), prices.get(s), w.gain.get(s) + 100000}[what];
  }

  // ---- deeds

  int month(int n) {
    if (n < 1 || n > 30) return OUTSIDE;
    if (!there) return NOT;
    if (w.months > 9000) return FULL;
    for (int i = 0; i < n; i++) {
      deed();
      aMonth(w);
    }
    return layers(w);
  }

  int fire(int h, int kind) {
    if (!isHouse(h)) return UNKNOWN;
    if (kind < 0 || kind > 7) return OUTSIDE;
    deed();
    return w.burns.set(h, kind);
  }

  int rain() {
    if (!there) return NOT;
    deed();
    int before = layers(w);
    aRain();
    return before - layers(w);
  }

  int swept(int h) {
    if (!isHouse(h)) return UNKNOWN;
    deed();
    int gone = w.flues.get(h).size();
    w.flues.get(h).clear();
    return gone;
  }

  int run(int h, int f) {
    if (!isHouse(h) || f != NONE && !(isHouse(f) && f < h)) return UNKNOWN;
    deed();
    return w.into.set(h, f);
  }

  int swap(int s, int a, int z, int b) {
    if (!isSweep(s) || !isSweep(z) || s == z || !isHouse(a) || !isHouse(b) || a == b) return UNKNOWN;
    if (!knows(s, a) || knows(z, a) || !knows(z, b) || knows(s, b)) return NOT;
    deed();
    w.knows.set(s, w.knows.get(s) + (1 << b));
    w.knows.set(z, w.knows.get(z) + (1 << a));
    return w.knows.get(s);
  }

  int pay(int s, int z, int h) {
    if (!isSweep(s) || !isSweep(z) || s == z || !isHouse(h)) return UNKNOWN;
    if (!knows(z, h) || knows(s, h)) return NOT;
    deed();
    int price = prices.get(z);
    w.knows.set(s, w.knows.get(s) + (1 << h));
    w.gain.set(s, w.gain.get(s) - price);
    w.gain.set(z, w.gain.get(z) + price);
    w.paid += price;
    return price;
  }

  int drift(int n) {
    if (n < 1 || n > 30) return OUTSIDE;
    if (!there) return NOT;
    if (w.months > 9000) return FULL;
    for (int i = 0; i < n; i++) {
      deed();
      if (houses() > 0) {
        int h = draw(houses());
        w.burns.set(h, draw(8));
      }
      int d = draw(4);
      aMonth(w);
      if (d == 0) aRain();
    }
    return layers(w);
  }

  int undo(int n) {
    if (n < 1 || n > 30) return OUTSIDE;
    if (undone.size() < n) return NOT;
    for (int i = 0; i < n; i++) w = undone.removeLast();
    return w.months;
  }

  // ---- tried

  int burned(int h, int n, int i) {
    if (!isHouse(h)) return UNKNOWN;
    if (n < 1 || n > 3) return OUTSIDE;
    List<Integer> all = rows(h, n);
    if (i == NONE) return all.size();
    return i >= 0 && i < all.size() ? all.get(i) : NONE;
  }

  int sure(int h, int n, int m) {
    if (!isHouse(h)) return UNKNOWN;
    if (n < 1 || n > 3 || m < 1 || m > n) return OUTSIDE;
    int[] kinds = rows(h, n).stream().mapToInt(r -> octal(r, n).charAt(m - 1) - '0').distinct().toArray();
    return kinds.length == 1 ? kinds[0] : NONE;
  }

  int flues(int h, int what) {
    if (!isHouse(h)) return UNKNOWN;
    if (what < 0 || what > 2) return OUTSIDE;
    int set = 0;
    if (what == 0) return w.burns.get(h) == 0 ? 0 : reach(h);
    for (int g = 0; g < houses(); g++) {
      boolean in = what == 2 && w.flues.get(g).equals(w.flues.get(h));
      for (int f = w.into.get(g); what == 1 && f != NONE; f = w.into.get(f)) in |= f == h;
      if (in) set |= 1 << g;
    }
    return set;
  }

  int trade(int s, int set, int h) {
    if (!isSweep(s) || set < 0 || set >> houses() != 0 || h != NONE && !isHouse(h)) return UNKNOWN;
    int[] from = new int[houses()];
    int[] best = new int[houses() + 1];
    best[houses()] = NONE;
    Arrays.fill(from, NONE);
    tryAll(s, set, 0, from, best);
    return best[h == NONE ? houses() : best[houses()] == NONE ? houses() : h];
  }

  /** All ways to get the houses from g on, the lesser sweep first; best holds the first of the cheapest. */
  private void tryAll(int s, int set, int g, int[] from, int[] best) {
    if (g == houses()) {
      int paid = 0;
      for (int z = 0; z < sweeps(); z++) {
        int got = 0, free = 0;
        for (int k = 0; k < houses(); k++) {
          if (from[k] == z) got++;
          if (knows(s, k) && !knows(z, k)) free++;
        }
        paid += Math.max(0, got - free) * prices.get(z);
      }
      if (best[houses()] == NONE || paid < best[houses()]) {
        System.arraycopy(from, 0, best, 0, houses());
        best[houses()] = paid;
      }
      return;
    }
    if ((set >> g & 1) == 0 || knows(s, g)) {
      tryAll(s, set, g + 1, from, best);
      return;
    }
    for (int z = 0; z < sweeps(); z++) {
      if (z == s || !knows(z, g)) continue;
      from[g] = z;
      tryAll(s, set, g + 1, from, best);
      from[g] = NONE;
    }
  }

  int ring(int i) {
    for (int size = 2; size <= 5; size++) {
      List<Integer> found = longer(new ArrayList<>(), size);
      if (found == null) continue;
      if (i == NONE) return size;
      return i >= 0 && i < size ? found.get(i) : NONE;
    }
    return NONE;
  }

  private List<Integer> longer(List<Integer> row, int size) {
    int n = row.size();
    if (n == size) return gives(row.get(n - 1), row.get(0)) ? row : null;
    for (int s = 0; s < sweeps(); s++) {
      if (row.contains(s) || n > 0 && (s < row.get(0) || !gives(row.get(n - 1), s))) continue;
      List<Integer> more = new ArrayList<>(row);
      more.add(s);
      List<Integer> found = longer(more, size);
      if (found != null) return found;
    }
    return null;
  }

  private boolean gives(int s, int z) {
    for (int h = 0; h < houses(); h++) if (knows(s, h) && !knows(z, h)) return true;
    return false;
  }

  int brushes(int kind, int what) {
    if (kind < 1 || kind > 7 || what < 0 || what > 1) return OUTSIDE;
    if (what == 0) return (int) w.flues.stream().filter(f -> f.contains(kind)).count();
    int best = NONE;
    for (int h = houses() - 1; h >= 0; h--) {
      if (w.burns.get(h) != kind) continue;
      if (best == NONE || Integer.bitCount(reach(h)) >= Integer.bitCount(reach(best))) best = h;
    }
    return best;
  }

  int wet(int n, int q) {
    if (n < 0 || n > 8 || q < 0 || q > 100) return OUTSIDE;
    long odds = 1000000000L;
    for (int i = 0; i < n; i++) odds = odds * (100 - Math.min(100, q + i + i)) / 100;
    return (int) odds;
  }

  // ---- what was seen

  int see(int h, int kind, boolean is) {
    if (!isHouse(h)) return UNKNOWN;
    if (kind < 1 || kind > 7) return OUTSIDE;
    if (seen.size() == 6) return FULL;
    seen.add(new int[] {h, kind, is ? 1 : 0});
    return seen.size();
  }

  int next(int kind, int what) {
    if (kind < 1 || kind > 7 || what < 0 || what > 1) return OUTSIDE;
    List<Integer> who = new ArrayList<>();
    for (int h = 0; h < houses(); h++) {
      int set = reach(h);
      if (seen.stream().allMatch(s -> s[1] != kind || (set >> s[0] & 1) == s[2])) who.add(h);
    }
    if (what == 0) return who.stream().mapToInt(h -> 1 << h).sum();
    int best = NONE, least = 99;
    for (int f = 0; f < houses(); f++) {
      int flue = f;
      int in = (int) who.stream().filter(h -> (reach(h) >> flue & 1) == 1).count();
      int out = who.size() - in;
      if (in > 0 && out > 0 && Math.max(in, out) < least) {
        least = Math.max(in, out);
        best = f;
      }
    }
    return best;
  }

  int write(int h, int kind) {
    if (!isHouse(h)) return UNKNOWN;
    if (kind < 0 || kind > 7) return OUTSIDE;
    if (book.size() == 20) return FULL;
    book.add(new int[] {h, kind});
    return book.size();
  }

  int judge() {
    for (int i = 0; i < book.size(); i++) if (newest(book.get(i)[0]) != book.get(i)[1]) return i;
    return NONE;
  }

  int tear() {
    int both = seen.size() + book.size();
    seen.clear();
    book.clear();
    return both;
  }

  // ---- images

  int seed(int v) {
    if (v < 0) return OUTSIDE;
    int was = (int) seed;
    seed = v;
    return was;
  }

  int keep(int i) {
    if (i != 0 && i != 1) return UNKNOWN;
    images[i] = w.copy();
    imageSeeds[i] = seed;
    undone.clear();
    return 1;
  }

  int goBack(int i) {
    if (i != 0 && i != 1) return UNKNOWN;
    if (images[i] == null) return NOT;
    w = images[i].copy();
    seed = imageSeeds[i];
    undone.clear();
    return 1;
  }

  // ---- parts

  private int houses() {
    return w.flues.size();
  }

  private int sweeps() {
    return prices.size();
  }

  private boolean isHouse(int h) {
    return h >= 0 && h < houses();
  }

  private boolean isSweep(int s) {
    return s >= 0 && s < sweeps();
  }

  private boolean knows(int s, int h) {
    return (w.knows.get(s) >> h & 1) == 1;
  }

  private int newest(int h) {
    List<Integer> f = w.flues.get(h);
    return f.isEmpty() ? 0 : f.get(f.size() - 1);
  }

  private static int layers(World v) {
    return v.flues.stream().mapToInt(List::size).sum();
  }

  private void deed() {
    undone.addLast(w.copy());
    if (undone.size() > 30) undone.removeFirst();
  }

  private static void lay(List<Integer> flue, int kind) {
    flue.add(kind);
    if (flue.size() > 8) flue.remove(0);
  }

  private void aMonth(World v) {
    int count = v.flues.size();
    for (int h = 0; h < count; h++) {
      int kind = v.burns.get(h);
      if (kind == 0) continue;
      for (int f = h; f != NONE; f = v.into.get(f)) lay(v.flues.get(f), kind);
      if (wind == 1 && h + 1 < count) lay(v.flues.get(h + 1), kind);
      if (wind == 2 && h > 0) lay(v.flues.get(h - 1), kind);
    }
    v.months++;
  }

  private void aRain() {
    for (List<Integer> f : w.flues) for (int r = 0; r < wash && !f.isEmpty(); r++) f.remove(f.size() - 1);
  }

  private int draw(int n) {
    seed = (seed * 1103515245L + 12345L) % (1L << 31);
    return (int) (seed / 65536 % n);
  }

  private static String octal(int row, int n) {
    String s = Integer.toOctalString(row);
    return "0".repeat(n - s.length()) + s;
  }

  private List<Integer> rows(int h, int n) {
    List<Integer> all = new ArrayList<>();
    int count = (int) Math.pow(8, n);
    for (int row = 0; row < count; row++) {
      World v = w.copy();
      v.flues.forEach(List::clear);
      for (char c : octal(row, n).toCharArray()) {
        v.burns.set(h, c - '0');
        aMonth(v);
      }
      if (v.flues.get(h).equals(w.flues.get(h))) all.add(row);
    }
    return all;
  }

  private int reach(int h) {
    World v = w.copy();
    v.flues.forEach(List::clear);
    for (int g = 0; g < houses(); g++) v.burns.set(g, g == h ? 1 : 0);
    aMonth(v);
    int set = 0;
    for (int g = 0; g < houses(); g++) if (!v.flues.get(g).isEmpty()) set |= 1 << g;
    return set;
  }
}
