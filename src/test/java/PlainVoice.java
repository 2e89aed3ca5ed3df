import java.math.BigInteger;
import java.util.ArrayList;
import java.util.HashMap;
import java.util.List;
import java.util.Map;
import java.util.TreeSet;
import java.util.regex.Matcher;
import java.util.regex.Pattern;

/** The document once more, as plainly as it can be said and without a thought of speed: for CompareTest. */
final class PlainVoice {
  record Gesture(char letter, int piece, int width, int speed, int hold, int strength) {}
  record Item(char letter, int at) {}
  record Said(int word, int tick) {}
  record Telling(int sound, int tone, int from, int to) {}
  record Led(int width, int aim, int said, int item, int clause) {}
  record Token(String text, int place) {}

  static final class Fault extends Exception {
    final int which;
    final int place;
    Fault(int which, int place) { this.which = which; this.place = place; }
  }

  static final class Law {
    List<Integer> rest = null;
    Integer loss = null;
    Integer lips = null;
    Integer back = null;
    List<Gesture> gestures = new ArrayList<>();
    Map<Character, List<Item>> words = new HashMap<>();
    int clauses = 0;
  }

  static final class State implements Cloneable {
    Law law = new Law();
    List<Said> said = new ArrayList<>();
    List<List<Led>> leds = new ArrayList<>();
    List<Long> sounds = new ArrayList<>();
    int[] widths = {6, 6, 6, 6, 6};
    long[] toLips = new long[5];
    long[] toFolds = new long[5];
    long[] rests = new long[4];
    long foldsRest = 0;
    long lipsRest = 0;
    int gap = 10, pace = 0, breath = 0, stiff = 5, weight = 4, strain = 0, met = 0;
    List<TreeSet<Integer>> grid = new ArrayList<>();
    List<Telling> told = new ArrayList<>();
    int look = 0;

    State copy() {
      State s;
      try { s = (State) clone(); } catch (CloneNotSupportedException e) { throw new IllegalStateException(e); }
      s.said = new ArrayList<>(said);
      s.leds = new ArrayList<>(leds);
      s.sounds = new ArrayList<>(sounds);
      s.widths = widths.clone();
      s.toLips = toLips.clone();
      s.toFolds = toFolds.clone();
      s.rests = rests.clone();
      s.grid = new ArrayList<>(grid);
      s.told = new ArrayList<>(told);
      return s;
    }
  }

  final int n;
  State s = new State();
  State image;
  List<Byte> tape = new ArrayList<>();
  boolean anyText = false;
  Fault fault = null;

  PlainVoice(int pieces) {
    n = pieces < 2 ? 2 : pieces > 5 ? 5 : pieces;
    for (int i = 0; i < n; i++) s.grid.add(new TreeSet<>(List.of(6)));
    image = s.copy();
  }

  int feed(int... words) {
    if (tape.size() + 20 > 400) return -1;
    for (int w : words) for (int i = 3; i >= 0; i--) tape.add((byte) (w >>> (8 * i)));
    return tape.size();
  }

  int end(int k) {
    if (k < 0 || k > tape.size()) return -1;
    tape = new ArrayList<>(tape.subList(0, k));
    return k;
  }

  int text() {
    StringBuilder b = new StringBuilder();
    for (byte x : tape) b.append((char) (x & 255));
    tape.clear();
    anyText = true;
    try {
      Law law = new Parse(b.toString()).all();
      fault = null;
      s.law = law;
      s.said.clear();
      return law.clauses;
    } catch (Fault f) {
      fault = f;
      return -1;
    }
  }

  /** All tokens first, then the grammar over them, throwing at the first FAULT. */
  final class Parse {
    final List<Token> tokens = new ArrayList<>();
    int i = 0;
    final Law law = new Law();

    Parse(String t) {
      Matcher m = Pattern.compile("[a-zA-Z]+|[0-9]+|[^ \n]").matcher(t);
      while (m.find()) tokens.add(new Token(m.group(), m.start()));
      tokens.add(new Token("", t.length()));
    }

    Token peek() { return tokens.get(i); }
    Fault bad(int which) { return new Fault(which, peek().place); }

    void word(String w) throws Fault {
      if (!peek().text.equals(w)) throw bad(1);
      i++;
    }

    int number(int least, int most) throws Fault {
      if (!peek().text.matches("[0-9]+")) throw bad(1);
      BigInteger v = new BigInteger(peek().text);
      if (v.compareTo(BigInteger.valueOf(least)) < 0 || v.compareTo(BigInteger.valueOf(most)) > 0) throw bad(2);
      return v.intValue();
    }

    int taken(int least, int most) throws Fault {
      int v = number(least, most);
      i++;
      return v;
    }

    char letter() throws Fault {
      if (!peek().text.matches("[A-H]")) throw bad(1);
      return peek().text.charAt(0);
    }

    Law all() throws Fault {
      while (!peek().text.isEmpty()) {
        clause();
        law.clauses++;
      }
      return law;
    }

    void clause() throws Fault {
      switch (peek().text) {
        case "rest" -> rest();
        case "loss" -> { if (law.loss != null) throw bad(4); i++; law.loss = taken(0, 100); word(";"); }
        case "lips" -> { if (law.lips != null) throw bad(4); i++; law.lips = taken(0, 100); word(";"); }
        case "back" -> { if (law.back != null) throw bad(4); i++; law.back = taken(0, 100); word(";"); }
        case "gesture" -> gesture();
        case "word" -> wordClause();
        default -> throw bad(1);
      }
    }

    void rest() throws Fault {
      if (law.rest != null) throw bad(4);
      i++;
      law.rest = new ArrayList<>();
      while (true) {
        int v = number(1, 12);
        if (law.rest.size() == n) throw bad(5);
        law.rest.add(v);
        i++;
        if (!peek().text.equals(",")) break;
        i++;
      }
      if (peek().text.equals(";") && law.rest.size() < n) throw bad(5);
      word(";");
    }

    void gesture() throws Fault {
      if (law.gestures.size() == 20) throw bad(5);
      i++;
      char l = letter();
      i++;
      int piece = taken(0, n - 1);
      word("to");
      int width = taken(1, 12);
      word("by");
      int speed = taken(1, 6);
      word("hold");
      int hold = taken(1, 50);
      word("strong");
      int strength = taken(0, 9);
      word(";");
      law.gestures.add(new Gesture(l, piece, width, speed, hold, strength));
    }

    void wordClause() throws Fault {
      i++;
      char l = letter();
      if (law.words.containsKey(l)) throw bad(4);
      i++;
      List<Item> items = new ArrayList<>();
      while (true) {
        char g = letter();
        if (law.gestures.stream().noneMatch(x -> x.letter == g)) throw bad(3);
        if (items.size() == 8) throw bad(5);
        i++;
        word("at");
        items.add(new Item(g, taken(0, 99)));
        if (!peek().text.equals(",")) break;
        i++;
      }
      word(";");
      law.words.put(l, items);
    }
  }

  int fault(int what) {
    if (!anyText) return -1;
    if (what == 0) return fault == null ? 0 : fault.which;
    if (what == 1) return fault == null ? -1 : fault.place;
    return -1;
  }

  int rest(int piece) { return s.law.rest == null ? 6 : s.law.rest.get(piece); }
  int loss() { return s.law.loss == null ? 0 : s.law.loss; }
  int lips() { return s.law.lips == null ? 100 : s.law.lips; }
  int backs() { return s.law.back == null ? 100 : s.law.back; }
  boolean piece(int p) { return 0 <= p && p < n; }
  int clock() { return s.leds.size(); }

  int law(int what) {
    if (piece(what)) return rest(what);
    if (what == 10) return loss();
    if (what == 11) return lips();
    if (what == 12) return backs();
    if (what == 13) return s.law.gestures.size();
    return -1;
  }

  int say(int word) {
    if (word < 0 || word > 7 || !s.law.words.containsKey((char) ('A' + word)) || s.said.size() == 20) return -1;
    s.said.add(new Said(word, clock()));
    return s.said.size();
  }

  boolean folds(int b, int st, int w) {
    if (b < 0 || b > 40 || st < 1 || st > 20 || w < 1 || w > 20) return false;
    s.breath = b;
    s.stiff = st;
    s.weight = w;
    return true;
  }

  int ticks(int k) {
    if (k < 1 || k > 50 || clock() + k > 200) return -1;
    for (int i = 0; i < k; i++) tick();
    return clock();
  }

  record Wanting(int said, int item, int clause, Gesture g) {}

  void tick() {
    int t = clock();
    List<Led> leds = new ArrayList<>();
    for (int p = 0; p < n; p++) {
      List<Wanting> all = new ArrayList<>();
      for (int i = 0; i < s.said.size(); i++) {
        List<Item> items = s.law.words.get((char) ('A' + s.said.get(i).word));
        for (int j = 0; j < items.size(); j++)
          for (int c = 0; c < s.law.gestures.size(); c++) {
            Gesture g = s.law.gestures.get(c);
            int from = s.said.get(i).tick + items.get(j).at;
            if (g.letter == items.get(j).letter && g.piece == p && from <= t && t <= from + g.hold - 1)
              all.add(new Wanting(i, j, c, g));
          }
      }
      int strongest = all.stream().mapToInt(w -> w.g.strength).max().orElse(-1);
      List<Wanting> best = all.stream().filter(w -> w.g.strength == strongest).toList();
      int aim = best.isEmpty() ? rest(p) : (int) best.stream().mapToInt(w -> w.g.width).average().orElse(0);
      int speed = best.stream().mapToInt(w -> w.g.speed).max().orElse(1);
      for (int i = 0; i < speed; i++) s.widths[p] += Integer.signum(aim - s.widths[p]);
      leds.add(best.isEmpty() ? new Led(s.widths[p], aim, -1, -1, -1)
          : new Led(s.widths[p], aim, best.get(0).said, best.get(0).item, best.get(0).clause));
    }
    for (int i = 0; i < 10; i++) step();
    s.leds.add(leds);
  }

  /** GAP, PACE, STRAIN that is new, 1 if they MEET. */
  static int[] foldStep(int gap, int pace, int breath, int stiff, int weight) {
    int force = breath - stiff * gap / 10;
    pace += force / weight;
    if (pace > 9) pace = 9;
    if (pace < -9) pace = -9;
    int g = gap + pace;
    if (g < 0) return new int[] {0, -pace / 2, -pace, 1};
    if (g > 50) return new int[] {50, 0, 0, 0};
    return new int[] {g, pace, 0, 0};
  }

  static long down(long a, long b) {
    long q = a / b;
    while (q * b > a) q--;
    return q;
  }

  long weaker(long v) {
    long w = v - v * loss() / 1000;
    return w > 1000000000L ? 1000000000L : w < -1000000000L ? -1000000000L : w;
  }

  void step() {
    int[] f = foldStep(s.gap, s.pace, s.breath, s.stiff, s.weight);
    s.gap = f[0];
    s.pace = f[1];
    s.strain += f[2];
    s.met += f[3];
    long source = s.breath * s.gap / 10;
    long[] lips = new long[5];
    long[] folds = new long[5];
    for (int i = 0; i < n - 1; i++) {
      long x = s.toLips[i];
      long y = s.toFolds[i + 1];
      long d = (s.widths[i + 1] - s.widths[i]) * (x + y) + s.rests[i];
      long q = down(d, s.widths[i] + s.widths[i + 1]);
      s.rests[i] = d - q * (s.widths[i] + s.widths[i + 1]);
      lips[i + 1] = x + q;
      folds[i] = y - q;
    }
    long d = backs() * s.toFolds[0] + s.foldsRest;
    long q = down(d, 100);
    s.foldsRest = d - 100 * q;
    lips[0] = source + q;
    long x = s.toLips[n - 1];
    d = lips() * x + s.lipsRest;
    q = down(d, 100);
    s.lipsRest = d - 100 * q;
    folds[n - 1] = -q;
    s.sounds.add(x + q);
    for (int i = 0; i < n; i++) {
      s.toLips[i] = weaker(lips[i]);
      s.toFolds[i] = weaker(folds[i]);
    }
  }

  int width(int p) { return piece(p) ? s.widths[p] : -1; }

  int led(int tick, int p, int what) {
    if (tick < 0 || tick >= clock() || !piece(p)) return -1;
    Led l = s.leds.get(tick).get(p);
    return switch (what) {
      case 0 -> l.width;
      case 1 -> l.aim;
      case 2 -> l.said;
      case 3 -> l.item;
      case 4 -> l.clause;
      default -> -1;
    };
  }

  long sound(int step) { return step < 0 || step >= s.sounds.size() ? 0 : s.sounds.get(step); }
  long wave(int p, boolean lips) { return !piece(p) ? 0 : lips ? s.toLips[p] : s.toFolds[p]; }

  long left(int joint) {
    if (joint >= 0 && joint <= n - 2) return s.rests[joint];
    return joint == 10 ? s.foldsRest : joint == 11 ? s.lipsRest : -1;
  }

  int foldsOf(int what) {
    return switch (what) {
      case 0 -> s.gap;
      case 1 -> s.pace;
      case 2 -> s.strain;
      case 3 -> s.met;
      default -> -100;
    };
  }

  int rhythm(int breath, int what) {
    if (breath < 0 || breath > 40 || what < 0 || what > 3) return -1;
    List<String> states = new ArrayList<>();
    List<int[]> steps = new ArrayList<>();
    int gap = 10, pace = 0;
    while (!states.contains(gap + " " + pace)) {
      states.add(gap + " " + pace);
      int[] f = foldStep(gap, pace, breath, s.stiff, s.weight);
      steps.add(f);
      gap = f[0];
      pace = f[1];
    }
    int lead = states.indexOf(gap + " " + pace);
    List<int[]> ring = steps.subList(lead, steps.size());
    return switch (what) {
      case 0 -> lead;
      case 1 -> ring.size();
      case 2 -> ring.stream().mapToInt(f -> f[3]).sum();
      default -> ring.stream().mapToInt(f -> f[2]).sum();
    };
  }

  int unsafe(int a, int b, int most) {
    if (a < 0 || a > 40 || b < 0 || b > 40 || most < 0 || most > 1000) return -1;
    for (int x = a; x <= b; x++) if (100 * rhythm(x, 3) > most * rhythm(x, 1)) return x;
    return -1;
  }

  int[] shape(int... w) {
    for (int i = 0; i < n; i++) if (w[i] < 1 || w[i] > 12) return null;
    return w;
  }

  int countAbove(int[] w, int x) {
    BigInteger r = BigInteger.ZERO, v = BigInteger.ONE;
    int sign = 1, changes = 0;
    for (int i = n - 1; i >= 0; i--) {
      BigInteger r2 = BigInteger.valueOf(20 * x).multiply(r).subtract(BigInteger.valueOf(400 - x * x).multiply(v));
      BigInteger v2 = BigInteger.valueOf(20 * x).multiply(v).add(BigInteger.valueOf(400).multiply(r));
      r = r2;
      v = v2;
      if (i > 0) {
        r = r.multiply(BigInteger.valueOf(w[i - 1]));
        v = v.multiply(BigInteger.valueOf(w[i]));
      }
      if (v.signum() == -sign) {
        changes++;
        sign = -sign;
      }
    }
    return changes;
  }

  int box(int[] w, int k) {
    if (k < 0) return -100;
    for (int x = 19; x >= -20; x--) if (countAbove(w, x) > k) return x;
    return -100;
  }

  int above(int a, int b, int c, int d, int e, int x) {
    int[] w = shape(a, b, c, d, e);
    return w == null || x < -20 || x > 20 ? -1 : countAbove(w, x);
  }

  int tone(int a, int b, int c, int d, int e, int k) {
    int[] w = shape(a, b, c, d, e);
    return w == null ? -100 : box(w, k);
  }

  int alike(int a, int b, int c, int d, int e) {
    int[] w = shape(a, b, c, d, e);
    if (w == null) return -1;
    TreeSet<String> ratios = new TreeSet<>();
    TreeSet<Integer> products = new TreeSet<>();
    for (int i = 0; i < n; i++) {
      int g = BigInteger.valueOf(w[i]).gcd(BigInteger.valueOf(s.widths[i])).intValue();
      ratios.add(w[i] / g + "/" + s.widths[i] / g);
      products.add(w[i] * s.widths[n - 1 - i]);
    }
    return ratios.size() == 1 ? 1 : products.size() == 1 ? 2 : 0;
  }

  int grid(int p, int bits) {
    if (!piece(p)) return -1;
    TreeSet<Integer> set = new TreeSet<>();
    for (int i = 0; i < 32; i++) if ((bits >>> i & 1) == 1) set.add(i);
    if (set.isEmpty() || set.size() > 4 || set.first() < 1 || set.last() > 12) return -1;
    s.grid.set(p, set);
    return shapes().size();
  }

  List<int[]> shapes() {
    List<int[]> all = new ArrayList<>();
    all.add(new int[n]);
    for (int p = 0; p < n; p++) {
      List<int[]> next = new ArrayList<>();
      for (int[] w : all)
        for (int width : s.grid.get(p)) {
          int[] x = w.clone();
          x[p] = width;
          next.add(x);
        }
      all = next;
    }
    return all;
  }

  int hear(int sound, int tone, int from, int to) {
    if (sound < 0 || sound > 7 || tone < 0 || tone > 4 || from < -20 || to > 19 || from > to) return -1;
    if (s.told.size() == 100) return -1;
    s.told.add(new Telling(sound, tone, from, to));
    s.look = s.told.size();
    return s.told.size();
  }

  boolean look(int time) {
    if (time < 0 || time > s.told.size()) return false;
    s.look = time;
    return true;
  }

  boolean makesIt(int[] w, int sound) {
    for (int k = 0; k < 5; k++) {
      for (int i = s.look - 1; i >= 0; i--) {
        Telling t = s.told.get(i);
        if (t.sound == sound && t.tone == k) {
          int b = box(w, k);
          if (b < t.from || b > t.to) return false;
          break;
        }
      }
    }
    return true;
  }

  List<int[]> makers(int sound) {
    return shapes().stream().filter(w -> makesIt(w, sound)).toList();
  }

  int makes(int sound) { return sound < 0 || sound > 7 ? -1 : makers(sound).size(); }

  int maker(int sound, int i, int p) {
    if (sound < 0 || sound > 7 || !piece(p)) return -1;
    List<int[]> all = makers(sound);
    return i < 0 || i >= all.size() ? -1 : all.get(i)[p];
  }

  int far(int[] a, int[] b) {
    int sum = 0;
    for (int i = 0; i < n; i++) sum += Math.abs(a[i] - b[i]);
    return sum;
  }

  int nearest(int sound, int p) {
    if (sound < 0 || sound > 7 || p < -1 || p >= n) return -1;
    int[] best = null;
    for (int[] w : makers(sound)) if (best == null || far(w, s.widths) < far(best, s.widths)) best = w;
    return best == null ? -1 : p == -1 ? far(best, s.widths) : best[p];
  }

  /** The whole row is carried along with each sum, and rows are compared shape by shape. */
  record Way(int sum, List<Integer> numbers) {
    boolean betterThan(Way o) {
      if (o == null || sum != o.sum) return o == null || sum < o.sum;
      for (int i = 0; i < numbers.size(); i++) {
        int c = Integer.compare(numbers.get(i), o.numbers.get(i));
        if (c != 0) return c < 0;
      }
      return false;
    }
  }

  int row(int m, int k, int p) {
    if (m < 1 || m > 8) return -1;
    if (k != -1 && (k < 0 || k >= m || !piece(p))) return -1;
    List<int[]> all = shapes();
    Way[] ways = new Way[all.size()];
    for (int i = 0; i < m; i++) {
      Way[] next = new Way[all.size()];
      for (int to = 0; to < all.size(); to++) {
        if (!makesIt(all.get(to), i)) continue;
        if (i == 0) {
          next[to] = new Way(0, List.of(to));
          continue;
        }
        for (int from = 0; from < all.size(); from++) {
          if (ways[from] == null) continue;
          List<Integer> numbers = new ArrayList<>(ways[from].numbers);
          numbers.add(to);
          Way w = new Way(ways[from].sum + far(all.get(from), all.get(to)), numbers);
          if (w.betterThan(next[to])) next[to] = w;
        }
      }
      ways = next;
    }
    Way best = null;
    for (Way w : ways) if (w != null && w.betterThan(best)) best = w;
    return best == null ? -1 : k == -1 ? best.sum : all.get(best.numbers.get(k))[p];
  }

  int image() {
    image = s.copy();
    return clock();
  }

  int back() {
    s = image.copy();
    return clock();
  }

  int about(int what) {
    return switch (what) {
      case 0 -> n;
      case 1 -> clock();
      case 2 -> s.told.size();
      case 3 -> s.look;
      case 4 -> s.said.size();
      case 5 -> shapes().size();
      case 6 -> tape.size();
      case 7 -> s.breath;
      case 8 -> s.stiff;
      case 9 -> s.weight;
      default -> -1;
    };
  }
}
