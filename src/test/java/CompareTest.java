import java.util.Random;

/** Random runs of calls, each answered by the program and by PlainVoice: every answer must be the same. */
public final class CompareTest {
  private static final int RUNS = 2000;
  // An object is promised for so many calls; what one more answers is free.
  private static final int CALLS = 512;

  private final Random random;
  private final PipeVoice x;
  private final PlainVoice y;
  private final StringBuilder run = new StringBuilder();
  private boolean wrong = false;
  private int calls = 0;

  private CompareTest(long seed) {
    random = new Random(seed);
    int pieces = random.nextInt(8);
    x = new PipeVoice(pieces);
    y = new PlainVoice(pieces);
    run.append("new PipeVoice(").append(pieces).append(")\n");
  }

  public static void main(String[] args) {
    int runs = args.length > 0 ? Integer.parseInt(args[0]) : RUNS;
    int first = args.length > 1 ? Integer.parseInt(args[1]) : 1;
    int failed = 0;
    for (int seed = first; seed < first + runs; seed++) {
      CompareTest test = new CompareTest(seed);
      for (int i = 0; i < CALLS && test.goesOn(); i++) test.call();
      if (test.wrong) {
        failed++;
        if (failed < 3) System.out.println("seed " + seed + ":\n" + test.run);
      }
    }
    System.out.println(failed == 0 ? "all runs are answered alike" : failed + " runs are answered otherwise");
    if (failed != 0) System.exit(1);
  }

  private boolean goesOn() { return calls < CALLS && !wrong; }

  /** Each call of the program is told here, once; those beyond the last that is promised aren't compared. */
  private void same(String call, long got, long want) {
    calls++;
    if (calls > CALLS) return;
    run.append(call).append(" = ").append(got);
    if (got != want) {
      run.append(", due is ").append(want);
      wrong = true;
    }
    run.append('\n');
  }

  private int pick(int least, int most) { return least + random.nextInt(most - least + 1); }

  /** Mostly within the span, now and then at or beyond its ends. */
  private int near(int least, int most) {
    if (random.nextInt(12) == 0) {
      int[] odd = {least - 1, most + 1, least, most, Integer.MIN_VALUE, Integer.MAX_VALUE, -1, 100};
      return odd[random.nextInt(odd.length)];
    }
    return pick(least, most);
  }

  private int bits() {
    if (random.nextInt(8) == 0) return random.nextInt();
    int set = 0;
    for (int i = pick(1, y.n > 3 ? 2 : 4); i > 0; i--) set |= 1 << near(1, 12);
    return set;
  }

  private void call() {
    switch (random.nextInt(34)) {
      case 0, 1 -> textCalls();
      case 2 -> { int a = random.nextInt(); same("feed " + a, x.feed(a, 2, 3, 4, 5), y.feed(a, 2, 3, 4, 5)); }
      case 3 -> { int k = near(0, 40); same("end " + k, x.end(k), y.end(k)); }
      case 4 -> { int k = near(0, 1); same("fault " + k, x.fault(k), y.fault(k)); }
      case 5 -> { int k = random.nextBoolean() ? near(0, 4) : near(10, 13); same("law " + k, x.law(k), y.law(k)); }
      case 6, 7 -> { int k = near(0, 7); same("say " + k, x.say(k), y.say(k)); }
      case 8 -> {
        int b = near(0, 40), s = near(1, 20), w = near(1, 20);
        same("folds " + b + " " + s + " " + w, x.folds(b, s, w) ? 1 : 0, y.folds(b, s, w) ? 1 : 0);
      }
      case 9, 10, 11 -> { int k = random.nextInt(3) > 0 ? pick(1, 4) : near(1, 50); same("ticks " + k, x.ticks(k), y.ticks(k)); }
      case 12 -> { for (int p = -1; p <= 5; p++) same("width " + p, x.width(p), y.width(p)); }
      case 13, 14 -> {
        int t = near(Math.max(0, y.clock() - 3), y.clock()), p = near(0, y.n - 1);
        for (int k = -1; k <= 5; k++) same("led " + t + " " + p + " " + k, x.led(t, p, k), y.led(t, p, k));
      }
      case 15 -> { for (int i = 0; i < 20; i++) { int k = near(0, 10 * y.clock()); same("sound " + k, x.sound(k), y.sound(k)); } }
      case 16 -> {
        for (int p = -1; p <= 5; p++) {
          same("wave " + p + " true", x.wave(p, true), y.wave(p, true));
          same("wave " + p + " false", x.wave(p, false), y.wave(p, false));
        }
      }
      case 17 -> { for (int k = -1; k <= 12; k++) same("left " + k, x.left(k), y.left(k)); }
      case 18 -> { for (int k = -1; k <= 4; k++) same("foldsOf " + k, x.foldsOf(k), y.foldsOf(k)); }
      case 19 -> { int b = near(0, 40); for (int k = -1; k <= 4; k++) same("rhythm " + b + " " + k, x.rhythm(b, k), y.rhythm(b, k)); }
      case 20 -> {
        int a = near(0, 40), b = near(0, 40), m = near(0, 1000);
        same("unsafe " + a + " " + b + " " + m, x.unsafe(a, b, m), y.unsafe(a, b, m));
      }
      case 21, 22, 23 -> shapeCalls();
      case 24, 25 -> { int p = near(0, y.n - 1), b = bits(); same("grid " + p + " " + b, x.grid(p, b), y.grid(p, b)); }
      case 26, 27 -> hearCall();
      case 28 -> { int t = near(0, y.s.told.size()); same("look " + t, x.look(t) ? 1 : 0, y.look(t) ? 1 : 0); }
      case 29 -> { for (int k = -1; k <= 8; k++) same("makes " + k, x.makes(k), y.makes(k)); }
      case 30 -> {
        int k = near(0, 2), i = near(0, 3), p = near(-1, y.n - 1);
        same("maker " + k + " " + i + " " + p, x.maker(k, i, p), y.maker(k, i, p));
        same("nearest " + k + " " + p, x.nearest(k, p), y.nearest(k, p));
      }
      case 31 -> rowCalls();
      case 32 -> {
        if (random.nextInt(3) == 0) same("image", x.image(), y.image());
        else same("back", x.back(), y.back());
      }
      default -> { for (int k = -1; k <= 10; k++) same("about " + k, x.about(k), y.about(k)); }
    }
  }

  private void textCalls() {
    String t = new Texts(random, y.n).text();
    if (random.nextInt(8) > 0) same("end 0", x.end(0), y.end(0));
    for (int i = 0; i < t.length(); i += 20) {
      int[] w = new int[5];
      for (int j = 0; j < 20; j++) w[j / 4] = w[j / 4] << 8 | (i + j < t.length() ? t.charAt(i + j) : 0);
      same("feed", x.feed(w[0], w[1], w[2], w[3], w[4]), y.feed(w));
    }
    same("end " + t.length(), x.end(t.length()), y.end(t.length()));
    run.append("the text is: ").append(t).append('\n');
    same("text", x.text(), y.text());
    for (int k = 0; k <= 1; k++) same("fault " + k, x.fault(k), y.fault(k));
    same("about 4", x.about(4), y.about(4));
    same("about 6", x.about(6), y.about(6));
    for (int i = random.nextInt(4); i > 0; i--) {
      int k = pick(0, 7);
      same("say " + k, x.say(k), y.say(k));
    }
  }

  private void shapeCalls() {
    int[] w = new int[5];
    for (int i = 0; i < 5; i++) w[i] = random.nextInt(40) == 0 ? near(1, 12) : pick(1, 12);
    if (random.nextInt(3) == 0) {
      for (int i = 0; i < y.n; i++) w[i] = y.s.widths[random.nextBoolean() ? i : y.n - 1 - i];
    } else if (random.nextInt(3) == 0) {
      int product = y.s.widths[0] * pick(1, 3);
      for (int i = 0; i < y.n; i++) w[i] = product % y.s.widths[y.n - 1 - i] == 0 ? product / y.s.widths[y.n - 1 - i] : 12;
    }
    int k = near(-20, 20), t = near(0, y.n);
    String shape = w[0] + " " + w[1] + " " + w[2] + " " + w[3] + " " + w[4] + " ";
    same("above " + shape + k, x.above(w[0], w[1], w[2], w[3], w[4], k), y.above(w[0], w[1], w[2], w[3], w[4], k));
    same("tone " + shape + t, x.tone(w[0], w[1], w[2], w[3], w[4], t), y.tone(w[0], w[1], w[2], w[3], w[4], t));
    same("alike " + shape, x.alike(w[0], w[1], w[2], w[3], w[4]), y.alike(w[0], w[1], w[2], w[3], w[4]));
  }

  private void hearCall() {
    int sound = near(0, random.nextBoolean() ? 2 : 7), tone = near(0, random.nextInt(10) > 0 ? y.n - 1 : 4);
    int from = near(-20, 19), to = random.nextInt(6) == 0 ? near(-20, 19) : Math.min(19, from + pick(0, 12));
    // About a shape of the GRID, so that some SOUNDS can be made.
    if (random.nextBoolean() && tone >= 0) {
      var all = y.shapes();
      int box = y.box(all.get(random.nextInt(all.size())), tone);
      if (box > -100) {
        from = Math.max(-20, box - pick(0, 2));
        to = Math.min(19, box + pick(0, 2));
      }
    }
    same("hear " + sound + " " + tone + " " + from + " " + to, x.hear(sound, tone, from, to), y.hear(sound, tone, from, to));
  }

  private void rowCalls() {
    int m = near(1, random.nextBoolean() ? 3 : 8);
    if (y.shapes().size() > 100) return;
    int k = near(-1, Math.max(0, Math.min(7, m - 1))), p = near(0, y.n - 1);
    same("row " + m + " -1 " + p, x.row(m, -1, p), y.row(m, -1, p));
    same("row " + m + " " + k + " " + p, x.row(m, k, p), y.row(m, k, p));
  }
}
