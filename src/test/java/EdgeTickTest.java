import java.util.HashMap;
import java.util.Map;

/** The sentences of promises 8 to 17, and of the Terms' TICKS, FOLDS, WAVES and RHYTHMS, that name a boundary case. */
public final class EdgeTickTest {
  private static final int MIN = Edges.MIN;
  private static final int MAX = Edges.MAX;
  private static final long MOST_WAVE = 1000000000L;

  public static void main(String[] args) {
    folds();
    ticks();
    clockFull();
    width();
    widthGoes();
    wanted();
    strongest();
    led();
    sound();
    wave();
    waveFull();
    left();
    restsOfAll();
    foldsOf();
    gapAndPace();
    rhythm();
    everyRhythm();
    unsafe();
    Edges.finish(8, 9, 10, 11, 12, 13, 14, 15, 16, 17);
  }

  private static void folds() {
    Edges.sentence(8, "BREATH (0 .. 40), STIFF (1 .. 20), WEIGHT (1 .. 20): true");
    int[][] right = {{0, 1, 1}, {40, 20, 20}, {0, 20, 1}, {40, 1, 20}};
    for (int[] c : right) {
      PipeVoice x = new PipeVoice(2);
      Edges.due("folds", x.folds(c[0], c[1], c[2]), true);
      for (int i = 0; i < 3; i++) Edges.due("about(" + (7 + i) + ")", x.about(7 + i), c[i]);
    }
    Edges.sentence(8, "at first 0, 5, 4");
    int[] first = {0, 5, 4};
    for (int i = 0; i < 3; i++) Edges.due("about(" + (7 + i) + ")", new PipeVoice(2).about(7 + i), first[i]);

    Edges.sentence(8, "False, changing nothing, for others");
    for (int breath : new int[] {MIN, -1, 41, MAX}) Edges.refused("folds of " + breath, x -> x.folds(breath, 7, 8) ? 1 : 0, 0);
    for (int other : new int[] {MIN, -1, 0, 21, MAX}) {
      Edges.refused("folds stiff " + other, x -> x.folds(9, other, 8) ? 1 : 0, 0);
      Edges.refused("folds weight " + other, x -> x.folds(9, 7, other) ? 1 : 0, 0);
    }
  }

  private static void ticks() {
    Edges.sentence(9, "n TICKS go by (1 .. 50): the clock");
    PipeVoice x = new PipeVoice(2);
    Edges.due("the clock at first", x.about(1), 0);
    Edges.due("ticks(1)", x.ticks(1), 1);
    Edges.due("ticks(50)", x.ticks(50), 51);

    Edges.sentence(9, "NONE for others");
    for (int n : new int[] {MIN, -50, -1, 0, 51, 200, MAX}) Edges.refused("ticks(" + n + ")", y -> y.ticks(n), -1);
  }

  private static PipeVoice late(int clock) {
    PipeVoice x = Edges.busy();
    for (int now = x.about(1); now < clock; now = x.about(1)) x.ticks(Math.min(50, clock - now));
    return x;
  }

  private static void clockFull() {
    Edges.sentence(9, "or beyond 200: none of them goes by");
    int[][] beyond = {{151, 50}, {160, 41}, {199, 2}, {200, 1}, {200, 50}, {200, MAX}};
    for (int[] c : beyond) Edges.refused(() -> late(c[0]), "ticks(" + c[1] + ") at " + c[0], x -> x.ticks(c[1]), -1);
    int[][] just = {{150, 50}, {160, 40}, {199, 1}};
    for (int[] c : just) Edges.due("ticks(" + c[1] + ") at " + c[0], late(c[0]).ticks(c[1]), 200);
    PipeVoice x = late(200);
    Edges.due("say at 200", x.say(0), 3);
    Edges.due("back", x.back(), 2);
    Edges.due("ticks again", x.ticks(50), 52);
  }

  private static void width() {
    Edges.sentence(10, "NONE for others");
    for (int n = 2; n <= 5; n++) {
      PipeVoice x = new PipeVoice(n);
      for (int i = 0; i < n; i++) Edges.due("width(" + i + ") of " + n, x.width(i), 6);
      for (int piece : new int[] {MIN, -1, n, 5, MAX}) Edges.due("width(" + piece + ") of " + n, x.width(piece), -1);
    }
  }

  private static void way(String gesture, int... widths) {
    PipeVoice x = Edges.with(2, "gesture A 0 " + gesture + " hold 50 strong 1;word A A at 0;");
    x.say(0);
    for (int i = 0; i < widths.length; i++) {
      x.ticks(1);
      Edges.due("WIDTH by " + gesture + " on TICK " + i, x.width(0), widths[i]);
      Edges.due("the other PIECE", x.width(1), 6);
    }
  }

  private static void widthGoes() {
    Edges.sentence(10, "The WIDTH goes to AIM, by SPEED at most");
    way("to 12 by 6", 12, 12);
    way("to 11 by 6", 11, 11);
    way("to 12 by 5", 11, 12, 12);
    way("to 1 by 6", 1, 1);
    way("to 1 by 5", 1, 1);
    way("to 1 by 4", 2, 1, 1);
    way("to 12 by 1", 7, 8, 9, 10, 11, 12, 12);
    way("to 6 by 6", 6, 6);
    way("to 7 by 6", 7, 7);

    Edges.sentence(10, "Without any: AIM is REST, SPEED 1, LED by none");
    PipeVoice x = Edges.with(2, "rest 12,1;");
    int[][] due = {{7, 5}, {8, 4}, {9, 3}, {10, 2}, {11, 1}, {12, 1}, {12, 1}};
    for (int tick = 0; tick < due.length; tick++) {
      x.ticks(1);
      for (int p = 0; p < 2; p++) {
        Edges.due("WIDTH of " + p + " on TICK " + tick, x.width(p), due[tick][p]);
        Edges.due("AIM", x.led(tick, p, 1), p == 0 ? 12 : 1);
        for (int what = 2; what <= 4; what++) Edges.due("led by none", x.led(tick, p, what), -1);
      }
    }
  }

  /** SAID from TICK s, an ITEM at a, HOLD h: those TICKS alone have the gesture. */
  private static void held(int s, int a, int h) {
    PipeVoice x = Edges.with(2, "gesture A 1 to 9 by 1 hold " + h + " strong 0;word A A at " + a + ";");
    run(x, s);
    x.say(0);
    run(x, 200);
    int first = s + a;
    int last = s + a + h - 1;
    for (int t : new int[] {first - 1, first, first + 1, last - 1, last, last + 1, 0, 199}) {
      if (t < 0 || t >= 200) continue;
      boolean held = t >= first && t <= last;
      String call = "TICK " + t + " of SAID " + s + ", at " + a + ", HOLD " + h;
      Edges.due(call, x.led(t, 1, 4), held ? 0 : -1);
      Edges.due(call, x.led(t, 1, 1), held ? 9 : 6);
      Edges.due(call + ", the other PIECE", x.led(t, 0, 4), -1);
    }
  }

  private static void run(PipeVoice x, int clock) {
    for (int now = x.about(1); now < clock; now = x.about(1)) x.ticks(Math.min(50, clock - now));
  }

  private static void wanted() {
    Edges.sentence(11, "with t from s + a to s + a + HOLD - 1");
    int[][] cases = {{0, 0, 1}, {0, 0, 50}, {0, 99, 1}, {0, 99, 50}, {7, 5, 2}, {100, 99, 1}, {100, 99, 50}, {101, 99, 50}, {199, 0, 1}, {199, 1, 1}, {150, 0, 50}, {151, 0, 50}};
    for (int[] c : cases) held(c[0], c[1], c[2]);
    // SAID at 200: there is no TICK for it.
    PipeVoice x = Edges.with(2, "gesture A 1 to 9 by 1 hold 50 strong 0;word A A at 0;");
    run(x, 200);
    Edges.due("say at 200", x.say(0), 1);
    Edges.due("the last TICK", x.led(199, 1, 4), -1);
  }

  private static void strongest() {
    Edges.sentence(11, "Of these those of greatest STRENGTH");
    leads("gesture A 0 to 9 by 1 hold 9 strong 0;", 9, 7, 0);
    leads("gesture A 0 to 9 by 6 hold 9 strong 8;gesture A 0 to 3 by 1 hold 9 strong 9;", 3, 5, 1);
    leads("gesture A 0 to 3 by 1 hold 9 strong 9;gesture A 0 to 9 by 6 hold 9 strong 8;", 3, 5, 0);
    leads("gesture A 0 to 9 by 6 hold 9 strong 0;gesture A 0 to 3 by 1 hold 9 strong 1;gesture A 0 to 4 by 2 hold 9 strong 1;", 3, 4, 1);

    Edges.sentence(11, "AIM: the mean of their WIDTHS, cut; SPEED: their greatest");
    leads("gesture A 0 to 1 by 6 hold 9 strong 1;gesture A 0 to 2 by 1 hold 9 strong 1;", 1, 1, 0);
    leads("gesture A 0 to 12 by 1 hold 9 strong 1;gesture A 0 to 11 by 6 hold 9 strong 1;", 11, 11, 0);
    leads("gesture A 0 to 1 by 1 hold 9 strong 1;gesture A 0 to 1 by 1 hold 9 strong 1;gesture A 0 to 12 by 2 hold 9 strong 1;", 4, 4, 0);
    leads("gesture A 0 to 12 by 6 hold 9 strong 1;gesture A 0 to 12 by 6 hold 9 strong 1;", 12, 12, 0);

    Edges.sentence(11, "LED by the first of them (by SAID, ITEM, CLAUSE)");
    PipeVoice x = Edges.with(2, "gesture B 0 to 6 by 1 hold 1 strong 1;gesture A 0 to 6 by 1 hold 9 strong 1;"
        + "word A A at 3,A at 2,B at 0;word B B at 0;word C A at 0;");
    x.say(0);
    x.say(1);
    x.say(2);
    x.ticks(4);
    // TICK 0: B by the first of SAID; 1: A by the third alone; 2: A by the first, 3: A by the first, by its first ITEM.
    int[][] due = {{0, 2, 0}, {2, 0, 1}, {0, 1, 1}, {0, 0, 1}};
    for (int t = 0; t < 4; t++) for (int i = 0; i < 3; i++) Edges.due("led(" + t + ", 0, " + (2 + i) + ")", x.led(t, 0, 2 + i), due[t][i]);
    // 20 that are SAID and 8 ITEMS each: the greatest that led can tell.
    x = Edges.with(2, "gesture A 1 to 6 by 1 hold 1 strong 0;gesture B 0 to 9 by 1 hold 1 strong 0;"
        + "word A A at 99,A at 99,A at 99,A at 99,A at 99,A at 99,A at 99,A at 99;word B A at 0,A at 0,A at 0,A at 0,A at 0,A at 0,A at 0,B at 0;");
    for (int i = 0; i < 19; i++) x.say(0);
    Edges.due("the 20th", x.say(1), 20);
    x.ticks(1);
    int[] last = {7, 9, 19, 7, 1};
    for (int i = 0; i < 5; i++) Edges.due("led(0, 0, " + i + ")", x.led(0, 0, i), last[i]);
  }

  private static void leads(String gestures, int aim, int width, int clause) {
    PipeVoice x = Edges.with(2, gestures + "word A A at 0;");
    x.say(0);
    x.ticks(1);
    int[] due = {width, aim, 0, 0, clause};
    for (int i = 0; i < 5; i++) Edges.due("led(0, 0, " + i + ") of " + gestures, x.led(0, 0, i), due[i]);
  }

  private static void led() {
    Edges.sentence(11, "on a TICK that is over");
    PipeVoice x = new PipeVoice(2);
    Edges.due("led(0, 0, 0) at 0", x.led(0, 0, 0), -1);
    x.image();
    x.ticks(50);
    Edges.due("the first", x.led(0, 0, 0), 6);
    Edges.due("the last", x.led(49, 1, 1), 6);
    Edges.due("the next", x.led(50, 0, 0), -1);
    x.back();
    Edges.due("the first, which isn't over now", x.led(0, 0, 0), -1);
    run(x, 200);
    Edges.due("led(199, 0, 0)", x.led(199, 0, 0), 6);
    Edges.due("led(200, 0, 0)", x.led(200, 0, 0), -1);

    Edges.sentence(11, "(2 to 4 NONE: REST). NONE for others");
    for (int what = 2; what <= 4; what++) Edges.due("led(0, 0, " + what + ")", x.led(0, 0, what), -1);
    int[][] bad = {{-1, 0, 0}, {MIN, 0, 0}, {MAX, 0, 0}, {0, -1, 0}, {0, 2, 0}, {0, 4, 0}, {0, 5, 0}, {0, MIN, 0}, {0, MAX, 0},
        {0, 0, -1}, {0, 0, 5}, {0, 0, 6}, {0, 0, 32}, {0, 0, MIN}, {0, 0, MAX}, {MAX / 5 + 1, 0, 0}};
    for (int[] c : bad) Edges.due("led " + c[0] + " " + c[1] + " " + c[2], x.led(c[0], c[1], c[2]), -1);
    for (int n = 2; n <= 5; n++) {
      x = new PipeVoice(n);
      x.ticks(2);
      for (int p = 0; p <= 5; p++) Edges.due("led(1, " + p + ", 0) of " + n, x.led(1, p, 0), p < n ? 6 : -1);
    }
  }

  /** Nothing is thrown back and no joint parts anything: SOUND is SOURCE, n STEPS later. */
  private static PipeVoice open(int pieces, int breath, int stiff, int weight) {
    PipeVoice x = Edges.with(pieces, "lips 0;back 0;");
    x.folds(breath, stiff, weight);
    return x;
  }

  private static void sound() {
    Edges.sentence(12, "SOUND of a STEP that is over (0 .. 1999)");
    PipeVoice x = open(2, 40, 1, 1);
    // GAP is 19, 28, 37, 46, 50 and stays so: SOURCE is 4 times that.
    run(x, 1);
    long[] first = {0, 0, 76, 112, 148, 184, 200, 200, 200, 200};
    for (int i = 0; i < 10; i++) Edges.due("sound(" + i + ")", x.sound(i), first[i]);
    Edges.due("sound(10) at 1", x.sound(10), 0);
    run(x, 199);
    Edges.due("sound(1989) at 199", x.sound(1989), 200);
    Edges.due("sound(1990) at 199", x.sound(1990), 0);
    run(x, 200);
    Edges.due("sound(1990)", x.sound(1990), 200);
    Edges.due("sound(1999)", x.sound(1999), 200);
    Edges.sentence(12, "0 for others");
    for (int step : new int[] {MIN, -1, 2000, 2001, MAX}) Edges.due("sound(" + step + ")", x.sound(step), 0);
    x.back();
    for (int step : new int[] {0, 2, 9, 1999}) Edges.due("sound(" + step + ") at 0", x.sound(step), 0);

    Edges.sentence(12, "SOURCE: BREATH * GAP / 10, cut, by the new GAP");
    // GAP 11, 13, 16: PACE 1, 2, 3 by 19 - 10, 11, 13 over 6 (cut to 1).
    x = open(2, 19, 10, 6);
    x.ticks(1);
    long[] cut = {0, 0, 20, 24, 30};
    for (int i = 0; i < 5; i++) Edges.due("sound(" + i + ")", x.sound(i), cut[i]);
  }

  private static void wave() {
    Edges.sentence(13, "at first 0; 0 for others");
    for (int n = 2; n <= 5; n++) {
      PipeVoice x = new PipeVoice(n);
      for (int p = 0; p < n; p++) {
        Edges.due("wave(" + p + ", true) at first", x.wave(p, true), 0);
        Edges.due("wave(" + p + ", false) at first", x.wave(p, false), 0);
      }
      x.folds(40, 1, 1);
      x.ticks(3);
      for (int piece : new int[] {MIN, -1, n, 5, 10, MAX}) {
        Edges.due("wave(" + piece + ", true) of " + n, x.wave(piece, true), 0);
        Edges.due("wave(" + piece + ", false) of " + n, x.wave(piece, false), 0);
      }
    }
    PipeVoice x = open(5, 40, 1, 1);
    x.ticks(2);
    for (int p = 0; p < 5; p++) {
      Edges.due("wave(" + p + ", true)", x.wave(p, true), 200);
      Edges.due("wave(" + p + ", false)", x.wave(p, false), 0);
    }
  }

  /** WIDTHS that go to and fro with the waves, so that these grow and grow. */
  private static String growing(int loss) {
    return "rest 12,12,12;loss " + loss + ";gesture A 0 to 12 by 6 hold 1 strong 1;gesture A 2 to 1 by 6 hold 1 strong 1;"
        + "gesture B 0 to 1 by 6 hold 50 strong 0;gesture B 2 to 12 by 6 hold 50 strong 0;"
        + "word A A at 0,A at 2,A at 4,A at 6,A at 8,A at 10,A at 12,A at 14;word B B at 0;";
  }

  private static void waveFull() {
    Edges.sentence(13, "what is above 1000000000 is that (below the same less)");
    for (int loss : new int[] {0, 1, 5}) {
      PipeVoice x = Edges.with(3, growing(loss));
      PlainVoice y = plainOf(3, growing(loss));
      x.folds(20, 5, 4);
      y.folds(20, 5, 4);
      long most = 0;
      long least = 0;
      for (int t = 0; t < 96; t++) {
        if (t % 16 == 0) {
          x.say(0);
          y.say(0);
        }
        if (t % 48 == 0) {
          x.say(1);
          y.say(1);
        }
        x.ticks(1);
        y.ticks(1);
        long last = x.wave(t % 3, t % 2 == 0);
        Edges.due("a wave on TICK " + t + " with LOSS " + loss, last, y.wave(t % 3, t % 2 == 0));
        for (int p = 0; p < 3 && t > 76; p++) {
          for (boolean lips : new boolean[] {true, false}) {
            most = Math.max(most, x.wave(p, lips));
            least = Math.min(least, x.wave(p, lips));
          }
        }
      }
      Edges.due("the greatest wave with LOSS " + loss, most, MOST_WAVE);
      Edges.due("the least wave with LOSS " + loss, least, -MOST_WAVE);
      for (int step = 950; step < 960; step++) Edges.due("sound(" + step + ")", x.sound(step), y.sound(step));
      for (int joint = 0; joint < 12; joint++) Edges.due("left(" + joint + ")", x.left(joint), y.left(joint));
    }
  }

  private static PlainVoice plainOf(int pieces, String text) {
    PlainVoice y = new PlainVoice(pieces);
    for (int i = 0; i < text.length(); i++) y.tape.add((byte) text.charAt(i));
    y.text();
    return y;
  }

  private static void left() {
    Edges.sentence(14, "REST of a joint (0 .. n - 2), of the folds' end (10), of the lips' (11). NONE for others");
    for (int n = 2; n <= 5; n++) {
      PipeVoice x = new PipeVoice(n);
      for (int joint = 0; joint <= n - 2; joint++) Edges.due("left(" + joint + ") of " + n, x.left(joint), 0);
      for (int joint = n - 1; joint < 10; joint++) Edges.due("left(" + joint + ") of " + n, x.left(joint), -1);
      for (int joint : new int[] {10, 11}) Edges.due("left(" + joint + ")", x.left(joint), 0);
      for (int joint : new int[] {MIN, -1, 12, 13, 100, MAX}) Edges.due("left(" + joint + ")", x.left(joint), -1);
    }

    Edges.sentence(14, "cut downwards, the REST what is left over (0 or above)");
    // GAP stays at 10 with BREATH 10, STIFF 10: SOURCE is 10. WIDTHS 5 and 6 on TICK 0: parts of 11.
    PipeVoice x = Edges.with(2, "rest 1,6;lips 0;back 0;");
    x.folds(10, 10, 1);
    x.ticks(1);
    // What came to the joint: 10 in each of 9 STEPS: 90 together, 2 left over 8 times 11.
    Edges.due("left(0)", x.left(0), 2);
    // WIDTHS 7 and 6: -10 each time, parts of 13: 9 STEPS from -10 to -90, which is 1 above 7 times 13 below 0.
    x = Edges.with(2, "rest 12,6;lips 0;back 0;");
    x.folds(10, 10, 1);
    x.ticks(1);
    Edges.due("left(0)", x.left(0), 1);
    // 33 of 100 of each 10 at the lips, in 8 STEPS: 2640.
    x = Edges.with(2, "lips 33;back 0;");
    x.folds(10, 10, 1);
    x.ticks(1);
    Edges.due("left(11)", x.left(11), 40);
    // To the folds come -10 in four STEPS, then -9 in two: by then q, cut downwards, was -1 in the first two.
    x = Edges.with(2, "lips 100;back 7;");
    x.folds(10, 10, 1);
    x.ticks(1);
    Edges.due("left(10)", x.left(10), Math.floorMod(-7 * (10 + 10 + 10 + 10 + 9 + 9), 100));
  }

  private static void restsOfAll() {
    Edges.sentence(14, "RESTS of joints and ends: each has its own, up to the last joint of the longest throat");
    String[] rests = {"rest 2,11;", "rest 9,2,7;", "rest 3,12,1,8;", "rest 5,1,12,4,9;"};
    for (int n = 2; n <= 5; n++) {
      String text = rests[n - 2] + "lips 37;back 71;loss 3;";
      PipeVoice x = Edges.with(n, text);
      PlainVoice y = plainOf(n, text);
      for (int t = 0; t < 12; t++) {
        x.folds(15 + t, 5, 4);
        y.folds(15 + t, 5, 4);
        x.ticks(1);
        y.ticks(1);
        for (int joint = 0; joint < 12; joint++) Edges.due("left(" + joint + ") of " + n + " behind TICK " + t, x.left(joint), y.left(joint));
        for (int p = 0; p < n; p++) Edges.due("wave(" + p + ", true) of " + n + " behind TICK " + t, x.wave(p, true), y.wave(p, true));
        for (int p = 0; p < n; p++) Edges.due("wave(" + p + ", false) of " + n + " behind TICK " + t, x.wave(p, false), y.wave(p, false));
      }
    }
  }

  private static void foldsOf() {
    Edges.sentence(15, "GAP (at first 10), PACE (at first 0); -100 for others");
    PipeVoice x = new PipeVoice(2);
    int[] first = {10, 0, 0, 0};
    for (int what = 0; what < 4; what++) Edges.due("foldsOf(" + what + ")", x.foldsOf(what), first[what]);
    for (int what : new int[] {MIN, -100, -1, 4, 5, MAX}) Edges.due("foldsOf(" + what + ")", x.foldsOf(what), -100);

    Edges.sentence(15, "(-9 .. 9: what is above is 9, below -9)");
    // 39 would be the first PACE.
    gaps(40, 1, 1, 19, 28, 37, 46, 50, 50);
    // -10 would be the first, -19 with 10 of BREATH: GAP 1 by -9.
    gaps(10, 20, 1, 1, 0, 9, 10, 1, 0, 9, 10);
    // PACE 9 exactly, and 8.
    gaps(20, 11, 1, 19, 28, 27);
    gaps(20, 12, 1, 18, 25);
    // BREATH 0, STIFF 20: -9 and -2 are -9 again: they MEET by 9, not by 11.
    Edges.due("STRAIN of the first meeting", met(0, 20, 1, 1)[2], 15);
  }

  /** GAP behind each of the first STEPS, as SOUND tells it. BREATH must be 10, 20 or 40. */
  private static void gaps(int breath, int stiff, int weight, int... due) {
    PipeVoice x = open(2, breath, stiff, weight);
    x.ticks(1);
    for (int i = 0; i < due.length; i++) Edges.due("GAP of STEP " + i + " with " + breath + " " + stiff + " " + weight, x.sound(i + 2), due[i] * breath / 10);
  }

  private static int[] met(int breath, int stiff, int weight, int ticks) {
    PipeVoice x = new PipeVoice(2);
    x.folds(breath, stiff, weight);
    x.ticks(ticks);
    return new int[] {x.foldsOf(0), x.foldsOf(1), x.foldsOf(2), x.foldsOf(3)};
  }

  private static void state(String call, int[] got, int... due) {
    for (int i = 0; i < 4; i++) Edges.due("foldsOf(" + i + ") of " + call, got[i], due[i]);
  }

  private static void gapAndPace() {
    Edges.sentence(15, "GAP and PACE together: below 0: they MEET");
    // 0 itself is not below 0: GAP 7, 3, 0 (PACE -3), 0 (PACE 0), 3, 7, 10, 10, 7, 3 without a meeting.
    gaps(10, 19, 3, 7, 3, 0, 0, 3, 7, 10, 10);
    state("10 19 3", met(10, 19, 3, 1), 3, -4, 0, 0);
    // GAP 1, 0 (MET by 9), 4, 0, 0 (by 4), 2, 0, 0 (by 2), 1, 0; on the next TICK 0 (by 1), and rest.
    state("0 20 1", met(0, 20, 1, 1), 0, -1, 15, 3);
    state("0 20 1, two TICKS", met(0, 20, 1, 2), 0, 0, 16, 4);

    Edges.sentence(15, "above 50: GAP is 50, PACE 0");
    // 50 itself is not above: GAP 44 and PACE 6 are 50, and PACE stays, so that 50 comes twice.
    gaps(20, 6, 2, 17, 26, 35, 44, 50, 50, 45);
    // 46 and 9 are 55.
    state("40 1 1", met(40, 1, 1, 1), 50, 0, 0, 0);
  }

  private static void rhythmDue(PipeVoice x, int breath, int... due) {
    for (int what = 0; what < 4; what++) Edges.due("rhythm(" + breath + ", " + what + ") of " + x.about(8) + " " + x.about(9), x.rhythm(breath, what), due[what]);
  }

  private static void rhythm() {
    Edges.sentence(16, "after how many STEPS it is come to first (LEAD), its length (RING)");
    PipeVoice x = new PipeVoice(2);
    // With 5 and 4 the folds rest at GAP 10 while BREATH is less than 4 away from 5.
    for (int breath = 2; breath <= 8; breath++) rhythmDue(x, breath, 0, 1, 0, 0);
    Edges.due("LEAD of 9", x.rhythm(9, 0) > 0 || x.rhythm(9, 1) > 1, true);
    Edges.due("LEAD of 1", x.rhythm(1, 0) > 0 || x.rhythm(1, 1) > 1, true);
    // The start is in the ring: 10, 7, 3, 0, 0, 3, 7, 10, 10.
    x.folds(0, 19, 3);
    rhythmDue(x, 10, 0, 8, 0, 0);
    // At the bound of 50 for ever: 19, 28, 37, 46, 50, 50.
    x.folds(0, 1, 1);
    rhythmDue(x, 40, 5, 1, 0, 0);

    Edges.sentence(16, "NONE for others (BREATH 0 .. 40)");
    for (int breath : new int[] {MIN, -1, 41, MAX}) for (int what = 0; what < 4; what++) Edges.due("rhythm(" + breath + ", " + what + ")", x.rhythm(breath, what), -1);
    for (int what : new int[] {MIN, -1, 4, 5, MAX}) Edges.due("rhythm(20, " + what + ")", x.rhythm(20, what), -1);
    x.folds(0, 20, 1);
    // BREATH 0: 1, 0 met .. as above: 11 STEPS to rest.
    rhythmDue(x, 0, 11, 1, 0, 0);

    Edges.sentence(16, "with STIFF, WEIGHT as they are; folds from GAP 10, PACE 0 on");
    x.folds(33, 20, 1);
    x.ticks(7);
    rhythmDue(x, 0, 11, 1, 0, 0);
    Edges.refused("rhythm(20, 0)", y -> y.rhythm(20, 0) > -1 ? 1 : 0, 1);
  }

  private static void everyRhythm() {
    Edges.sentence(16, "the states (GAP, PACE) come to a ring, with every BREATH, STIFF and WEIGHT");
    for (int stiff = 1; stiff <= 20; stiff++) {
      for (int weight = 1; weight <= 20; weight++) {
        PipeVoice x = new PipeVoice(2);
        x.folds(0, stiff, weight);
        for (int breath = 0; breath <= 40; breath++) rhythmDue(x, breath, ringOf(breath, stiff, weight));
      }
    }
  }

  private static int[] ringOf(int breath, int stiff, int weight) {
    Map<String, int[]> seen = new HashMap<>();
    int[] f = {10, 0, 0, 0};
    int strain = 0;
    int meets = 0;
    for (int steps = 0; ; steps++) {
      int[] first = seen.putIfAbsent(f[0] + " " + f[1], new int[] {steps, meets, strain});
      if (first != null) return new int[] {first[0], steps - first[0], meets - first[1], strain - first[2]};
      f = PlainVoice.foldStep(f[0], f[1], breath, stiff, weight);
      strain += f[2];
      meets += f[3];
    }
  }

  private static void unsafe() {
    Edges.sentence(17, "is above so much times RING");
    PipeVoice x = new PipeVoice(2);
    x.folds(0, 20, 1);
    // BREATH 5: a ring of 3 with one meeting by 9: 900 is above 299 times 3, not above 300 times 3.
    rhythmDue(x, 5, 5, 3, 1, 9);
    Edges.due("unsafe(5, 5, 299)", x.unsafe(5, 5, 299), 5);
    Edges.due("unsafe(5, 5, 300)", x.unsafe(5, 5, 300), -1);
    Edges.due("unsafe(5, 5, 301)", x.unsafe(5, 5, 301), -1);
    // Without STRAIN 0 is not above 0.
    Edges.due("unsafe(0, 0, 0)", x.unsafe(0, 0, 0), -1);

    Edges.sentence(17, "the first BREATH from a to b that is above");
    int first = -1;
    for (int b = 40; b >= 0; b--) if (x.rhythm(b, 3) > 0) first = b;
    Edges.due("unsafe(0, 40, 0)", x.unsafe(0, 40, 0), first);
    Edges.due("to the first", x.unsafe(0, first, 0), first);
    Edges.due("to the one ahead of it", x.unsafe(0, first - 1, 0), -1);
    Edges.due("from the first", x.unsafe(first, 40, 0), first);
    Edges.due("from the one behind it", x.unsafe(first + 1, 40, 0) > first, true);
    Edges.due("from the last on", x.unsafe(40, 40, 0), x.rhythm(40, 3) > 0 ? 40 : -1);

    Edges.sentence(17, "NONE: none is, and for others (most 0 .. 1000)");
    Edges.due("a behind b", x.unsafe(first, first - 1, 0), -1);
    Edges.due("a behind b", x.unsafe(40, 0, 0), -1);
    Edges.due("unsafe(0, 40, 1000)", x.unsafe(0, 40, 1000), -1);
    int[][] others = {{-1, 40, 0}, {MIN, 40, 0}, {0, 41, 0}, {0, MAX, 0}, {41, 41, 0}, {-2, -1, 0}, {5, 5, -1}, {5, 5, MIN},
        {0, 40, 1001}, {0, 40, MAX}, {MIN, MAX, 0}, {MAX, MIN, 0}};
    for (int[] c : others) Edges.due("unsafe " + c[0] + " " + c[1] + " " + c[2], x.unsafe(c[0], c[1], c[2]), -1);
  }
}
