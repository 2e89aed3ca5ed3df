/** By hand, promise by promise: ordinary inputs, the edges that the document names, wrong inputs. */
public final class PromiseTest {
  private static final int MIN = Integer.MIN_VALUE;
  private static final int MAX = Integer.MAX_VALUE;
  private static final String GESTURE_A = "gesture A 0 to 9 by 2 hold 3 strong 1;";

  private static int wrong = 0;
  private static int promise = 0;

  private static void due(String call, long got, long want) {
    if (got != want) {
      wrong++;
      System.out.println("promise " + promise + ": " + call + " answered " + got + ", due is " + want);
    }
  }

  private static void due(String call, boolean got, boolean want) {
    due(call, got ? 1 : 0, want ? 1 : 0);
  }

  /** A text on an empty tape, in words of four bytes, and what text() answers. */
  private static int read(PipeVoice x, String text) {
    x.end(0);
    for (int i = 0; i < text.length(); i += 20) {
      int[] w = new int[5];
      for (int j = 0; j < 20; j++) w[j / 4] = w[j / 4] << 8 | (i + j < text.length() ? text.charAt(i + j) : 0);
      x.feed(w[0], w[1], w[2], w[3], w[4]);
    }
    x.end(text.length());
    return x.text();
  }

  private static void fault(int pieces, String text, int which, int place) {
    PipeVoice x = new PipeVoice(pieces);
    due("text of \"" + text + "\"", read(x, text), -1);
    due("fault(0) of \"" + text + "\"", x.fault(0), which);
    due("fault(1) of \"" + text + "\"", x.fault(1), place);
  }

  private static PipeVoice with(int pieces, String text) {
    PipeVoice x = new PipeVoice(pieces);
    if (read(x, text) < 0) throw new IllegalStateException(text);
    return x;
  }

  public static void main(String[] args) {
    newObject();
    tape();
    texts();
    faults();
    laws();
    said();
    folds();
    ticks();
    leads();
    waves();
    rhythms();
    tones();
    alike();
    grid();
    heard();
    makers();
    rows();
    images();
    about();
    System.out.println(wrong == 0 ? "all answers are as due" : wrong + " answers are not as due");
    if (wrong != 0) System.exit(1);
  }

  private static void newObject() {
    promise = 1;
    int[][] cases = {{MIN, 2}, {-1, 2}, {0, 2}, {1, 2}, {2, 2}, {3, 3}, {4, 4}, {5, 5}, {6, 5}, {MAX, 5}};
    for (int[] c : cases) {
      PipeVoice x = new PipeVoice(c[0]);
      due("about(0) of " + c[0], x.about(0), c[1]);
      for (int i = 0; i < 5; i++) due("width " + i + " of " + c[0], x.width(i), i < c[1] ? 6 : -1);
      due("the clock", x.about(1), 0);
      x.folds(20, 5, 4);
      x.ticks(3);
      due("back to the first image", x.back(), 0);
      due("BREATH of the first image", x.about(7), 0);
      due("GAP of the first image", x.foldsOf(0), 10);
    }
  }

  private static void tape() {
    promise = 2;
    PipeVoice x = new PipeVoice(2);
    for (int i = 1; i <= 20; i++) due("feed " + i, x.feed(0x20202020, 0x20202020, 0x20202020, 0x20202020, 0x20202020), 20 * i);
    due("the 21st feed", x.feed(0, 0, 0, 0, 0), -1);
    due("bytes", x.about(6), 400);
    due("a text of 400 blanks", x.text(), 0);
    // "back 7;lips 8;loss 9" and ";": the order of the bytes and of the five.
    due("feed", x.feed(0x6261636b, 0x20373b6c, 0x69707320, 0x383b6c6f, 0x73732039), 20);
    due("feed", x.feed(0x3b202020, 0x20202020, 0x20202020, 0x20202020, 0x20202020), 40);
    due("text", x.text(), 3);
    due("LOSS", x.law(10), 9);
    due("LIPS", x.law(11), 8);
    due("BACK", x.law(12), 7);
    x.feed(1, 2, 3, 4, 5);
    x.end(1);
    for (int i = 1; i < 20; i++) x.feed(0, 0, 0, 0, 0);
    due("a feed from 381 on", x.feed(0, 0, 0, 0, 0), -1);
    due("bytes", x.about(6), 381);

    promise = 3;
    x = new PipeVoice(2);
    due("end(0)", x.end(0), 0);
    due("end(1) of none", x.end(1), -1);
    x.feed(0x6c6f7373, 0x20313b6c, 0x69707320, 0x323b2020, 0x20202020);
    due("end(-1)", x.end(-1), -1);
    due("end(MIN)", x.end(MIN), -1);
    due("end(21)", x.end(21), -1);
    due("bytes", x.about(6), 20);
    due("end(20)", x.end(20), 20);
    due("end(7)", x.end(7), 7);
    due("end(8)", x.end(8), -1);
    due("text", x.text(), 1);
    due("LOSS", x.law(10), 1);
    due("LIPS", x.law(11), 100);
    due("end(1) behind a text", x.end(1), -1);
  }

  private static void texts() {
    promise = 4;
    PipeVoice x = new PipeVoice(3);
    due("an empty text", x.text(), 0);
    due("a text", read(x, "rest 1 , 2,\n3;gesture A0to9by2hold3strong1; word B A at 0,A at 99;loss 007;"), 4);
    due("bytes behind it", x.about(6), 0);
    due("REST", x.law(2), 3);
    due("LOSS", x.law(10), 7);
    x.say(1);
    x.ticks(1);
    due("WIDTH", x.width(0), 8);
    due("a text with a FAULT", read(x, "loss 8;loss 9;"), -1);
    due("bytes behind it", x.about(6), 0);
    due("LOSS stays", x.law(10), 7);
    due("SAID stays", x.about(4), 1);
    due("say", x.say(1), 2);
    due("a text", read(x, "lips 5;"), 1);
    due("SAID is over", x.about(4), 0);
    due("a word of the former text", x.say(1), -1);
    due("WIDTH stays", x.width(0), 8);
    due("REST without a clause", x.law(0), 6);
    due("LOSS without a clause", x.law(10), 0);
    due("gestures", x.law(13), 0);
    x.ticks(1);
    due("WIDTH goes to REST", x.width(0), 7);
    due("two CLAUSES of a GESTURE", read(x, GESTURE_A + GESTURE_A + "word A A at 0;"), 3);
    due("eight ITEMS", read(x, GESTURE_A + "word A A at 0,A at 1,A at 2,A at 3,A at 4,A at 5,A at 6,A at 7;"), 2);
    due("all words", read(x, GESTURE_A + "word A A at 0;word B A at 0;word C A at 0;word D A at 0;word E A at 0;"
        + "word F A at 0;word G A at 0;word H A at 0;"), 9);
    due("the last word", x.say(7), 1);
  }

  private static void faults() {
    promise = 5;
    PipeVoice x = new PipeVoice(2);
    due("fault(0) ahead of any", x.fault(0), -1);
    due("fault(1) ahead of any", x.fault(1), -1);
    x.text();
    due("fault(0) without", x.fault(0), 0);
    due("fault(1) without", x.fault(1), -1);
    read(x, "loss 1;x");
    due("fault(0)", x.fault(0), 1);
    due("fault(1)", x.fault(1), 7);
    due("fault(2)", x.fault(2), -1);
    due("fault(-1)", x.fault(-1), -1);
    read(x, "loss 1;");
    due("fault(0) of the latest", x.fault(0), 0);
    due("fault(1) of the latest", x.fault(1), -1);

    // 1: it can't stand there, or is none.
    fault(2, "loss", 1, 4);
    fault(2, "loss  \n", 1, 7);
    fault(2, "loss 1", 1, 6);
    fault(2, "loss ;", 1, 5);
    fault(2, "loss x;", 1, 5);
    fault(2, "Loss 1;", 1, 0);
    fault(2, "losss 1;", 1, 0);
    fault(2, "los 1;", 1, 0);
    fault(2, "loss 1;;", 1, 7);
    fault(2, "loss 1.", 1, 6);
    fault(2, "loss\t1;", 1, 4);
    fault(2, "loss\r1;", 1, 4);
    fault(2, "loss -1;", 1, 5);
    fault(2, "loss\u00ff1;", 1, 4);
    fault(2, "5", 1, 0);
    fault(2, " ,", 1, 1);
    fault(2, "rest 1 2;", 1, 7);
    fault(2, "rest 1,;", 1, 7);
    fault(2, "rest 1,2,;", 1, 9);
    fault(2, "rest 1,2,", 1, 9);
    fault(2, "rest ;", 1, 5);
    fault(2, "gesture a 0 to 9 by 2 hold 3 strong 1;", 1, 8);
    fault(2, "gesture AB 0 to 9 by 2 hold 3 strong 1;", 1, 8);
    fault(2, "gesture AZ 0 to 9 by 2 hold 3 strong 1;", 1, 8);
    fault(2, "gesture Az 0 to 9 by 2 hold 3 strong 1;", 1, 8);
    fault(2, "gesture 0 to 9 by 2 hold 3 strong 1;", 1, 8);
    fault(2, "gesture A to 9 by 2 hold 3 strong 1;", 1, 10);
    fault(2, "gesture A 0 by 9 to 2 hold 3 strong 1;", 1, 12);
    fault(2, "gesture A 0 to 9 hold 2 by 3 strong 1;", 1, 17);
    fault(2, "gesture A 0 to 9 by 2 strong 3 hold 1;", 1, 22);
    fault(2, "gesture A 0 to 9 by 2 hold 3 strongest 1;", 1, 29);
    fault(2, "gesture A 0 to 9 by 2 hold 3 strong 1", 1, 37);
    fault(2, "word I A at 0;", 1, 5);
    fault(2, GESTURE_A + "word A;", 1, 44);
    fault(2, GESTURE_A + "word A I at 0;", 1, 45);
    fault(2, GESTURE_A + "word A A to 0;", 1, 47);
    fault(2, GESTURE_A + "word A A at 0,;", 1, 52);
    fault(2, GESTURE_A + "word A A at 0 A at 1;", 1, 52);

    // 2: a NUMBER that isn't one of those told.
    fault(2, "loss 101;", 2, 5);
    fault(2, "lips 101;", 2, 5);
    fault(2, "back 101", 2, 5);
    fault(2, "loss 4294967296;", 2, 5);
    fault(2, "loss 99999999999999999999999999;", 2, 5);
    fault(2, "rest 0,1;", 2, 5);
    fault(2, "rest 1,13;", 2, 7);
    fault(2, "gesture A 2 to 9 by 2 hold 3 strong 1;", 2, 10);
    fault(2, "gesture A 0 to 0 by 2 hold 3 strong 1;", 2, 15);
    fault(2, "gesture A 0 to 13 by 2 hold 3 strong 1;", 2, 15);
    fault(2, "gesture A 0 to 9 by 0 hold 3 strong 1;", 2, 20);
    fault(2, "gesture A 0 to 9 by 7 hold 3 strong 1;", 2, 20);
    fault(2, "gesture A 0 to 9 by 2 hold 0 strong 1;", 2, 27);
    fault(2, "gesture A 0 to 9 by 2 hold 51 strong 1;", 2, 27);
    fault(2, "gesture A 0 to 9 by 2 hold 3 strong 10;", 2, 36);
    fault(2, GESTURE_A + "word A A at 100;", 2, 50);

    // 3: a LETTER without a gesture ahead of it.
    fault(2, "word A B at 0;", 3, 7);
    fault(2, GESTURE_A + "word A A at 0,B at 0;", 3, 52);
    fault(2, "word A A at 0;" + GESTURE_A, 3, 7);

    // 4: for the second time.
    fault(2, "rest 1,1;rest 1,1;", 4, 9);
    fault(2, "loss 1;lips 2;back 3;loss x", 4, 21);
    fault(2, "lips 1;lips 2;", 4, 7);
    fault(2, "back 1;back 2;", 4, 7);
    fault(2, GESTURE_A + "word B A at 0;word B C at 0;", 4, 57);

    // 5: too many, too few; of one TOKEN the least.
    fault(3, "rest 1,2;", 5, 8);
    fault(3, "rest 1,2,3,4;", 5, 11);
    fault(3, "rest 1,2,3,13;", 2, 11);
    fault(5, "rest 1,2,3,4;", 5, 12);
    String eight = GESTURE_A + "word A A at 0,A at 1,A at 2,A at 3,A at 4,A at 5,A at 6,A at 7";
    fault(2, eight + ",A at 8;", 5, eight.length() + 1);
    fault(2, eight + ",B at 8;", 3, eight.length() + 1);
    fault(2, eight + ",I at 8;", 1, eight.length() + 1);
    fault(2, eight + ",;", 1, eight.length() + 1);
  }

  private static void laws() {
    promise = 6;
    PipeVoice x = new PipeVoice(3);
    int[] first = {6, 6, 6, -1, -1};
    for (int i = 0; i < 5; i++) due("law(" + i + ")", x.law(i), first[i]);
    due("law(10)", x.law(10), 0);
    due("law(11)", x.law(11), 100);
    due("law(12)", x.law(12), 100);
    due("law(13)", x.law(13), 0);
    read(x, "rest 12,1,5;loss 100;lips 0;back 50;" + GESTURE_A + GESTURE_A);
    int[] then = {12, 1, 5, -1, -1};
    for (int i = 0; i < 5; i++) due("law(" + i + ")", x.law(i), then[i]);
    due("law(10)", x.law(10), 100);
    due("law(11)", x.law(11), 0);
    due("law(12)", x.law(12), 50);
    due("law(13)", x.law(13), 2);
    for (int what : new int[] {MIN, -1, 5, 9, 14, MAX}) due("law(" + what + ")", x.law(what), -1);
  }

  private static void said() {
    promise = 7;
    PipeVoice x = with(2, GESTURE_A + "word A A at 0;word H A at 1;");
    due("say(0)", x.say(0), 1);
    due("say(1)", x.say(1), -1);
    due("say(8)", x.say(8), -1);
    due("say(-1)", x.say(-1), -1);
    due("say(MAX)", x.say(MAX), -1);
    for (int i = 2; i <= 20; i++) due("say(7)", x.say(7), i);
    due("the 21st", x.say(7), -1);
    due("SAID", x.about(4), 20);
  }

  private static void folds() {
    promise = 8;
    PipeVoice x = new PipeVoice(2);
    due("BREATH", x.about(7), 0);
    due("STIFF", x.about(8), 5);
    due("WEIGHT", x.about(9), 4);
    int[][] right = {{0, 1, 1}, {40, 20, 20}, {7, 8, 9}};
    for (int[] c : right) due("folds", x.folds(c[0], c[1], c[2]), true);
    int[][] bad = {{-1, 1, 1}, {41, 1, 1}, {0, 0, 1}, {0, 21, 1}, {0, 1, 0}, {0, 1, 21}, {MIN, MIN, MIN}, {MAX, MAX, MAX}};
    for (int[] c : bad) due("folds " + c[0] + " " + c[1] + " " + c[2], x.folds(c[0], c[1], c[2]), false);
    due("BREATH", x.about(7), 7);
    due("STIFF", x.about(8), 8);
    due("WEIGHT", x.about(9), 9);

    promise = 15;
    x = new PipeVoice(2);
    due("GAP", x.foldsOf(0), 10);
    due("PACE", x.foldsOf(1), 0);
    due("STRAIN", x.foldsOf(2), 0);
    due("MET", x.foldsOf(3), 0);
    for (int what : new int[] {MIN, -1, 4, MAX}) due("foldsOf(" + what + ")", x.foldsOf(what), -100);
    // GAP 1, 0 (met, 9), 4, 0, 0 (met, 4), 2, 0, 0 (met, 2), 1, 0; then a last meeting by 1.
    x.folds(0, 20, 1);
    x.ticks(1);
    due("GAP", x.foldsOf(0), 0);
    due("PACE", x.foldsOf(1), -1);
    due("STRAIN", x.foldsOf(2), 15);
    due("MET", x.foldsOf(3), 3);
    x.ticks(1);
    due("PACE", x.foldsOf(1), 0);
    due("STRAIN", x.foldsOf(2), 16);
    due("MET", x.foldsOf(3), 4);
    // 40 above all: PACE 9, GAP 19, 28, 37, 46, then at the bound each time.
    x = new PipeVoice(2);
    x.folds(40, 1, 1);
    x.ticks(1);
    due("GAP", x.foldsOf(0), 50);
    due("PACE", x.foldsOf(1), 0);
    due("MET", x.foldsOf(3), 0);
  }

  private static void ticks() {
    promise = 9;
    PipeVoice x = new PipeVoice(2);
    for (int n : new int[] {MIN, -1, 0, 51, MAX}) due("ticks(" + n + ")", x.ticks(n), -1);
    due("ticks(1)", x.ticks(1), 1);
    due("ticks(50)", x.ticks(50), 51);
    x.ticks(50);
    x.ticks(50);
    due("ticks(50) to 201", x.ticks(50), -1);
    due("the clock", x.about(1), 151);
    due("ticks(49)", x.ticks(49), 200);
    due("ticks(1)", x.ticks(1), -1);

    promise = 10;
    x = with(2, "rest 1,12;");
    due("WIDTH", x.width(0), 6);
    x.ticks(1);
    due("WIDTH 0", x.width(0), 5);
    due("WIDTH 1", x.width(1), 7);
    x.ticks(10);
    due("WIDTH 0", x.width(0), 1);
    due("WIDTH 1", x.width(1), 12);
    for (int piece : new int[] {MIN, -1, 2, MAX}) due("width(" + piece + ")", x.width(piece), -1);
  }

  private static void led(PipeVoice x, int tick, int piece, int... want) {
    for (int i = 0; i < 5; i++) due("led(" + tick + ", " + piece + ", " + i + ")", x.led(tick, piece, i), want[i]);
  }

  private static void leads() {
    promise = 11;
    // Piece 0: A from 0 to 2; B, as strong, from 2 to 4; C, stronger, from 4 to 4.
    PipeVoice x = with(2, "gesture B 0 to 3 by 4 hold 3 strong 1;gesture A 0 to 8 by 1 hold 3 strong 1;"
        + "gesture C 0 to 12 by 6 hold 1 strong 2;word A A at 0,B at 2;word B C at 0;");
    due("ahead of any", x.led(0, 0, 0), -1);
    x.say(0);
    x.ticks(4);
    x.say(1);
    x.ticks(2);
    led(x, 0, 0, 7, 8, 0, 0, 1);
    led(x, 1, 0, 8, 8, 0, 0, 1);
    // The mean of 8 and 3, cut, by the greater SPEED.
    led(x, 2, 0, 5, 5, 0, 0, 1);
    led(x, 3, 0, 3, 3, 0, 1, 0);
    led(x, 4, 0, 9, 12, 1, 0, 2);
    led(x, 5, 0, 8, 6, -1, -1, -1);
    led(x, 5, 1, 6, 6, -1, -1, -1);
    int[][] bad = {{6, 0, 0}, {-1, 0, 0}, {MAX, 0, 0}, {MIN, 0, 0}, {0, 2, 0}, {0, -1, 0}, {0, 0, 5}, {0, 0, -1}, {0, MAX, MAX}};
    for (int[] c : bad) due("led " + c[0] + " " + c[1] + " " + c[2], x.led(c[0], c[1], c[2]), -1);
    x.text();
    led(x, 4, 0, 9, 12, 1, 0, 2);

    // Said twice: A counts twice beside B, and the first of SAID leads.
    x = with(2, "gesture B 0 to 4 by 6 hold 9 strong 1;gesture A 0 to 8 by 1 hold 9 strong 1;word A A at 0;word B B at 0;");
    x.say(0);
    x.say(0);
    x.say(1);
    x.ticks(1);
    led(x, 0, 0, 6, 6, 0, 0, 1);
    // STRENGTH 0, HOLD to its last TICK, and the latest TICK an ITEM may have.
    x = with(2, "gesture A 1 to 1 by 1 hold 2 strong 0;word A A at 99;");
    x.ticks(5);
    x.say(0);
    x.ticks(50);
    x.ticks(50);
    x.ticks(2);
    led(x, 103, 1, 6, 6, -1, -1, -1);
    led(x, 104, 1, 5, 1, 0, 0, 0);
    led(x, 105, 1, 4, 1, 0, 0, 0);
    led(x, 106, 1, 5, 6, -1, -1, -1);
  }

  private static void sounds(PipeVoice x, long... want) {
    for (int i = 0; i < want.length; i++) due("sound(" + i + ")", x.sound(i), want[i]);
  }

  private static void waves() {
    promise = 12;
    // SOURCE with 20, 5, 4: 26 38 54 72 90 100 98 94 90 86. WIDTHS 5 and 7: parts of 12.
    PipeVoice x = with(2, "rest 3,9;");
    x.folds(20, 5, 4);
    due("sound ahead of any", x.sound(0), 0);
    x.ticks(1);
    sounds(x, 0, 0, 60, 88);
    for (int step : new int[] {MIN, -1, 10, 2000, MAX}) due("sound(" + step + ")", x.sound(step), 0);
    x = with(2, "loss 100;");
    x.folds(20, 5, 4);
    x.ticks(1);
    sounds(x, 0, 0, 44, 64);
    x = with(2, "lips 33;");
    x.folds(20, 5, 4);
    x.ticks(1);
    sounds(x, 0, 0, 34, 51);
    x = with(2, "back 33;");
    x.folds(20, 5, 4);
    x.ticks(1);
    sounds(x, 0, 0, 52, 76, 108, 144, 162, 174);
    x = with(2, "lips 0;back 0;");
    x.folds(20, 5, 4);
    x.ticks(50);
    sounds(x, 0, 0, 26, 38, 54, 72, 90, 100, 98, 94, 90, 86);
    due("the last STEP", x.sound(499) != 0, true);
    due("behind it", x.sound(500), 0);

    promise = 13;
    x = with(2, "lips 100;back 0;");
    x.folds(20, 5, 4);
    x.ticks(1);
    due("to the lips in 0", x.wave(0, true), 86);
    due("to the lips in 1", x.wave(1, true), 90);
    due("to the folds in 1", x.wave(1, false), -94);
    due("to the folds in 0", x.wave(0, false), -98);
    for (int piece : new int[] {MIN, -1, 2, MAX}) {
      due("wave(" + piece + ", true)", x.wave(piece, true), 0);
      due("wave(" + piece + ", false)", x.wave(piece, false), 0);
    }

    promise = 14;
    // 33 times 26 + 38 + 54 + 72 + 90 + 100 + 98 + 94 came to the lips: 18876; to the folds -33 times
    // 26 + 38 + 54 + 72 + 90 + 100 of the parts that were thrown back.
    x = with(2, "lips 33;");
    x.folds(20, 5, 4);
    x.ticks(1);
    due("the folds' end", x.left(10), 0);
    x = with(2, "lips 33;back 0;");
    x.folds(20, 5, 4);
    x.ticks(1);
    due("the lips' end", x.left(11), 33 * (26 + 38 + 54 + 72 + 90 + 100 + 98 + 94) % 100);
    x = with(2, "back 33;");
    due("the folds' end at first", x.left(10), 0);
    x.folds(20, 5, 4);
    x.ticks(1);
    // To the folds: -26, -38, -54, -72, -90 - .. by STEP 4 to 9: what came is 26 38 54 72 81 87.
    due("the folds' end", x.left(10), Math.floorMod(-33 * (26 + 38 + 54 + 72 + 81 + 87), 100));
    x = with(3, "rest 3,9,6;back 0;lips 0;");
    x.folds(20, 5, 4);
    x.ticks(1);
    due("a joint of 12 parts", x.left(0) >= 0 && x.left(0) < 12, true);
    due("the first joint", x.left(0), 2 * (26 + 38 + 54 + 72 + 90 + 100 + 98 + 94 + 90 + secondJoint()) % 12);
    for (int joint : new int[] {MIN, -1, 2, 3, 4, 5, 9, 12, MAX}) due("left(" + joint + ")", x.left(joint), -1);
    x = new PipeVoice(5);
    for (int joint = 0; joint < 4; joint++) due("left(" + joint + ")", x.left(joint), 0);
    due("left(4)", x.left(4), -1);
  }

  /** What the second joint (7 to 6, 13 parts) throws back to the first in the STEPS 2 to 8 of this TICK. */
  private static int secondJoint() {
    int[] source = {26, 38, 54, 72, 90, 100, 98, 94, 90, 86};
    int rest0 = 0;
    int rest1 = 0;
    int toLips0 = 0;
    int toLips1 = 0;
    int toFolds1 = 0;
    int sum = 0;
    for (int i = 0; i < 10; i++) {
      sum += toFolds1;
      int d0 = 2 * (toLips0 + toFolds1) + rest0;
      int d1 = -toLips1 + rest1;
      int q0 = Math.floorDiv(d0, 12);
      int q1 = Math.floorDiv(d1, 13);
      rest0 = d0 - 12 * q0;
      rest1 = d1 - 13 * q1;
      toFolds1 = -q1;
      toLips1 = toLips0 + q0;
      toLips0 = source[i];
    }
    return sum;
  }

  private static void rhythms() {
    promise = 16;
    PipeVoice x = new PipeVoice(2);
    x.folds(30, 20, 1);
    x.ticks(1);
    int[][] cases = {{0, 11, 1, 0, 0}, {10, 1, 4, 0, 0}, {5, 5, 3, 1, 9}};
    for (int[] c : cases) {
      for (int what = 0; what < 4; what++) due("rhythm(" + c[0] + ", " + what + ")", x.rhythm(c[0], what), c[what + 1]);
    }
    due("folds stay as they are", x.about(7), 30);
    int[][] bad = {{-1, 0}, {41, 0}, {MIN, 1}, {MAX, 1}, {5, -1}, {5, 4}, {5, MAX}};
    for (int[] c : bad) due("rhythm(" + c[0] + ", " + c[1] + ")", x.rhythm(c[0], c[1]), -1);
    due("the last BREATH has a ring", x.rhythm(40, 1) > 0, true);

    promise = 17;
    due("unsafe(5, 5, 299)", x.unsafe(5, 5, 299), 5);
    due("unsafe(5, 5, 300)", x.unsafe(5, 5, 300), -1);
    due("unsafe(6, 5, 0)", x.unsafe(6, 5, 0), -1);
    int first = -1;
    for (int b = 40; b >= 0; b--) if (x.rhythm(b, 3) > 0) first = b;
    due("unsafe(0, 40, 0)", x.unsafe(0, 40, 0), first);
    due("unsafe(0, 40, 1000)", x.unsafe(0, 40, 1000), -1);
    int[][] others = {{-1, 40, 0}, {0, 41, 0}, {0, 40, -1}, {0, 40, 1001}, {MIN, MAX, 0}, {0, MAX, 0}, {0, 40, MIN}, {0, 40, MAX}};
    for (int[] c : others) due("unsafe " + c[0] + " " + c[1] + " " + c[2], x.unsafe(c[0], c[1], c[2]), -1);
  }

  private static void tones() {
    promise = 18;
    PipeVoice x = new PipeVoice(5);
    // One width: the TONES are 20 cos of 18, 54, 90, 126, 162 degrees.
    int[][] counts = {{20, 0}, {19, 1}, {18, 1}, {12, 1}, {11, 2}, {0, 2}, {-1, 3}, {-11, 3}, {-12, 4}, {-19, 4}, {-20, 5}};
    for (int[] c : counts) due("above " + c[0], x.above(7, 7, 7, 7, 7, c[0]), c[1]);
    due("x 21", x.above(7, 7, 7, 7, 7, 21), -1);
    due("x -21", x.above(7, 7, 7, 7, 7, -21), -1);
    due("x MAX", x.above(7, 7, 7, 7, 7, MAX), -1);
    due("a width of 0", x.above(7, 7, 7, 7, 0, 0), -1);
    due("a width of 13", x.above(13, 7, 7, 7, 7, 0), -1);
    due("a width of MIN", x.above(7, 7, MIN, 7, 7, 0), -1);
    due("others don't count", new PipeVoice(2).above(7, 7, 0, MAX, MIN, 0), 1);
    // Two pieces: 20 times the root of a / (a + b), 10 of 2 and 6.
    PipeVoice two = new PipeVoice(2);
    due("at a TONE", two.above(2, 6, 0, 0, 0, 10), 0);
    due("below a TONE", two.above(2, 6, 0, 0, 0, 9), 1);
    due("at the other", two.above(2, 6, 0, 0, 0, -10), 1);
    due("below the other", two.above(2, 6, 0, 0, 0, -11), 2);

    promise = 19;
    int[] boxes = {19, 11, -1, -12, -20, -100};
    for (int k = 0; k < 6; k++) due("tone " + k, x.tone(3, 3, 3, 3, 3, k), boxes[k]);
    for (int k : new int[] {MIN, -1, MAX}) due("tone " + k, x.tone(3, 3, 3, 3, 3, k), -100);
    due("a width of 0", x.tone(3, 3, 3, 3, 0, 0), -100);
    due("a width of 13", x.tone(3, 13, 3, 3, 3, 0), -100);
    due("others don't count", two.tone(1, 3, 0, 99, -7, 0), 9);
    due("2 to 1", two.tone(2, 1, 0, 0, 0, 0), 16);
    due("1 to 2", two.tone(1, 2, 0, 0, 0, 0), 11);
    due("1 to 2, the other", two.tone(1, 2, 0, 0, 0, 1), -12);
    greatestBoxes();
  }

  /** Each BOX is the greatest x with more than k above, whatever the order in which the program looks. */
  private static void greatestBoxes() {
    int[] w = {1, 2, 5, 11, 12};
    for (int i = 0; i < 3125; i++) {
      int a = w[i % 5], b = w[i / 5 % 5], c = w[i / 25 % 5], d = w[i / 125 % 5], e = w[i / 625];
      PipeVoice x = new PipeVoice(5);
      int found = 0;
      for (int box = 19; box >= -20; box--) {
        int count = x.above(a, b, c, d, e, box);
        for (; found < count; found++) due("tone " + found + " of " + a + " " + b + " " + c + " " + d + " " + e, x.tone(a, b, c, d, e, found), box);
      }
      due("how many", found, 5);
    }
  }

  private static void alike() {
    promise = 20;
    PipeVoice x = with(3, "rest 2,4,6;");
    due("to 6, 6, 6", x.alike(12, 12, 12, 0, 0), 1);
    due("to 6, 6, 6", x.alike(12, 12, 11, 0, 0), 0);
    x.ticks(4);
    due("half", x.alike(1, 2, 3, 0, 0), 1);
    due("the same", x.alike(2, 4, 6, -1, 99), 1);
    due("twice", x.alike(4, 8, 12, 0, 0), 1);
    due("end for end", x.alike(2, 3, 6, 0, 0), 2);
    due("end for end, twice", x.alike(4, 6, 12, 0, 0), 2);
    due("turned", x.alike(6, 4, 2, 0, 0), 0);
    due("almost", x.alike(2, 3, 5, 0, 0), 0);
    due("almost", x.alike(3, 3, 6, 0, 0), 0);
    due("a width of 0", x.alike(0, 3, 6, 0, 0), -1);
    due("a width of 13", x.alike(2, 3, 13, 0, 0), -1);
    due("a width of MIN", x.alike(2, MIN, 6, 0, 0), -1);
  }

  private static void grid() {
    promise = 21;
    PipeVoice x = new PipeVoice(5);
    due("at first", x.about(5), 1);
    int four = 1 << 1 | 1 << 5 | 1 << 9 | 1 << 12;
    int[] counts = {4, 16, 64, 256, 1024};
    for (int i = 0; i < 5; i++) due("grid " + i, x.grid(i, four), counts[i]);
    for (int bits : new int[] {0, 1, 1 << 13, 3, MIN, -1, MAX, 62, four | 4, four | 1}) due("grid(0, " + bits + ")", x.grid(0, bits), -1);
    for (int piece : new int[] {MIN, -1, 5, MAX}) due("grid(" + piece + ", 2)", x.grid(piece, 2), -1);
    due("nothing was changed", x.about(5), 1024);
    due("grid(3, 12)", x.grid(3, 12), 512);
    due("all MAKE a SOUND that wasn't told", x.makes(7), 512);
    // The first PIECE's lowest ones first, then the next one's.
    int[] second = {1, 1, 1, 2, 5};
    int[] third = {1, 1, 1, 2, 9};
    int[] last = {12, 12, 12, 3, 12};
    for (int p = 0; p < 5; p++) {
      due("the second shape", x.maker(0, 1, p), second[p]);
      due("the third shape", x.maker(0, 2, p), third[p]);
      due("the last shape", x.maker(0, 511, p), last[p]);
    }
    due("behind the last", x.maker(0, 512, 0), -1);
  }

  private static void heard() {
    promise = 22;
    PipeVoice x = new PipeVoice(2);
    int[][] bad = {{-1, 0, 0, 0}, {8, 0, 0, 0}, {0, -1, 0, 0}, {0, 5, 0, 0}, {0, 0, -21, 0}, {0, 0, 0, 20}, {0, 0, 1, 0},
        {MIN, MIN, MIN, MIN}, {MAX, MAX, MAX, MAX}, {0, 0, MIN, MAX}};
    for (int[] c : bad) due("hear " + c[0] + " " + c[1] + " " + c[2] + " " + c[3], x.hear(c[0], c[1], c[2], c[3]), -1);
    due("TIME", x.about(2), 0);
    due("the edges", x.hear(0, 0, -20, 19), 1);
    due("the edges", x.hear(7, 4, -20, -20), 2);
    due("the edges", x.hear(0, 0, 19, 19), 3);
    for (int i = 4; i <= 100; i++) due("hear", x.hear(1, 1, 0, 0), i);
    due("the 101st", x.hear(1, 1, 0, 0), -1);
    due("TIME", x.about(2), 100);

    promise = 23;
    x = new PipeVoice(2);
    due("look(0)", x.look(0), true);
    due("look(1)", x.look(1), false);
    due("look(-1)", x.look(-1), false);
    x.hear(0, 0, 14, 14);
    x.hear(0, 0, 13, 13);
    x.hear(1, 0, 13, 13);
    due("THE LOOK behind a telling", x.about(3), 3);
    int[][] counts = {{0, 1, 1}, {1, 1, 1}, {2, 0, 1}, {3, 0, 0}};
    for (int[] c : counts) {
      due("look(" + c[0] + ")", x.look(c[0]), true);
      due("makes(0) at " + c[0], x.makes(0), c[1]);
      due("makes(1) at " + c[0], x.makes(1), c[2]);
    }
    x.look(1);
    for (int time : new int[] {MIN, -1, 4, MAX}) due("look(" + time + ")", x.look(time), false);
    due("THE LOOK stays", x.about(3), 1);
    due("a telling while looking back", x.hear(2, 0, 0, 0), 4);
    due("THE LOOK behind it", x.about(3), 4);
    due("makes(0)", x.makes(0), 0);
  }

  private static void makers() {
    promise = 24;
    // Of two pieces a, b the TONES are 20 times the root of a / (a + b), and that below 0.
    PipeVoice x = new PipeVoice(2);
    x.grid(0, 1 << 5 | 1 << 7);
    x.grid(1, 1 << 5 | 1 << 7);
    due("any", x.makes(0), 4);
    x.hear(0, 0, 14, 14);
    due("in 14", x.makes(0), 2);
    x.hear(0, 1, -20, -16);
    due("the second TONE too", x.makes(0), 0);
    x.hear(0, 1, -20, -15);
    due("the second TONE too", x.makes(0), 2);
    x.hear(1, 2, -20, 19);
    due("a TONE that isn't there", x.makes(1), 0);
    for (int sound : new int[] {MIN, -1, 8, MAX}) due("makes(" + sound + ")", x.makes(sound), -1);
    due("a SOUND that wasn't told", x.makes(7), 4);
    x.grid(0, 1 << 5);
    due("in another GRID", x.makes(0), 1);

    promise = 25;
    x.grid(0, 1 << 5 | 1 << 7);
    int[][] shapes = {{5, 5}, {7, 7}};
    for (int i = 0; i < 2; i++) {
      for (int p = 0; p < 2; p++) due("maker(0, " + i + ", " + p + ")", x.maker(0, i, p), shapes[i][p]);
    }
    int[][] bad = {{0, 2, 0}, {0, -1, 0}, {0, MIN, 0}, {0, MAX, 0}, {-1, 0, 0}, {8, 0, 0}, {0, 0, -1}, {0, 0, 2}, {1, 0, 0}};
    for (int[] c : bad) due("maker " + c[0] + " " + c[1] + " " + c[2], x.maker(c[0], c[1], c[2]), -1);

    promise = 26;
    due("the sum", x.nearest(0, -1), 2);
    due("the first of like ones", x.nearest(0, 0), 5);
    due("the first of like ones", x.nearest(0, 1), 5);
    x.hear(2, 0, 15, 15);
    due("7 and 5", x.nearest(2, 0), 7);
    due("7 and 5", x.nearest(2, 1), 5);
    due("none MAKES it", x.nearest(1, -1), -1);
    due("none MAKES it", x.nearest(1, 0), -1);
    int[][] others = {{-1, 0}, {8, 0}, {0, 2}, {0, -2}, {0, MIN}, {MAX, MAX}};
    for (int[] c : others) due("nearest " + c[0] + " " + c[1], x.nearest(c[0], c[1]), -1);
    read(x, "rest 7,7;");
    x.ticks(1);
    due("by the WIDTHS now", x.nearest(0, -1), 0);
    due("by the WIDTHS now", x.nearest(0, 1), 7);
  }

  private static void rows() {
    promise = 27;
    PipeVoice x = new PipeVoice(2);
    x.grid(0, 6);
    x.grid(1, 6);
    due("nothing told", x.row(8, -1, 0), 0);
    due("nothing told", x.row(8, 7, 1), 1);
    x.hear(0, 0, 16, 16);
    x.hear(2, 0, 11, 11);
    // From 2, 1 to 1, 2: all four lie on a way of 2, and the first of them is 1, 1.
    int[][] row = {{2, 1}, {1, 1}, {1, 2}};
    due("the sum", x.row(3, -1, 0), 2);
    for (int k = 0; k < 3; k++) {
      for (int p = 0; p < 2; p++) due("row(3, " + k + ", " + p + ")", x.row(3, k, p), row[k][p]);
    }
    due("the first two", x.row(2, -1, 0), 0);
    due("the first two", x.row(2, 1, 0), 2);
    due("the first alone", x.row(1, -1, 0), 0);
    due("the first alone", x.row(1, 0, 0), 2);
    due("the first alone has no second", x.row(1, 1, 0), -1);
    due("the sum, whatever the piece", x.row(3, -1, 99), 2);
    int[][] bad = {{0, -1, 0}, {9, -1, 0}, {MIN, 0, 0}, {MAX, 0, 0}, {3, 3, 0}, {3, -2, 0}, {3, MAX, 0}, {3, 0, -1}, {3, 0, 2}};
    for (int[] c : bad) due("row " + c[0] + " " + c[1] + " " + c[2], x.row(c[0], c[1], c[2]), -1);
    x.hear(3, 3, 0, 0);
    due("one that none MAKES", x.row(4, -1, 0), -1);
    due("one that none MAKES", x.row(4, 0, 0), -1);
    due("ahead of it", x.row(3, -1, 0), 2);
    x.look(0);
    due("by THE LOOK", x.row(8, -1, 0), 0);
  }

  private static PipeVoice imaged() {
    promise = 28;
    PipeVoice x = with(2, "rest 3,9;loss 5;lips 50;back 33;" + GESTURE_A + "word A A at 0;");
    x.folds(20, 5, 4);
    x.say(0);
    due("ticks", x.ticks(2), 2);
    x.grid(0, 6);
    x.hear(0, 0, 1, 2);
    x.hear(0, 0, 2, 3);
    x.look(1);
    due("image", x.image(), 2);
    promise = 29;
    return x;
  }

  private static void images() {
    // Once back, and twice; a new object each time, as one may have 512 calls.
    for (int times = 1; times <= 2; times++) {
      PipeVoice x = imaged();
      long[] all = all(x);
      for (int i = 0; i < times; i++) {
        change(x);
        x.hear(5, 0, 1, 1);
        due("back", x.back(), 2);
      }
      long[] again = all(x);
      for (int j = 0; j < all.length; j++) due("number " + j + " of all", again[j], all[j]);
    }
    PipeVoice x = imaged();
    change(x);
    // The tape and the latest FAULT stay.
    read(x, "loss 1;!");
    x.feed(1, 2, 3, 4, 5);
    x.back();
    due("bytes", x.about(6), 20);
    due("FAULT", x.fault(0), 1);
    due("its place", x.fault(1), 7);
    x.image();
    x.end(7);
    x.back();
    due("bytes", x.about(6), 7);
    // What is SAID, and from when, leads on as it did.
    PipeVoice z = with(2, "gesture A 0 to 9 by 2 hold 3 strong 1;gesture B 0 to 1 by 1 hold 9 strong 2;word A A at 1;word B B at 0;");
    z.say(0);
    z.image();
    z.ticks(4);
    z.text();
    z.back();
    read(z, "gesture B 0 to 1 by 1 hold 9 strong 2;word B B at 0;");
    z.say(1);
    z.ticks(1);
    z.back();
    z.ticks(4);
    led(z, 0, 0, 6, 6, -1, -1, -1);
    led(z, 1, 0, 8, 9, 0, 0, 0);
    led(z, 3, 0, 9, 9, 0, 0, 0);
    // An image in one text, another image in another.
    PipeVoice y = with(2, "loss 1;");
    y.image();
    read(y, "loss 2;");
    read(y, "loss 3;");
    read(y, "loss 4;");
    due("LOSS", y.law(10), 4);
    y.back();
    due("LOSS", y.law(10), 1);
    read(y, "loss 5;");
    y.image();
    read(y, "loss 6;");
    read(y, "loss 7;loss 8;");
    due("LOSS", y.law(10), 6);
    y.back();
    due("LOSS", y.law(10), 5);
  }

  private static void change(PipeVoice x) {
    x.folds(7, 8, 9);
    x.ticks(9);
    x.hear(0, 0, 5, 6);
    x.grid(0, 30);
    x.say(0);
    x.ticks(3);
    read(x, "rest 1,1;");
    x.ticks(5);
  }

  private static long[] all(PipeVoice x) {
    java.util.List<Long> all = new java.util.ArrayList<>();
    for (int i = -1; i < 15; i++) {
      all.add((long) x.law(i));
      all.add((long) x.width(i));
      all.add(x.wave(i, true));
      all.add(x.wave(i, false));
      all.add(x.left(i));
      all.add((long) x.foldsOf(i));
      all.add((long) x.makes(i));
      if (i != 6) all.add((long) x.about(i));
    }
    for (int i = 0; i < 40; i++) all.add(x.sound(i));
    for (int i = 0; i < 40; i++) all.add((long) x.led(i / 10, i / 5 % 2, i % 5));
    long[] row = new long[all.size()];
    for (int i = 0; i < row.length; i++) row[i] = all.get(i);
    return row;
  }

  private static void about() {
    promise = 30;
    PipeVoice x = with(4, GESTURE_A + "word A A at 0;");
    x.ticks(7);
    x.hear(0, 0, 0, 0);
    x.hear(0, 0, 0, 0);
    x.look(1);
    x.say(0);
    x.say(0);
    x.say(0);
    x.grid(1, 14);
    x.grid(2, 6);
    x.feed(0, 0, 0, 0, 0);
    x.folds(11, 12, 13);
    int[] want = {4, 7, 2, 1, 3, 6, 20, 11, 12, 13};
    for (int i = 0; i < 10; i++) due("about(" + i + ")", x.about(i), want[i]);
    for (int what : new int[] {MIN, -1, 10, MAX}) due("about(" + what + ")", x.about(what), -1);
  }
}
