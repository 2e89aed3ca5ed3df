/**
 * Promises 18 and 19 for every shape of 2 to 5 PIECES, every x and every TONE. The numbers are counted here
 * by Math's Exact functions: none of them grows beyond a long, so the program's plain ones are exact too.
 */
public final class ToneTest {
  private static final int CALLS_OF_AN_OBJECT = 512;

  private static int wrong = 0;

  private final int pieces;
  private PipeVoice voice;
  private int calls;

  private ToneTest(int pieces) {
    this.pieces = pieces;
    voice = new PipeVoice(pieces);
  }

  public static void main(String[] args) {
    int shapes = 0;
    for (int pieces = 2; pieces <= 5; pieces++) {
      ToneTest test = new ToneTest(pieces);
      int[] widths = {1, 1, 1, 1, 1};
      do {
        test.shape(widths);
        shapes++;
      } while (next(widths, pieces));
    }
    if (shapes != 144 + 1728 + 20736 + 248832) throw new IllegalStateException("not every shape: " + shapes);
    System.out.println(wrong == 0 ? "the TONES of " + shapes + " shapes are as due" : wrong + " answers are not as due");
    if (wrong != 0) System.exit(1);
  }

  private static boolean next(int[] widths, int pieces) {
    for (int i = 0; i < pieces; i++) {
      widths[i]++;
      if (widths[i] <= 12) return true;
      widths[i] = 1;
    }
    return false;
  }

  private PipeVoice fresh() {
    if (calls == CALLS_OF_AN_OBJECT) {
      voice = new PipeVoice(pieces);
      calls = 0;
    }
    calls++;
    return voice;
  }

  private static void due(String call, int[] w, int which, int got, int want) {
    if (got == want) return;
    wrong++;
    if (wrong < 20) System.out.println(call + java.util.Arrays.toString(w) + " " + which + " answered " + got + ", due is " + want);
  }

  private void shape(int[] w) {
    int[] boxes = {-100, -100, -100, -100, -100, -100};
    for (int x = -20; x <= 20; x++) {
      int count = changes(w, x);
      due("above ", w, x, fresh().above(w[0], w[1], w[2], w[3], w[4], x), count);
      for (int k = 0; k < count && x < 20; k++) boxes[k] = x;
    }
    for (int k = 0; k <= pieces; k++) due("tone ", w, k, fresh().tone(w[0], w[1], w[2], w[3], w[4], k), boxes[k]);
  }

  private int changes(int[] w, int x) {
    long r = 0;
    long v = 1;
    int sign = 1;
    int changes = 0;
    for (int i = pieces - 1; i >= 0; i--) {
      long nextR = Math.subtractExact(Math.multiplyExact(20L * x, r), Math.multiplyExact(400L - x * x, v));
      long nextV = Math.addExact(Math.multiplyExact(20L * x, v), Math.multiplyExact(400L, r));
      r = i > 0 ? Math.multiplyExact(nextR, (long) w[i - 1]) : nextR;
      v = i > 0 ? Math.multiplyExact(nextV, (long) w[i]) : nextV;
      if (Long.signum(v) == -sign) {
        changes++;
        sign = -sign;
      }
    }
    return changes;
  }
}
