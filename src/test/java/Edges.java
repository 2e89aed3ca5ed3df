import java.util.ArrayList;
import java.util.List;
import java.util.Set;
import java.util.TreeSet;
import java.util.function.Supplier;
import java.util.function.ToLongFunction;

/**
 * What the Edge tests share. Each of them goes through the document's sentences that name a boundary
 * case, by sentence(..), which says the promise and the document's words; the checks behind it are of
 * that sentence. No object of theirs is used for more than 512 calls.
 */
final class Edges {
  static final int MIN = Integer.MIN_VALUE;
  static final int MAX = Integer.MAX_VALUE;
  static final String GESTURE_A = "gesture A 0 to 9 by 2 hold 3 strong 1;";

  private static final Set<Integer> promises = new TreeSet<>();
  private static int promise = 0;
  private static String sentence = "";
  private static int sentences = 0;
  private static int wrong = 0;

  private Edges() {}

  static void sentence(int ofPromise, String words) {
    promise = ofPromise;
    sentence = words;
    sentences++;
    promises.add(ofPromise);
  }

  static void due(String call, long got, long want) {
    if (got != want) {
      wrong++;
      System.out.println("promise " + promise + " (" + sentence + "): " + call + " answered " + got + ", due is " + want);
    }
  }

  static void due(String call, boolean got, boolean want) {
    due(call, got ? 1 : 0, want ? 1 : 0);
  }

  /** Ends the test: each of these promises must have had a sentence. */
  static void finish(int... due) {
    for (int i : due) {
      if (!promises.contains(i)) {
        wrong++;
        System.out.println("promise " + i + " has no sentence here");
      }
    }
    System.out.println(wrong == 0 ? sentences + " sentences hold" : wrong + " answers are not as due");
    if (wrong != 0) System.exit(1);
  }

  /** Twenty bytes from a place of a text on, with zeros behind its end, as feed wants them. */
  static int feed(PipeVoice x, String text, int from) {
    int[] w = new int[5];
    for (int j = 0; j < 20; j++) w[j / 4] = w[j / 4] << 8 | (from + j < text.length() ? text.charAt(from + j) : 0);
    return x.feed(w[0], w[1], w[2], w[3], w[4]);
  }

  /** The tape has this text alone. */
  static void write(PipeVoice x, String text) {
    x.end(0);
    for (int i = 0; i < text.length(); i += 20) feed(x, text, i);
    x.end(text.length());
  }

  static int read(PipeVoice x, String text) {
    write(x, text);
    return x.text();
  }

  static PipeVoice with(int pieces, String text) {
    PipeVoice x = new PipeVoice(pieces);
    if (read(x, text) < 0) throw new IllegalStateException(text);
    return x;
  }

  /** An object with something in every part of it: a text, a FAULT, a tape, an image that is over, a LOOK back. */
  static PipeVoice busy() {
    PipeVoice x = with(3, "rest 3,9,5;loss 7;lips 60;back 40;gesture A 0 to 9 by 2 hold 3 strong 1;"
        + "gesture B 2 to 1 by 6 hold 9 strong 0;word A A at 0,B at 1;word H B at 4;");
    x.folds(20, 5, 4);
    x.say(0);
    x.ticks(2);
    x.image();
    x.say(7);
    x.ticks(3);
    x.grid(0, 1 << 3 | 1 << 8);
    x.grid(1, 1 << 2 | 1 << 6 | 1 << 12);
    x.hear(0, 0, 10, 19);
    x.hear(0, 0, 14, 17);
    x.hear(1, 1, -5, 5);
    x.look(2);
    read(x, "loss 1;!");
    write(x, "loss 9;back 3;");
    return x;
  }

  /** A call that is refused: its answer, and that an object that had it is as one that hadn't. */
  static void refused(Supplier<PipeVoice> make, String call, ToLongFunction<PipeVoice> answer, long want) {
    PipeVoice x = make.get();
    due(call, answer.applyAsLong(x), want);
    List<Long> with = all(x);
    List<Long> without = all(make.get());
    for (int i = 0; i < without.size(); i++) due("number " + i + " of all behind " + call, with.get(i), without.get(i));
  }

  static void refused(String call, ToLongFunction<PipeVoice> answer, long want) {
    refused(Edges::busy, call, answer, want);
  }

  /** All that can be asked; then what comes by a TICK, by the tape's text, by the image. */
  static List<Long> all(PipeVoice x) {
    List<Long> all = new ArrayList<>();
    for (int i = 0; i < 2; i++) all.add((long) x.fault(i));
    for (int i = 0; i < 10; i++) all.add((long) x.about(i));
    plain(x, all);
    for (int i = 0; i < 4; i++) all.add((long) x.rhythm(21, i));
    for (int i = 0; i < 8; i++) all.add((long) x.makes(i));
    for (int i = 0; i < 3; i++) all.add((long) x.maker(0, 1, i));
    for (int i = -1; i < 3; i++) all.add((long) x.nearest(0, i));
    for (int i = -1; i < 3; i++) all.add((long) x.row(3, i, 1));
    all.add((long) x.alike(3, 9, 5, 6, 6));
    for (int i = 0; i < 40; i++) all.add((long) x.led(x.about(1) - 1 - i / 10, i / 5 % 2, i % 5));
    for (int i = 0; i < 20; i++) all.add(x.sound(10 * x.about(1) - 1 - i));
    all.add((long) x.ticks(1));
    plain(x, all);
    all.add((long) x.text());
    plain(x, all);
    all.add((long) x.back());
    plain(x, all);
    return all;
  }

  private static void plain(PipeVoice x, List<Long> all) {
    for (int i = 0; i < 5; i++) {
      all.add((long) x.law(i));
      all.add((long) x.width(i));
      all.add(x.wave(i, true));
      all.add(x.wave(i, false));
    }
    for (int i = 10; i < 14; i++) all.add((long) x.law(i));
    for (int i = 0; i < 12; i++) all.add(x.left(i));
    for (int i = 0; i < 4; i++) all.add((long) x.foldsOf(i));
    all.add((long) x.about(4));
  }
}
