import java.util.ArrayList;
import java.util.List;

/** The sentences of promises 18 to 27, and of the Terms' TONES, GRID and what is HEARD, that name a boundary case. */
public final class EdgeShapeTest {
  private static final int MIN = Edges.MIN;
  private static final int MAX = Edges.MAX;
  private static final int[] BAD_WIDTHS = {MIN, -6, -1, 0, 13, 18, MAX};

  public static void main(String[] args) {
    above();
    aboveOthers();
    tone();
    alike();
    grid();
    gridFull();
    gridGrows();
    hear();
    look();
    lookBack();
    makes();
    maker();
    nearest();
    row();
    rowFull();
    Edges.finish(18, 19, 20, 21, 22, 23, 24, 25, 26, 27);
  }

  private static int above(PipeVoice v, int[] w, int x) {
    return v.above(w[0], w[1], w[2], w[3], w[4], x);
  }

  private static int tone(PipeVoice v, int[] w, int k) {
    return v.tone(w[0], w[1], w[2], w[3], w[4], k);
  }

  private static int alike(PipeVoice v, int[] w) {
    return v.alike(w[0], w[1], w[2], w[3], w[4]);
  }

  private static final int[][] SHAPES = {{1, 1, 1, 1, 1}, {12, 12, 12, 12, 12}, {1, 12, 1, 12, 1}, {12, 1, 12, 1, 12}, {1, 2, 4, 8, 12}, {12, 8, 4, 2, 1}, {6, 5, 7, 11, 3}};

  private static void above() {
    Edges.sentence(18, "for a whole number x (-20 .. 20)");
    for (int n = 2; n <= 5; n++) {
      for (int[] w : SHAPES) {
        PipeVoice v = new PipeVoice(n);
        Edges.due("above 20 of " + n, above(v, w, 20), 0);
        Edges.due("above -20 of " + n, above(v, w, -20), n);
        for (int x : new int[] {MIN, -400, -21, 21, 400, MAX}) Edges.due("above " + x + " of " + n, above(v, w, x), -1);
      }
    }

    Edges.sentence(18, "how often v changes its sign on the way (from 1 on; 0 is passed over)");
    // At 0 v is 0 behind the first PIECE and behind every other one from there, whatever the WIDTHS.
    for (int n = 2; n <= 5; n++) for (int[] w : SHAPES) Edges.due("above 0 of " + n, above(new PipeVoice(n), w, 0), n / 2);
    // Of 2 and 6 the TONES are 10 and -10 exactly: what is at x is not above it.
    int[] exact = {2, 6, 0, 0, 0};
    int[][] due = {{11, 0}, {10, 0}, {9, 1}, {-9, 1}, {-10, 1}, {-11, 2}};
    for (int[] c : due) Edges.due("above " + c[0], above(new PipeVoice(2), exact, c[0]), c[1]);
    // The greatest numbers on the way stay exact: WIDTHS of 12, and each TONE 20 cos of 18, 54, 90 .. degrees.
    int[][] cosines = {{19, 1}, {12, 1}, {11, 2}, {0, 2}, {-1, 3}, {-11, 3}, {-12, 4}, {-19, 4}, {-20, 5}};
    for (int[] c : cosines) Edges.due("above " + c[0], above(new PipeVoice(5), SHAPES[1], c[0]), c[1]);
  }

  private static void aboveOthers() {
    Edges.sentence(18, "WIDTHS of the PIECES there are; others don't count");
    for (int n = 2; n <= 5; n++) {
      for (int p = 0; p < 5; p++) {
        PipeVoice v = new PipeVoice(n);
        for (int bad : BAD_WIDTHS) {
          int[] w = {6, 6, 6, 6, 6};
          w[p] = bad;
          boolean counts = p < n;
          Edges.due("above with WIDTH " + bad + " of " + p + " of " + n, above(v, w, -20), counts ? -1 : n);
          Edges.due("tone with WIDTH " + bad + " of " + p + " of " + n, tone(v, w, 0) == -100, counts);
          Edges.due("alike with WIDTH " + bad + " of " + p + " of " + n, alike(v, w), counts ? -1 : 1);
        }
        for (int good : new int[] {1, 12}) {
          int[] w = {6, 6, 6, 6, 6};
          w[p] = good;
          Edges.due("above with WIDTH " + good + " of " + p + " of " + n, above(v, w, -20), n);
          Edges.due("tone with WIDTH " + good + " of " + p + " of " + n, tone(v, w, 0) > 0, true);
          Edges.due("alike with WIDTH " + good + " of " + p + " of " + n, alike(v, w), p < n ? 0 : 1);
        }
      }
    }
  }

  private static void tone() {
    Edges.sentence(19, "the greatest x of -20 .. 19 with more than k ABOVE x (none: it lies in none)");
    for (int n = 2; n <= 5; n++) {
      for (int[] w : SHAPES) {
        PipeVoice v = new PipeVoice(n);
        int found = 0;
        for (int x = 19; x >= -20; x--) {
          int count = above(v, w, x);
          for (; found < count; found++) Edges.due("tone " + found + " of " + n, tone(v, w, found), x);
        }
        Edges.due("how many", found, n);
        for (int k : new int[] {n, n + 1, 100, MAX}) Edges.due("tone " + k + " of " + n, tone(v, w, k), -100);
      }
    }
    // The outermost BOXES: 20 cos of 18 degrees is 19.02, and the same below 0.
    Edges.due("the highest BOX", tone(new PipeVoice(5), SHAPES[0], 0), 19);
    Edges.due("the lowest BOX", tone(new PipeVoice(5), SHAPES[0], 4), -20);
    // A TONE at a whole number lies in the BOX below it.
    Edges.due("10 exactly", new PipeVoice(2).tone(2, 6, 0, 0, 0, 0), 9);
    Edges.due("-10 exactly", new PipeVoice(2).tone(2, 6, 0, 0, 0, 1), -11);
    Edges.due("0 exactly", new PipeVoice(3).tone(5, 7, 3, 0, 0, 1), -1);

    Edges.sentence(19, "-100 for others, and in none");
    for (int k : new int[] {MIN, -100, -1}) Edges.due("tone " + k, tone(new PipeVoice(5), SHAPES[0], k), -100);
    for (int p = 0; p < 5; p++) {
      for (int bad : BAD_WIDTHS) {
        int[] w = {6, 6, 6, 6, 6};
        w[p] = bad;
        for (int k : new int[] {-1, 0, 4}) Edges.due("tone " + k + " with WIDTH " + bad, tone(new PipeVoice(5), w, k), -100);
      }
    }
  }

  /** An object whose WIDTHS have gone to these. */
  private static PipeVoice of(int... widths) {
    StringBuilder text = new StringBuilder("rest ");
    for (int i = 0; i < widths.length; i++) text.append(i > 0 ? "," : "").append(widths[i]);
    PipeVoice x = Edges.with(widths.length, text.append(";").toString());
    x.ticks(12);
    return x;
  }

  private static void alike() {
    Edges.sentence(20, "1: the WIDTHS of one are those of the other by one factor");
    Edges.due("12 times", of(1, 1).alike(12, 12, 0, 0, 0), 1);
    Edges.due("a twelfth", of(12, 12).alike(1, 1, 0, 0, 0), 1);
    Edges.due("the same", of(1, 12, 5).alike(1, 12, 5, 0, 0), 1);
    Edges.due("two thirds", of(3, 6, 9, 12).alike(2, 4, 6, 8, 0), 1);
    Edges.due("all but the last", of(1, 2, 3, 4, 5).alike(2, 4, 6, 8, 11), 0);
    Edges.due("all but the first", of(1, 2, 3, 4, 5).alike(3, 4, 6, 8, 10), 0);
    Edges.due("all but the middle", of(2, 2, 2, 2, 2).alike(4, 4, 5, 4, 4), 0);
    Edges.due("both: 1 is told", of(6, 6, 6).alike(7, 7, 7, 0, 0), 1);
    Edges.due("both: 1 is told", of(2, 4).alike(1, 2, 0, 0, 0), 1);

    Edges.sentence(20, "2: not so, but WIDTHS times those of the other end for end are one number");
    Edges.due("12 in all", of(2, 4, 6).alike(2, 3, 6, 0, 0), 2);
    Edges.due("24 in all", of(2, 4, 6).alike(4, 6, 12, 0, 0), 2);
    Edges.due("12 in all, the other way", of(4, 6, 12).alike(2, 4, 6, 0, 0), 2);
    Edges.due("one, twelve", of(1, 12, 12).alike(1, 1, 12, 0, 0), 2);
    Edges.due("five PIECES", of(1, 2, 3, 4, 12).alike(1, 3, 4, 6, 12), 2);
    Edges.sentence(20, "0 else");
    Edges.due("turned", of(2, 4, 6).alike(6, 4, 2, 0, 0), 0);
    Edges.due("12, 12, 10", of(2, 4, 6).alike(2, 3, 5, 0, 0), 0);
    Edges.due("18, 12, 12", of(2, 4, 6).alike(3, 3, 6, 0, 0), 0);
    Edges.due("12, 16, 12", of(2, 4, 6).alike(2, 4, 6, 0, 0), 1);
    Edges.due("12, 8, 12", of(2, 4, 6).alike(2, 2, 6, 0, 0), 0);

    Edges.sentence(20, "NONE for others");
    for (int p = 0; p < 3; p++) {
      for (int bad : BAD_WIDTHS) {
        int[] w = {2, 4, 6, 6, 6};
        w[p] = bad;
        Edges.due("alike with WIDTH " + bad + " of " + p, alike(of(2, 4, 6), w), -1);
      }
    }
  }

  private static void grid() {
    Edges.sentence(21, "at first that of 6 alone");
    for (int n = 2; n <= 5; n++) {
      PipeVoice x = new PipeVoice(n);
      Edges.due("shapes", x.about(5), 1);
      for (int p = 0; p < n; p++) Edges.due("the first shape", x.maker(0, 0, p), 6);
      Edges.due("a second", x.maker(0, 1, 0), -1);
    }

    Edges.sentence(21, "a set of WIDTHS (bits 1 .. 12; 4 at most): how many shapes the GRID has");
    for (int width = 1; width <= 12; width++) {
      PipeVoice x = new PipeVoice(2);
      Edges.due("grid(1, 1 << " + width + ")", x.grid(1, 1 << width), 1);
      Edges.due("its WIDTH", x.maker(0, 0, 1), width);
    }
    PipeVoice x = new PipeVoice(2);
    Edges.due("two, the lowest and the highest", x.grid(0, 1 << 1 | 1 << 12), 2);
    Edges.due("four", x.grid(1, 1 << 1 | 1 << 2 | 1 << 11 | 1 << 12), 8);
    Edges.due("one again", x.grid(0, 1 << 3), 4);

    Edges.sentence(21, "NONE, changing nothing, for others (no WIDTH, more than 4)");
    int[] bits = {0, 1, 1 << 13, 1 << 31, 3, 1 << 13 | 4, 1 << 31 | 4, 1 << 20 | 4, 62, 1 << 1 | 1 << 4 | 1 << 7 | 1 << 10 | 1 << 12, 8190, -1, -2, MAX, MIN};
    for (int set : bits) for (int p = 0; p < 3; p++) {
      int piece = p;
      Edges.refused("grid(" + p + ", " + set + ")", y -> y.grid(piece, set), -1);
    }
    for (int piece : new int[] {MIN, -1, 3, 4, 5, MAX}) Edges.refused("grid(" + piece + ", 2)", y -> y.grid(piece, 2), -1);
    for (int n = 2; n <= 5; n++) {
      Edges.due("grid of the last PIECE of " + n, new PipeVoice(n).grid(n - 1, 6), 2);
      Edges.due("grid of the one behind it", new PipeVoice(n).grid(n, 6), -1);
    }
  }

  private static PipeVoice full() {
    PipeVoice x = new PipeVoice(5);
    for (int p = 0; p < 5; p++) x.grid(p, 1 << 1 | 1 << 5 | 1 << 9 | 1 << 12);
    return x;
  }

  private static void gridFull() {
    Edges.sentence(21, "shapes of the GRID by WIDTHS, the first PIECE's lowest ones first, then the next one's");
    int[] four = {1, 5, 9, 12};
    PipeVoice x = full();
    Edges.due("shapes", x.about(5), 1024);
    Edges.due("all MAKE what wasn't told", x.makes(0), 1024);
    for (int i : new int[] {0, 1, 2, 3, 4, 15, 16, 63, 64, 255, 256, 511, 512, 1022, 1023}) {
      for (int p = 0; p < 5; p++) Edges.due("maker(0, " + i + ", " + p + ")", x.maker(0, i, p), four[i >> (2 * (4 - p)) & 3]);
    }
    Edges.due("behind the last", x.maker(0, 1024, 0), -1);
    Edges.due("fewer", x.grid(4, 2), 256);
    Edges.due("all of them", x.makes(0), 256);
    Edges.due("behind the last", x.maker(0, 256, 0), -1);
    Edges.due("the last", x.maker(0, 255, 4), 1);
    Edges.due("many again", x.grid(4, 6), 512);
    Edges.due("the last", x.maker(0, 511, 4), 2);
  }

  private static void gridGrows() {
    Edges.sentence(21, "GRID of a PIECE: each alone, from one shape to 1024 and back, with all TONES told");
    PipeVoice x = new PipeVoice(5);
    PlainVoice y = new PlainVoice(5);
    int[][] tellings = {{0, 0, 18, 19}, {0, 1, 5, 13}, {0, 2, -1, -1}, {0, 3, -14, -5}, {0, 4, -20, -19}};
    for (int[] t : tellings) {
      x.hear(t[0], t[1], t[2], t[3]);
      y.hear(t[0], t[1], t[2], t[3]);
    }
    int[] sets = {1 << 6, 1 << 2 | 1 << 9, 1 << 2 | 1 << 5 | 1 << 9, 1 << 1 | 1 << 4 | 1 << 8 | 1 << 12, 1 << 11};
    for (int set : sets) {
      for (int p = 0; p < 5; p++) {
        Edges.due("grid(" + p + ", " + set + ")", x.grid(p, set), y.grid(p, set));
        Edges.due("makes(0) then", x.makes(0), y.makes(0));
        Edges.due("row(1, -1, 0) then", x.row(1, -1, 0), y.makes(0) > 0 ? 0 : -1);
        for (int i = 0; i < 5; i++) Edges.due("maker(0, 1, " + i + ") then", x.maker(0, 1, i), y.maker(0, 1, i));
        Edges.due("nearest(0, -1) then", x.nearest(0, -1), y.nearest(0, -1));
      }
    }
  }

  private static void hear() {
    Edges.sentence(22, "SOUNDS 0 .. 7: for a TONE (0 .. 4) BOXES from one to one (-20 .. 19): the TIME");
    PipeVoice x = new PipeVoice(2);
    int[][] right = {{0, 0, -20, -20}, {7, 4, 19, 19}, {0, 4, -20, 19}, {7, 0, 0, 0}};
    for (int i = 0; i < 4; i++) Edges.due("hear", x.hear(right[i][0], right[i][1], right[i][2], right[i][3]), i + 1);

    Edges.sentence(22, "NONE for others");
    int[][] bad = {{-1, 0, 0, 0}, {8, 0, 0, 0}, {MIN, 0, 0, 0}, {MAX, 0, 0, 0}, {0, -1, 0, 0}, {0, 5, 0, 0}, {0, MIN, 0, 0}, {0, MAX, 0, 0},
        {0, 0, -21, 0}, {0, 0, MIN, 0}, {0, 0, -21, -21}, {0, 0, 0, 20}, {0, 0, 0, MAX}, {0, 0, 20, 20}, {0, 0, 20, 19}, {0, 0, -20, -21},
        {0, 0, 5, 4}, {0, 0, 19, -20}, {0, 0, MAX, MIN}, {-1, 5, 0, 0}};
    for (int[] c : bad) Edges.refused("hear " + c[0] + " " + c[1] + " " + c[2] + " " + c[3], y -> y.hear(c[0], c[1], c[2], c[3]), -1);

    Edges.sentence(22, "or if it is 100");
    x = new PipeVoice(2);
    for (int i = 1; i <= 98; i++) Edges.due("hear", x.hear(i % 8, i % 5, -20, 19), i);
    Edges.due("the 99th", x.hear(3, 0, 14, 14), 99);
    Edges.due("the 100th", x.hear(3, 0, 13, 13), 100);
    for (int i = 0; i < 3; i++) Edges.due("one more", x.hear(3, 0, 14, 14), -1);
    Edges.due("TIME", x.about(2), 100);
    Edges.due("THE LOOK", x.about(3), 100);
    Edges.due("look(100)", x.look(100), true);
    Edges.due("makes by the 100th", x.makes(3), 0);
    Edges.due("look(99)", x.look(99), true);
    Edges.due("one more while looking back", x.hear(3, 0, 14, 14), -1);
    Edges.due("THE LOOK stays", x.about(3), 99);
    Edges.due("look(101)", x.look(101), false);
    x.back();
    Edges.due("hear behind back()", x.hear(0, 0, 0, 0), 1);
    Edges.refused(EdgeShapeTest::busyFull, "hear", y -> y.hear(0, 0, 0, 0), -1);
  }

  private static PipeVoice busyFull() {
    PipeVoice x = Edges.busy();
    for (int i = 4; i <= 100; i++) x.hear(2 + i % 3, i % 3, -15, 15);
    x.look(60);
    return x;
  }

  private static void look() {
    Edges.sentence(23, "THE LOOK is at a TIME (0 to the latest): true");
    PipeVoice x = new PipeVoice(2);
    Edges.due("THE LOOK at first", x.about(3), 0);
    Edges.due("look(0) without a telling", x.look(0), true);
    Edges.due("look(1) without a telling", x.look(1), false);
    for (int i = 0; i < 3; i++) x.hear(i, 0, 0, 0);
    for (int time = 0; time <= 3; time++) {
      Edges.due("look(" + time + ")", x.look(time), true);
      Edges.due("THE LOOK", x.about(3), time);
      Edges.due("TIME stays", x.about(2), 3);
    }
    Edges.sentence(23, "False for others");
    for (int time : new int[] {MIN, -1, 4, 100, MAX}) Edges.refused("look(" + time + ")", y -> y.look(time) ? 1 : 0, 0);
    x.look(1);
    Edges.due("look(3), as TIME is the latest, not THE LOOK", x.look(3), true);
  }

  private static void lookBack() {
    Edges.sentence(23, "what was told latest at or ahead of it (at first, and behind each telling, the latest TIME); without: any");
    // The one shape is 6, 6: its TONES lie in 14 and -15.
    PipeVoice x = new PipeVoice(2);
    x.hear(0, 0, 14, 14);
    x.hear(0, 1, 0, 0);
    x.hear(0, 1, -15, -15);
    x.hear(0, 0, 13, 13);
    x.hear(1, 0, 13, 13);
    int[][] due = {{1, 1}, {1, 1}, {0, 1}, {1, 1}, {0, 1}, {0, 0}};
    for (int time = 5; time >= 0; time--) {
      x.look(time);
      for (int sound = 0; sound < 2; sound++) Edges.due("makes(" + sound + ") at " + time, x.makes(sound), due[time][sound]);
    }
    Edges.due("a telling while looking back to 0", x.hear(0, 0, -20, 14), 6);
    Edges.due("THE LOOK", x.about(3), 6);
    Edges.due("makes(0)", x.makes(0), 1);
  }

  private static void makes() {
    Edges.sentence(24, "if each TONE that was told is in one of its BOXES");
    int[][] spans = {{14, 14, 1}, {13, 13, 0}, {15, 15, 0}, {14, 19, 1}, {15, 19, 0}, {-20, 14, 1}, {-20, 13, 0}, {13, 15, 1}, {-20, 19, 1}};
    for (int[] c : spans) {
      PipeVoice x = new PipeVoice(2);
      x.hear(7, 0, c[0], c[1]);
      Edges.due("makes(7) with " + c[0] + " to " + c[1], x.makes(7), c[2]);
      Edges.due("another SOUND", x.makes(0), 1);
      x.hear(7, 1, -15, -15);
      Edges.due("with the second TONE too", x.makes(7), c[2]);
      x.hear(7, 1, -14, 19);
      Edges.due("with the second TONE elsewhere", x.makes(7), 0);
    }
    Edges.sentence(24, "(one that isn't there, or lies in none: not)");
    for (int n = 2; n <= 5; n++) {
      for (int k = 0; k < 5; k++) {
        PipeVoice x = new PipeVoice(n);
        x.hear(0, k, -20, 19);
        Edges.due("makes(0) with TONE " + k + " of " + n, x.makes(0), k < n ? 1 : 0);
        Edges.due("maker", x.maker(0, 0, 0), k < n ? 6 : -1);
        Edges.due("nearest", x.nearest(0, -1), k < n ? 0 : -1);
        Edges.due("row", x.row(1, -1, 0), k < n ? 0 : -1);
      }
    }
    Edges.sentence(24, "NONE for others");
    for (int sound : new int[] {MIN, -1, 8, 100, MAX}) Edges.due("makes(" + sound + ")", new PipeVoice(2).makes(sound), -1);
    for (int sound = 0; sound < 8; sound++) Edges.due("makes(" + sound + ")", new PipeVoice(2).makes(sound), 1);
  }

  private static PipeVoice pair() {
    PipeVoice x = new PipeVoice(2);
    x.grid(0, 1 << 5 | 1 << 7);
    x.grid(1, 1 << 5 | 1 << 7);
    x.hear(0, 0, 14, 14);
    x.hear(1, 2, 0, 0);
    return x;
  }

  private static void maker() {
    // Of 5, 5 and of 7, 7 the first TONE lies in 14, of the other two it doesn't.
    Edges.sentence(25, "NONE if there is none such");
    PipeVoice x = pair();
    int[] due = {5, 7, -1, -1, -1};
    for (int i = 0; i < 5; i++) for (int p = 0; p < 2; p++) Edges.due("maker(0, " + i + ", " + p + ")", x.maker(0, i, p), due[i]);
    Edges.due("of a SOUND that none MAKES", x.maker(1, 0, 0), -1);
    for (int i : new int[] {MIN, -1, 1024, MAX}) Edges.due("maker(0, " + i + ", 0)", x.maker(0, i, 0), -1);
    Edges.due("the last of one that wasn't told", x.maker(7, 3, 0), 7);
    Edges.due("behind it", x.maker(7, 4, 0), -1);
    Edges.sentence(25, "and for others");
    for (int sound : new int[] {MIN, -1, 8, MAX}) Edges.due("maker(" + sound + ", 0, 0)", x.maker(sound, 0, 0), -1);
    for (int piece : new int[] {MIN, -1, 2, 4, 5, MAX}) Edges.due("maker(0, 0, " + piece + ")", x.maker(0, 0, piece), -1);
  }

  private static void nearest() {
    Edges.sentence(26, "with the least sum of differences of WIDTHS; of like ones the first");
    PipeVoice x = pair();
    Edges.due("2 to 5, 5 and to 7, 7", x.nearest(0, -1), 2);
    for (int p = 0; p < 2; p++) Edges.due("the first of them", x.nearest(0, p), 5);
    Edges.due("all like: the sum", x.nearest(7, -1), 2);
    for (int p = 0; p < 2; p++) Edges.due("all like: the first", x.nearest(7, p), 5);
    Edges.read(x, "rest 6,7;");
    x.ticks(1);
    Edges.due("of 6, 7: the sum", x.nearest(0, -1), 1);
    for (int p = 0; p < 2; p++) Edges.due("of 6, 7", x.nearest(0, p), 7);
    Edges.due("of 6, 7: 5, 7 ahead of 7, 7", x.nearest(7, 0), 5);
    x = full();
    Edges.read(x, "rest 12,12,12,12,12;");
    x.ticks(6);
    x.grid(0, 2);
    x.grid(1, 2);
    x.grid(2, 2);
    x.grid(3, 2);
    x.grid(4, 2);
    Edges.due("the greatest sum", x.nearest(0, -1), 55);

    Edges.sentence(26, "NONE: no shape MAKES it, and for others");
    x = pair();
    for (int p = -1; p < 2; p++) Edges.due("nearest(1, " + p + ")", x.nearest(1, p), -1);
    for (int sound : new int[] {MIN, -1, 8, MAX}) for (int p = -1; p < 2; p++) Edges.due("nearest(" + sound + ", " + p + ")", x.nearest(sound, p), -1);
    for (int piece : new int[] {MIN, -2, 2, 4, 5, MAX}) Edges.due("nearest(0, " + piece + ")", x.nearest(0, piece), -1);
  }

  private static void row() {
    Edges.sentence(27, "ROW of m SOUNDS (the first m; 1 .. 8): the sum (k NONE)");
    PipeVoice x = pair();
    for (int m : new int[] {MIN, -1, 0, 9, MAX}) for (int k = -1; k < 2; k++) Edges.due("row(" + m + ", " + k + ", 0)", x.row(m, k, 0), -1);
    x.look(1);
    for (int m = 1; m <= 8; m++) {
      Edges.due("row(" + m + ", -1, 0)", x.row(m, -1, 0), 0);
      for (int k = 0; k < m; k++) Edges.due("row(" + m + ", " + k + ", 1)", x.row(m, k, 1), 5);
    }
    for (int m : new int[] {MIN, -1, 0, 9, MAX}) for (int k = -1; k < 2; k++) Edges.due("row(" + m + ", " + k + ", 0) behind others", x.row(m, k, 0), -1);
    for (int piece : new int[] {MIN, -1, 2, MAX}) Edges.due("the sum, whatever the piece", x.row(3, -1, piece), 0);

    Edges.sentence(27, "WIDTH of a PIECE in the k-th shape; NONE for others");
    for (int m = 1; m <= 8; m++) for (int k : new int[] {MIN, -2, m, 8, MAX}) Edges.due("row(" + m + ", " + k + ", 0)", x.row(m, k, 0), -1);
    for (int piece : new int[] {MIN, -1, 2, 4, 5, MAX}) for (int k : new int[] {0, 7}) Edges.due("row(8, " + k + ", " + piece + ")", x.row(8, k, piece), -1);

    Edges.sentence(27, "NONE: there is none");
    x.look(2);
    Edges.due("the first alone", x.row(1, -1, 0), 0);
    for (int m = 2; m <= 8; m++) for (int k = -1; k < 2; k++) Edges.due("row(" + m + ", " + k + ", 0)", x.row(m, k, 0), -1);
    x = pair();
    x.look(1);
    x.hear(7, 4, 0, 0);
    x.look(1);
    Edges.due("eight, by THE LOOK", x.row(8, -1, 0), 0);
    PipeVoice y = new PipeVoice(2);
    y.hear(7, 4, 0, 0);
    Edges.due("seven", y.row(7, -1, 0), 0);
    Edges.due("none MAKES the eighth", y.row(8, -1, 0), -1);
    Edges.due("none MAKES the eighth", y.row(8, 0, 0), -1);

    Edges.sentence(27, "of like ones the first by shapes, the first SOUND's first");
    // 2, 1 then any then 1, 2: all four lie on a way of 2; and any ahead of 2, 1 is 2, 1 itself.
    x = new PipeVoice(2);
    x.grid(0, 6);
    x.grid(1, 6);
    x.hear(1, 0, 16, 16);
    x.hear(3, 0, 11, 11);
    int[][] due = {{2, 1}, {2, 1}, {1, 1}, {1, 2}, {1, 2}};
    Edges.due("the sum", x.row(5, -1, 0), 2);
    for (int k = 0; k < 5; k++) for (int p = 0; p < 2; p++) Edges.due("row(5, " + k + ", " + p + ")", x.row(5, k, p), due[k][p]);
  }

  /** The full GRID and all eight SOUNDS, against sums that are found shape by shape. */
  private static void rowFull() {
    Edges.sentence(27, "the least sum of differences from each to the next, in a GRID of 1024 shapes");
    // Few shapes for some, many for others, all for SOUND 3; SOUNDS 1 and 4 by two TONES.
    int[][] tellings = {{0, 0, 17, 17}, {1, 0, 18, 18}, {1, 1, 10, 14}, {2, 1, 3, 4}, {3, 2, -1, -1}, {4, 3, -19, -17}, {4, 4, -20, -20},
        {5, 1, 5, 7}, {6, 4, -18, -18}, {7, 1, 18, 18}};
    PipeVoice x = full();
    PlainVoice y = new PlainVoice(5);
    for (int p = 0; p < 5; p++) y.grid(p, 1 << 1 | 1 << 5 | 1 << 9 | 1 << 12);
    for (int[] t : tellings) {
      x.hear(t[0], t[1], t[2], t[3]);
      y.hear(t[0], t[1], t[2], t[3]);
    }
    List<int[]> all = y.shapes();
    for (int m : new int[] {5, 8, 2, 1, 4}) {
      List<int[]> best = bestRow(y, all, m);
      int sum = 0;
      for (int k = 1; k < m; k++) sum += y.far(best.get(k - 1), best.get(k));
      Edges.due("row(" + m + ", -1, 0)", x.row(m, -1, 0), sum);
      for (int k = 0; k < m; k++) for (int p = 0; p < 5; p++) Edges.due("row(" + m + ", " + k + ", " + p + ")", x.row(m, k, p), best.get(k)[p]);
    }
  }

  private static List<int[]> bestRow(PlainVoice y, List<int[]> all, int m) {
    int none = 1000000;
    int[][] cost = new int[m][all.size()];
    for (int k = m - 1; k >= 0; k--) {
      for (int i = 0; i < all.size(); i++) {
        cost[k][i] = k == m - 1 ? 0 : none;
        for (int j = 0; k < m - 1 && j < all.size(); j++) cost[k][i] = Math.min(cost[k][i], cost[k + 1][j] + y.far(all.get(i), all.get(j)));
        if (!y.makesIt(all.get(i), k)) cost[k][i] = none;
      }
    }
    List<int[]> best = new ArrayList<>();
    int at = 0;
    for (int i = 1; i < all.size(); i++) if (cost[0][i] < cost[0][at]) at = i;
    if (cost[0][at] >= none) throw new IllegalStateException("a row was meant");
    best.add(all.get(at));
    for (int k = 1; k < m; k++) {
      int next = 0;
      while (cost[k][next] + y.far(all.get(at), all.get(next)) != cost[k - 1][at]) next++;
      at = next;
      best.add(all.get(at));
    }
    return best;
  }
}
