import java.lang.reflect.InvocationTargetException;
import java.lang.reflect.Method;
import java.util.Arrays;
import java.util.Comparator;
import java.util.List;
import java.util.Random;

/** The sentences of promises 1 and 28 to 30 that name a boundary case; and that no call throws, whatever it is given. */
public final class EdgeImageTest {
  private static final int MIN = Edges.MIN;
  private static final int MAX = Edges.MAX;

  public static void main(String[] args) throws Exception {
    newObject();
    firstImage();
    image();
    back();
    backToSaid();
    backFromFull();
    backToFull();
    tapeAndFault();
    about();
    nothingIsThrown();
    Edges.finish(1, 28, 29, 30);
  }

  private static void newObject() {
    Edges.sentence(1, "PIECES (2 to 5; others: the nearest of these)");
    int[][] cases = {{MIN, 2}, {-2, 2}, {-1, 2}, {0, 2}, {1, 2}, {2, 2}, {3, 3}, {4, 4}, {5, 5}, {6, 5}, {7, 5}, {100, 5}, {MAX, 5}};
    for (int[] c : cases) {
      PipeVoice x = new PipeVoice(c[0]);
      Edges.due("about(0) of " + c[0], x.about(0), c[1]);
      for (int i = 0; i < 6; i++) Edges.due("width(" + i + ") of " + c[0], x.width(i), i < c[1] ? 6 : -1);
    }
    Edges.sentence(1, "all of WIDTH 6; TICK 0");
    for (int n = 2; n <= 5; n++) {
      PipeVoice x = new PipeVoice(n);
      int[] first = {n, 0, 0, 0, 0, 1, 0, 0, 5, 4};
      for (int i = 0; i < 10; i++) Edges.due("about(" + i + ") of " + n, x.about(i), first[i]);
    }
  }

  /** All that is asked of an object whose tape and FAULT are as those of a new one. */
  private static void same(String when, PipeVoice x, PipeVoice y) {
    List<Long> got = Edges.all(x);
    List<Long> want = Edges.all(y);
    for (int i = 0; i < want.size(); i++) Edges.due("number " + i + " of all, " + when, got.get(i), want.get(i));
  }

  private static void firstImage() {
    Edges.sentence(1, "THE IMAGE is this");
    for (int n = 2; n <= 5; n++) {
      PipeVoice x = new PipeVoice(n);
      Edges.due("back at once", x.back(), 0);
      same("back at once", x, new PipeVoice(n));
      x = new PipeVoice(n);
      x.folds(20, 7, 3);
      x.ticks(50);
      for (int p = 0; p < n; p++) x.grid(p, 6);
      x.hear(0, 0, 0, 0);
      Edges.due("back", x.back(), 0);
      same("back behind all kinds of calls", x, new PipeVoice(n));
    }
    PipeVoice x = Edges.with(2, "rest 1,2;loss 3;" + Edges.GESTURE_A + "word A A at 0;");
    x.say(0);
    x.ticks(9);
    x.back();
    Edges.due("REST", x.law(0), 6);
    Edges.due("LOSS", x.law(10), 0);
    Edges.due("gesture CLAUSES", x.law(13), 0);
    Edges.due("SAID", x.about(4), 0);
    Edges.due("say", x.say(0), -1);
  }

  private static void image() {
    Edges.sentence(28, "THE IMAGE is as all is now: the clock");
    PipeVoice x = new PipeVoice(2);
    Edges.due("image at 0", x.image(), 0);
    x.ticks(50);
    Edges.due("image at 50", x.image(), 50);
    x.ticks(1);
    Edges.due("the later one counts", x.back(), 50);
    Edges.due("image of what was gone back to", x.image(), 50);
    x.ticks(50);
    x.ticks(50);
    x.ticks(50);
    Edges.due("image at 200", x.image(), 200);
    Edges.due("back to 200", x.back(), 200);
    Edges.due("ticks(1)", x.ticks(1), -1);
    Edges.due("the last STEP is over", x.led(199, 1, 0), 6);
    // It changes nothing but THE IMAGE: an object that has made it goes on as one that hasn't.
    PipeVoice y = Edges.busy();
    y.back();
    PipeVoice z = Edges.busy();
    z.back();
    Edges.due("image of the image", z.image(), 2);
    same("image of the image", z, y);
  }

  private static void back() {
    Edges.sentence(29, "BACK TO IT (it stays): the clock");
    PipeVoice x = Edges.busy();
    x.image();
    Edges.write(x, "loss 9;back 3;");
    for (int i = 0; i < 3; i++) {
      x.folds(1, 2, 3);
      x.ticks(5 + i);
      x.say(0);
      x.grid(0, 2 << i);
      x.grid(2, 30);
      x.hear(0, 0, i, i);
      x.look(i);
      Edges.due("back", x.back(), 5);
    }
    PipeVoice y = Edges.busy();
    y.image();
    same("back three times", x, y);

    Edges.sentence(29, "all is so again: what was told, SAID and led behind the image is gone");
    x = Edges.busy();
    x.image();
    x.ticks(9);
    x.hear(0, 0, 0, 0);
    x.back();
    Edges.due("led(5, 0, 0)", x.led(5, 0, 0), -1);
    Edges.due("sound(50)", x.sound(50), 0);
    Edges.due("look(4)", x.look(4), false);
    Edges.due("TIME", x.about(2), 3);
    Edges.due("THE LOOK", x.about(3), 2);
    Edges.due("a telling then", x.hear(7, 0, -20, 19), 4);
    Edges.due("what was told at the same TIME", x.makes(0), Edges.busy().makes(0));
  }

  private static void backToSaid() {
    Edges.sentence(29, "all is so again: what is SAID, from its own TICK on");
    String text = Edges.GESTURE_A + "gesture B 0 to 1 by 6 hold 9 strong 0;word A A at 0;word B B at 0;";
    PipeVoice x = Edges.with(2, text);
    x.ticks(1);
    x.say(0);
    x.ticks(1);
    x.say(1);
    x.image();
    // Others are SAID in their places, later and by another text, and lead there.
    x.ticks(3);
    Edges.read(x, text);
    x.say(1);
    x.say(0);
    x.ticks(1);
    Edges.due("LED on TICK 5 by the second SAID", x.led(5, 0, 2), 1);
    Edges.due("back", x.back(), 2);
    x.ticks(10);
    // A from TICK 1 to 3; B from 2 to 10, but weaker; then none.
    int[][] due = {{-1, -1}, {0, 0}, {0, 0}, {0, 0}, {1, 1}, {1, 1}, {1, 1}, {1, 1}, {1, 1}, {1, 1}, {1, 1}, {-1, -1}};
    for (int t = 0; t < 12; t++) {
      Edges.due("led(" + t + ", 0, 2)", x.led(t, 0, 2), due[t][0]);
      Edges.due("led(" + t + ", 0, 4)", x.led(t, 0, 4), due[t][1]);
    }
  }

  private static void backFromFull() {
    Edges.sentence(29, "all is so again: from 200 TICKS, 20 that are SAID, 100 tellings");
    PipeVoice x = Edges.busy();
    x.image();
    Edges.write(x, "loss 9;back 3;");
    for (int i = 0; i < 18; i++) x.say(0);
    for (int i = 0; i < 97; i++) x.hear(i % 8, i % 5, 0, 1);
    for (int n : new int[] {50, 50, 50, 45}) x.ticks(n);
    Edges.due("the clock", x.about(1), 200);
    Edges.due("say", x.say(0), -1);
    Edges.due("hear", x.hear(0, 0, 0, 0), -1);
    Edges.due("back", x.back(), 5);
    PipeVoice y = Edges.busy();
    y.image();
    same("back from where all is full", x, y);
  }

  private static void backToFull() {
    Edges.sentence(29, "all is so again: to 200 TICKS, 20 that are SAID, 100 tellings");
    PipeVoice x = Edges.with(2, "loss 1;" + Edges.GESTURE_A + "word A A at 0;");
    for (int i = 0; i < 20; i++) x.say(0);
    for (int i = 0; i < 99; i++) x.hear(0, 0, 0, 0);
    x.hear(1, 0, 14, 14);
    x.folds(20, 5, 4);
    for (int i = 0; i < 4; i++) x.ticks(50);
    long last = x.sound(1999);
    Edges.due("image", x.image(), 200);
    x.look(0);
    Edges.read(x, "loss 2;");
    Edges.due("back", x.back(), 200);
    Edges.due("LOSS", x.law(10), 1);
    Edges.due("the last SOUND", x.sound(1999), last);
    Edges.due("SAID", x.about(4), 20);
    Edges.due("say", x.say(0), -1);
    Edges.due("TIME", x.about(2), 100);
    Edges.due("THE LOOK", x.about(3), 100);
    Edges.due("hear", x.hear(0, 0, 0, 0), -1);
    Edges.due("makes(0)", x.makes(0), 0);
    Edges.due("makes(1)", x.makes(1), 1);
    Edges.due("led(0, 0, 2)", x.led(0, 0, 2), 0);
  }

  private static void tapeAndFault() {
    Edges.sentence(29, "all as it is, but the tape and the latest FAULT");
    PipeVoice x = new PipeVoice(2);
    Edges.write(x, "loss 5;");
    x.image();
    x.end(0);
    x.back();
    Edges.due("a tape that is empty stays so", x.about(6), 0);
    Edges.write(x, "loss 6;" + " ".repeat(393));
    x.back();
    Edges.due("a tape that is full stays so", x.about(6), 400);
    Edges.due("feed", x.feed(0, 0, 0, 0, 0), -1);
    Edges.due("its text", x.text(), 1);
    Edges.due("LOSS", x.law(10), 6);
    Edges.due("back", x.back(), 0);
    Edges.due("LOSS of the image", x.law(10), 0);
    Edges.due("fault(0) of the latest text()", x.fault(0), 0);
    Edges.read(x, "loss 101;");
    x.back();
    Edges.due("fault(0)", x.fault(0), 2);
    Edges.due("fault(1)", x.fault(1), 5);
    x.image();
    x.text();
    x.back();
    Edges.due("fault(0), none any more", x.fault(0), 0);
    Edges.due("fault(1), none any more", x.fault(1), -1);
  }

  private static void about() {
    Edges.sentence(30, "NONE for others");
    for (int what : new int[] {MIN, -100, -1, 10, 11, 100, MAX}) {
      Edges.due("about(" + what + ")", new PipeVoice(5).about(what), -1);
      Edges.due("about(" + what + ")", Edges.busy().about(what), -1);
    }
    Edges.sentence(30, "each at its greatest");
    PipeVoice x = Edges.with(5, Edges.GESTURE_A + "word A A at 0;");
    for (int i = 0; i < 20; i++) x.say(0);
    for (int i = 0; i < 100; i++) x.hear(0, 0, 0, 0);
    for (int i = 0; i < 4; i++) x.ticks(50);
    for (int p = 0; p < 5; p++) x.grid(p, 30);
    Edges.write(x, " ".repeat(400));
    x.folds(40, 20, 20);
    int[] most = {5, 200, 100, 100, 20, 1024, 400, 40, 20, 20};
    for (int i = 0; i < 10; i++) Edges.due("about(" + i + ")", x.about(i), most[i]);
  }

  /** Every method with the oddest numbers, in new objects and in busy ones, 400 calls each. */
  private static void nothingIsThrown() throws IllegalAccessException {
    Edges.sentence(30, "no call may ever throw, for any arguments in any state");
    int[] odd = {MIN, MIN + 1, -1000000000, -65536, -401, -101, -100, -21, -20, -2, -1, 0, 1, 2, 3, 4, 5, 6, 7, 8, 9, 10, 11, 12, 13, 14, 19, 20, 21,
        40, 41, 50, 51, 99, 100, 101, 200, 400, 401, 1023, 1024, 1999, 2000, 8190, 8192, 65536, 1000000000, MAX / 5, MAX / 5 + 1, MAX - 20, MAX - 1, MAX};
    Method[] methods = Arrays.stream(PipeVoice.class.getMethods()).filter(m -> m.getDeclaringClass() == PipeVoice.class)
        .sorted(Comparator.comparing(Method::getName)).toArray(Method[]::new);
    for (int seed = 0; seed < 300; seed++) {
      Random random = new Random(seed);
      PipeVoice x = seed % 2 == 0 ? Edges.busy() : new PipeVoice(odd[random.nextInt(odd.length)]);
      for (int i = 0; i < 400; i++) {
        Method m = methods[random.nextInt(methods.length)];
        Object[] given = new Object[m.getParameterCount()];
        for (int j = 0; j < given.length; j++) {
          boolean yes = m.getParameterTypes()[j] == boolean.class;
          given[j] = yes ? (Object) random.nextBoolean() : (Object) odd[random.nextInt(odd.length)];
        }
        try {
          m.invoke(x, given);
        } catch (InvocationTargetException e) {
          Edges.due(m.getName() + Arrays.toString(given) + " threw " + e.getCause(), 1, 0);
        }
      }
    }
  }
}
