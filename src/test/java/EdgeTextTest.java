import java.math.BigInteger;

/** The sentences of promises 2 to 7, and of the Terms' texts, that name a boundary case. */
public final class EdgeTextTest {
  private static final int MIN = Edges.MIN;
  private static final int MAX = Edges.MAX;
  private static final String A = Edges.GESTURE_A;

  public static void main(String[] args) {
    feed();
    end();
    text();
    latestAlone();
    formerStays();
    signs();
    letters();
    numbers();
    theEnd();
    numbersOfRest();
    secondTimes();
    items();
    gestures();
    firstFault();
    leastFault();
    fault();
    law();
    say();
    Edges.finish(2, 3, 4, 5, 6, 7);
  }

  private static void taken(int pieces, String text, int clauses) {
    PipeVoice x = new PipeVoice(pieces);
    Edges.due("text of \"" + text + "\"", Edges.read(x, text), clauses);
    Edges.due("fault(0) of \"" + text + "\"", x.fault(0), 0);
    Edges.due("fault(1) of \"" + text + "\"", x.fault(1), -1);
  }

  private static void faulty(int pieces, String text, int which, int place) {
    PipeVoice x = new PipeVoice(pieces);
    Edges.due("text of \"" + text + "\"", Edges.read(x, text), -1);
    Edges.due("fault(0) of \"" + text + "\"", x.fault(0), which);
    Edges.due("fault(1) of \"" + text + "\"", x.fault(1), place);
  }

  private static String many(String part, int count) {
    return part.repeat(count);
  }

  private static void feed() {
    Edges.sentence(2, "Twenty bytes come behind the tape, the highest of a first: how many it has");
    for (int place = 0; place < 20; place++) {
      for (char sign : new char[] {'!', 0, 127, 128, 255}) {
        PipeVoice x = new PipeVoice(2);
        Edges.due("feed", Edges.feed(x, many(" ", place) + sign + many(" ", 19 - place), 0), 20);
        Edges.due("text with a byte " + (int) sign + " at " + place, x.text(), -1);
        Edges.due("its place", x.fault(1), place);
      }
    }
    PipeVoice x = new PipeVoice(2);
    Edges.due("feed(MIN ..)", x.feed(MIN, MAX, -1, 0, 1), 20);
    Edges.due("a second", x.feed(MIN, MAX, -1, 0, 1), 40);

    Edges.sentence(2, "NONE, and none come, if there would be more than 400");
    for (int size = 379; size <= 400; size++) {
      x = new PipeVoice(2);
      Edges.write(x, many(" ", size));
      Edges.due("feed behind " + size, Edges.feed(x, many("!", 20), 0), size <= 380 ? size + 20 : -1);
      Edges.due("bytes behind " + size, x.about(6), size <= 380 ? size + 20 : size);
      Edges.due("text of them", x.text(), size <= 380 ? -1 : 0);
      Edges.due("fault(1)", x.fault(1), size <= 380 ? size : -1);
    }
    Edges.refused(EdgeTextTest::busyWithLongTape, "feed", y -> y.feed(1, 2, 3, 4, 5), -1);
  }

  private static PipeVoice busyWithLongTape() {
    PipeVoice x = Edges.busy();
    Edges.write(x, "loss 9;back 3;" + many(" ", 367));
    return x;
  }

  private static void end() {
    Edges.sentence(3, "The tape has its first n bytes alone: n");
    PipeVoice x = new PipeVoice(2);
    Edges.due("end(0) of none", x.end(0), 0);
    Edges.write(x, many(" ", 400));
    Edges.due("end(400) of 400", x.end(400), 400);
    Edges.due("end(399)", x.end(399), 399);
    Edges.due("end(0)", x.end(0), 0);
    Edges.due("bytes", x.about(6), 0);
    Edges.write(x, "loss 12345");
    Edges.due("end(6)", x.end(6), 6);
    Edges.feed(x, ";" + many(" ", 19), 0);
    Edges.due("text: what was cut doesn't come back", x.text(), 1);
    Edges.due("LOSS", x.law(10), 1);

    Edges.sentence(3, "NONE, and nothing is done, if it has not so many");
    x = new PipeVoice(2);
    Edges.due("end(1) of none", x.end(1), -1);
    Edges.write(x, many(" ", 400));
    Edges.due("end(401) of 400", x.end(401), -1);
    Edges.due("bytes", x.about(6), 400);
    Edges.due("end(7)", x.end(7), 7);
    Edges.due("end(8) behind it", x.end(8), -1);
    for (int n : new int[] {15, 20, 400, MAX}) Edges.refused("end(" + n + ")", y -> y.end(n), -1);

    Edges.sentence(3, "or n is below 0");
    for (int n : new int[] {-1, -400, MIN}) Edges.refused("end(" + n + ")", y -> y.end(n), -1);
  }

  private static void text() {
    Edges.sentence(4, "The tape (empty then) is THE TEXT: how many CLAUSES");
    PipeVoice x = new PipeVoice(2);
    Edges.due("an empty tape", x.text(), 0);
    Edges.due("blanks alone", Edges.read(x, " \n \n"), 0);
    Edges.due("a text", Edges.read(x, "loss 5;lips 6;"), 2);
    Edges.due("bytes behind it", x.about(6), 0);
    Edges.due("end(1) behind it", x.end(1), -1);
    Edges.due("the tape again, empty", x.text(), 0);
    Edges.due("LOSS without a CLAUSE", x.law(10), 0);
    Edges.due("LIPS without a CLAUSE", x.law(11), 100);
    Edges.read(x, "loss 5;!");
    Edges.due("bytes behind a FAULT", x.about(6), 0);

    Edges.sentence(4, "TEXTS of up to 400 bytes");
    taken(2, "loss 7" + many(" ", 393) + ";", 1);
    taken(2, "loss " + many("0", 392) + "88;", 1);
    taken(2, many("\n", 393) + "loss 7;", 1);
    faulty(2, many(" ", 394) + "loss 7", 1, 400);
    faulty(2, "loss 7;" + many("x", 393), 1, 7);
    faulty(2, "loss 7;" + many(" ", 392) + "x", 1, 399);
    faulty(2, "loss " + many("9", 395), 2, 5);

    Edges.sentence(4, "Taking a text: what is SAID is over; WIDTHS stay as they are");
    x = Edges.busy();
    long[] widths = {x.width(0), x.width(1), x.width(2)};
    Edges.due("SAID", x.about(4), 2);
    Edges.read(x, "");
    Edges.due("SAID behind an empty text", x.about(4), 0);
    for (int i = 0; i < 3; i++) Edges.due("WIDTH " + i, x.width(i), widths[i]);
    Edges.due("the clock", x.about(1), 5);
    x.ticks(1);
    Edges.due("LED by none", x.led(5, 2, 4), -1);
    Edges.due("what is over", x.led(4, 2, 4), 1);
  }

  private static void latestAlone() {
    Edges.sentence(4, "THE TEXT is the latest that was taken: nothing of any former one counts");
    String b = "gesture B 1 to 12 by 6 hold 50 strong 9;";
    PipeVoice x = new PipeVoice(2);
    for (int i = 0; i < 6; i++) {
      String letter = "" + (char) ('A' + i);
      Edges.due("text " + i, Edges.read(x, "rest 1,2;loss 3;" + A + b + "word " + letter + " A at 0,B at 0;word H B at 0;"), 6);
      for (int word = 0; word < 8; word++) Edges.due("say(" + word + ") of text " + i, x.say(word) > 0, word == i || word == 7);
      Edges.due("a text of less " + i, Edges.read(x, A + "word " + letter + " A at 0;"), 2);
      Edges.due("REST", x.law(0), 6);
      Edges.due("LOSS", x.law(10), 0);
      Edges.due("gesture CLAUSES", x.law(13), 1);
      Edges.due("say", x.say(i), 1);
      Edges.due("a word of the former text", x.say(7), -1);
      Edges.due("the clock", x.ticks(1), i + 1);
      Edges.due("LED on PIECE 0", x.led(i, 0, 4), 0);
      Edges.due("LED on PIECE 1, of which the former text told", x.led(i, 1, 4), -1);
      if (i == 2) x.image();
    }
    // The same letter, without its second CLAUSE and its second ITEM.
    x = new PipeVoice(2);
    for (int i = 0; i < 4; i++) {
      for (int j = 0; j < 2; j++) Edges.read(x, A + "gesture A 0 to 12 by 6 hold 50 strong 9;word A A at 0,A at 5;");
      Edges.read(x, A + "word A A at 0;");
      x.say(0);
      x.ticks(6);
      Edges.due("LED on TICK " + 6 * i, x.led(6 * i, 0, 4), 0);
      Edges.due("LED on TICK " + (6 * i + 5), x.led(6 * i + 5, 0, 4), -1);
    }
  }

  private static void formerStays() {
    Edges.sentence(4, "NONE: it has a FAULT; the former one stays");
    PipeVoice x = Edges.busy();
    Edges.due("text", Edges.read(x, "rest 1,1,1;loss 1;lips 1;back 1;gesture C 0 to 1 by 1 hold 1 strong 1;word B C at 0;x"), -1);
    int[] laws = {3, 9, 5, -1, -1};
    for (int i = 0; i < 5; i++) Edges.due("REST " + i, x.law(i), laws[i]);
    int[] numbers = {7, 60, 40, 2};
    for (int i = 0; i < 4; i++) Edges.due("law(" + (10 + i) + ")", x.law(10 + i), numbers[i]);
    Edges.due("SAID", x.about(4), 2);
    Edges.due("a word of the text that wasn't taken", x.say(1), -1);
    Edges.due("a word of the former one", x.say(7), 3);
    x.ticks(1);
    Edges.due("LED by the former one", x.led(5, 2, 4), 1);
    // Many with a FAULT, one behind the other, and an image of the text.
    x = Edges.with(2, "loss 3;");
    x.image();
    Edges.read(x, "loss 4;");
    for (int i = 0; i < 5; i++) Edges.read(x, "loss 5;;");
    Edges.due("LOSS", x.law(10), 4);
    x.back();
    Edges.due("LOSS of the image", x.law(10), 3);
    // A FAULT in the first text: there is none then.
    x = new PipeVoice(2);
    Edges.read(x, "loss 4;rest 1,1;" + A + "word A A at 0;!");
    Edges.due("LOSS", x.law(10), 0);
    Edges.due("REST", x.law(0), 6);
    Edges.due("gestures", x.law(13), 0);
    Edges.due("say", x.say(0), -1);
  }

  private static boolean isBlank(int sign) {
    return sign == 32 || sign == 10;
  }

  private static boolean isLetter(int sign) {
    return (sign >= 65 && sign <= 90) || (sign >= 97 && sign <= 122);
  }

  private static void signs() {
    Edges.sentence(4, "blanks (32, 10) aside; letters, digits, one behind the other, are one TOKEN");
    for (int sign = 0; sign < 256; sign++) {
      String text = "loss" + (char) sign + "1;";
      boolean digit = sign >= 48 && sign <= 57;
      if (isBlank(sign) || digit) taken(2, text, 1);
      else faulty(2, text, 1, isLetter(sign) ? 0 : 4);
    }
    taken(2, "loss1;lips2;back3;", 3);
    taken(2, "\n loss \n\n 1 \n ; ", 1);
    faulty(2, "lo ss 1;", 1, 0);
    faulty(2, "loss 1 2;", 1, 7);
    faulty(2, "loss 1\n2;", 1, 7);
    faulty(2, "LOSS 1;", 1, 0);
    faulty(2, "losS 1;", 1, 0);

    Edges.sentence(5, "1 it can't stand there, or is none");
    for (int sign = 0; sign < 256; sign++) {
      if (!isBlank(sign)) faulty(2, "loss 1;" + (char) sign, 1, 7);
    }
    for (String word : new String[] {"rest", "loss", "lips", "back", "gesture", "word"}) {
      for (int i = 0; i < word.length(); i++) {
        faulty(2, word.substring(0, i) + "z" + word.substring(i + 1) + " 1", 1, 0);
        faulty(2, word.substring(0, i) + (char) (word.charAt(i) - 32) + word.substring(i + 1) + " 1", 1, 0);
      }
    }
    for (String word : new String[] {"to", "by", "hold", "strong"}) {
      int place = A.indexOf(word);
      for (int i = 0; i < word.length(); i++) faulty(2, A.substring(0, place + i) + "z" + A.substring(place + i + 1), 1, place);
    }
    faulty(2, A + "word A A zt 0;", 1, A.length() + 9);
    faulty(2, A + "word A A az 0;", 1, A.length() + 9);
    for (String word : new String[] {"hold", "to", "by", "at", "strong", "A", "rests", "res", "wordA", "0", ",", ";"}) faulty(2, word + " 1;", 1, 0);
  }

  private static void letters() {
    Edges.sentence(4, "LETTER: one TOKEN of A .. H");
    for (int sign = 0; sign < 256; sign++) {
      String gesture = "gesture " + (char) sign + " 0 to 9 by 2 hold 3 strong 1;";
      String word = A + "word " + (char) sign + " A at 0;";
      boolean letter = sign >= 'A' && sign <= 'H';
      if (letter) {
        taken(2, gesture, 1);
        taken(2, word, 2);
      } else {
        faulty(2, gesture, 1, isBlank(sign) ? 10 : 8);
        faulty(2, word, 1, A.length() + (isBlank(sign) ? 9 : 5));
      }
    }
    for (String two : new String[] {"AA", "AB", "HA", "Aa", "aA", "AI"}) {
      faulty(2, "gesture " + two + " 0 to 9 by 2 hold 3 strong 1;", 1, 8);
      faulty(2, A + "word " + two + " A at 0;", 1, A.length() + 5);
      faulty(2, A + "word A " + two + " at 0;", 1, A.length() + 7);
    }

    Edges.sentence(5, "3 in an ITEM a LETTER without a gesture CLAUSE ahead");
    for (int sign = 0; sign < 256; sign++) {
      String text = A + "word A " + (char) sign + " at 0;";
      int place = A.length() + 7;
      if (sign == 'A') taken(2, text, 2);
      else if (sign > 'A' && sign <= 'H') faulty(2, text, 3, place);
      else faulty(2, text, 1, isBlank(sign) ? place + 2 : place);
    }
    faulty(2, "word A A at 0;" + A, 3, 7);
    taken(2, A + "word A A at 0;gesture B 1 to 1 by 1 hold 1 strong 0;word B B at 0;", 4);
    faulty(2, A + "word A A at 0,B at 0;gesture B 1 to 1 by 1 hold 1 strong 0;", 3, A.length() + 14);
  }

  /** A NUMBER between two parts of a text: the least and the greatest are taken, those beyond are not. */
  private static void span(int pieces, String ahead, int least, int most, String behind) {
    for (String right : new String[] {"" + least, "" + most, "000" + least, many("0", 50) + most}) {
      PipeVoice x = new PipeVoice(pieces);
      Edges.due(ahead + right + behind, Edges.read(x, ahead + right + behind) > 0, true);
    }
    // 2 to the 32nd and to the 64th, and the same with a right one: what wraps around isn't right.
    BigInteger wide = BigInteger.ONE.shiftLeft(64);
    String[] wrong = {"" + (most + 1), "0" + (most + 1), "999", "1000", "1001", "2147483648", (4294967296L + least) + "",
        (4294967296L + most) + "", wide.add(BigInteger.valueOf(least)) + "", wide.add(BigInteger.valueOf(most)) + "",
        "1" + many("0", 99), "1" + many("0", 98) + "1"};
    for (String number : wrong) faulty(pieces, ahead + number + behind, 2, ahead.length());
    if (least > 0) faulty(pieces, ahead + (least - 1) + behind, 2, ahead.length());
    if (least > 0) faulty(pieces, ahead + "000" + behind, 2, ahead.length());
    faulty(pieces, ahead + "-" + most + behind, 1, ahead.length());
  }

  private static void numbers() {
    Edges.sentence(5, "2 a NUMBER that isn't one of those told: rest NUMBER (1 .. 12 each)");
    span(2, "rest ", 1, 12, ",1;");
    span(2, "rest 1,", 1, 12, ";");
    span(5, "rest 1,1,1,1,", 1, 12, ";");
    Edges.sentence(5, "2: loss NUMBER (0 .. 100)");
    span(2, "loss ", 0, 100, ";");
    Edges.sentence(5, "2: lips NUMBER, back NUMBER (0 .. 100 each)");
    span(2, "lips ", 0, 100, ";");
    span(2, "back ", 0, 100, ";");
    Edges.sentence(5, "2: a PIECE");
    for (int n = 2; n <= 5; n++) span(n, "gesture A ", 0, n - 1, " to 9 by 2 hold 3 strong 1;");
    Edges.sentence(5, "2: a WIDTH");
    span(2, "gesture A 0 to ", 1, 12, " by 2 hold 3 strong 1;");
    Edges.sentence(5, "2: SPEED 1 .. 6");
    span(2, "gesture A 0 to 9 by ", 1, 6, " hold 3 strong 1;");
    Edges.sentence(5, "2: HOLD 1 .. 50");
    span(2, "gesture A 0 to 9 by 2 hold ", 1, 50, " strong 1;");
    Edges.sentence(5, "2: STRENGTH 0 .. 9");
    span(2, "gesture A 0 to 9 by 2 hold 3 strong ", 0, 9, ";");
    Edges.sentence(5, "2: at NUMBER (0 .. 99)");
    span(2, A + "word A A at ", 0, 99, ";");
    span(2, A + "word A A at 0,A at ", 0, 99, ";");
  }

  private static void theEnd() {
    Edges.sentence(5, "at the TOKEN's first byte (of the end at the length)");
    String[] tokens = ("rest 1 , 12 ; loss 5 ; lips 6 ; back 7 ; gesture A 0 to 9 by 2 hold 3 strong 1 ; "
        + "word A A at 0 , A at 99 ;").split(" ");
    StringBuilder text = new StringBuilder();
    int clauses = 0;
    for (String token : tokens) {
      text.append(token);
      if (token.equals(";")) clauses++;
      for (String blanks : new String[] {"", " ", "\n", " \n ", many(" ", 20)}) {
        if (token.equals(";")) taken(2, text + blanks, clauses);
        else faulty(2, text + blanks, 1, text.length() + blanks.length());
      }
      text.append(token.length() % 2 == 0 ? "\n" : " ");
    }
    faulty(2, "   loss   101 ;", 2, 10);
  }

  private static void numbersOfRest() {
    Edges.sentence(5, "5 the n + 1st NUMBER of rest");
    for (int n = 2; n <= 5; n++) {
      String full = "rest 1" + many(",2", n - 1);
      taken(n, full + ";", 1);
      faulty(n, full + ",3;", 5, full.length() + 1);
      faulty(n, full + ",3,4,5;", 5, full.length() + 1);
      faulty(n, full + ", 3", 5, full.length() + 2);
      faulty(n, full + ",;", 1, full.length() + 1);
      faulty(n, full + ",", 1, full.length() + 1);
    }
    Edges.sentence(5, "5 the ; of rest with fewer");
    for (int n = 2; n <= 5; n++) {
      for (int count = 1; count < n; count++) {
        String text = "rest 12" + many(",1", count - 1);
        faulty(n, text + " ;", 5, text.length() + 1);
        faulty(n, text, 1, text.length());
      }
    }
  }

  private static void secondTimes() {
    Edges.sentence(5, "4 rest, loss, lips, back for the second time (at it)");
    String[] once = {"rest 1,1;", "loss 1;", "lips 1;", "back 1;"};
    taken(2, String.join("", once), 4);
    for (String first : once) {
      faulty(2, first + first, 4, first.length());
      faulty(2, first + A + A + first.substring(0, 4), 4, first.length() + 2 * A.length());
      for (String other : once) if (!other.equals(first)) faulty(2, first + other + first, 4, first.length() + other.length());
    }
    // A text of its own each time: what the former one told doesn't count.
    PipeVoice x = Edges.with(2, "rest 1,1;loss 1;" + A + "word A A at 0;");
    Edges.due("the same once more", Edges.read(x, "rest 1,1;loss 1;" + A + "word A A at 0;"), 4);
    Edges.due("a FAULT", Edges.read(x, "lips 1;word B"), -1);
    Edges.due("lips behind it", Edges.read(x, "lips 1;" + A + "word B A at 0;"), 3);
    Edges.due("a gesture of the former text", Edges.read(x, "word B A at 0;"), -1);
    Edges.due("its FAULT", x.fault(0), 3);

    Edges.sentence(5, "4 a word's LETTER likewise");
    String word = A + "word B A at 0;";
    faulty(2, word + "word B A at 0;", 4, word.length() + 5);
    faulty(2, word + "word C A at 0;word B", 4, word.length() + 19);
    taken(2, word + "word A A at 0;", 3);
    taken(2, A + A, 2);
  }

  private static String items(int count) {
    StringBuilder text = new StringBuilder(A + "word A ");
    for (int i = 0; i < count; i++) text.append(i > 0 ? "," : "").append("A at ").append(10 * i + 9);
    return text.toString();
  }

  private static void items() {
    Edges.sentence(5, "5 the 9th ITEM (at its LETTER)");
    for (int count = 1; count <= 8; count++) taken(2, items(count) + ";", 2);
    faulty(2, items(9) + ";", 5, items(8).length() + 1);
    faulty(2, items(10) + ";", 5, items(8).length() + 1);
    faulty(2, items(8) + ", A", 5, items(8).length() + 2);
    faulty(2, items(8) + ",", 1, items(8).length() + 1);
    // The 8th is taken whole: it leads.
    PipeVoice x = Edges.with(2, items(8) + ";");
    x.say(0);
    x.ticks(50);
    x.ticks(30);
    Edges.due("LED by the 8th", x.led(79, 0, 3), 7);
    Edges.due("LED by none ahead of it", x.led(78, 0, 3), -1);
    taken(2, A + "word A A at 0;word B A at 0;word C A at 0;word D A at 0;word E A at 0;word F A at 0;word G A at 0;word H A at 0;", 9);
  }

  private static void gestures() {
    Edges.sentence(5, "5 the 21st gesture CLAUSE (at gesture)");
    // 29 bytes are the fewest, so that 13 are the most that 400 bytes hold: the 21st can't be come to.
    String shortest = "gesture A0to1by1hold1strong1;";
    PipeVoice x = Edges.with(2, many(shortest, 13));
    Edges.due("gesture CLAUSES", x.law(13), 13);
    Edges.due("bytes of the next one too", 14 * shortest.length() > 400, true);
    faulty(2, many(shortest, 13) + "gesture A0to1by1hold1", 1, 398);
    // The last of them is taken whole: it leads, being the strongest.
    x = Edges.with(2, many(shortest, 11) + "gesture B1to12by6hold50strong9;word A B at 0;");
    x.say(0);
    x.ticks(1);
    Edges.due("LED by the 12th", x.led(0, 1, 4), 11);
  }

  private static void firstFault() {
    Edges.sentence(5, "FAULTS, the first as TOKENS are come to");
    faulty(2, "loss 101;loss 1;x", 2, 5);
    faulty(2, "loss 1;loss 101;", 4, 7);
    faulty(2, "x loss 101;", 1, 0);
    faulty(2, "rest 13,1,1;", 2, 5);
    faulty(2, "rest 1;rest 1,1,1;", 5, 6);
    faulty(2, "word A B at 100;", 3, 7);
    faulty(2, A + "word A A at 100,B at 0;", 2, A.length() + 12);
    faulty(2, A + "word A A at 0;word A B at 100;", 4, A.length() + 19);
    faulty(2, "gesture A 2 to 13 by 7 hold 51 strong 10;", 2, 10);
    faulty(2, "loss 5 ! 101", 1, 7);
  }

  private static void leastFault() {
    Edges.sentence(5, "of one the least");
    faulty(2, "rest 1,1;loss rest", 1, 14);
    faulty(2, "loss 1;loss loss 1;", 4, 7);
    faulty(2, "rest 1,1,13;", 2, 9);
    faulty(2, "rest 1,1,0;", 2, 9);
    faulty(2, "rest 1,1,x;", 1, 9);
    faulty(2, "rest;", 1, 4);
    faulty(2, "rest 1,;", 1, 7);
    faulty(2, items(8) + ",B at 0;", 3, items(8).length() + 1);
    faulty(2, items(8) + ",I at 0;", 1, items(8).length() + 1);
    faulty(2, items(8) + ",5 at 0;", 1, items(8).length() + 1);
    faulty(2, A + "word A A at 0;word I A at 0;", 1, A.length() + 19);
  }

  private static void fault() {
    Edges.sentence(5, "0 its FAULT (0 without), 1 its place (NONE without)");
    PipeVoice x = new PipeVoice(2);
    x.text();
    Edges.due("fault(0) of an empty text", x.fault(0), 0);
    Edges.due("fault(1) of an empty text", x.fault(1), -1);
    Edges.read(x, "!");
    Edges.due("fault(0)", x.fault(0), 1);
    Edges.due("fault(1) at the first byte", x.fault(1), 0);
    Edges.write(x, "loss 101;");
    Edges.due("fault(0) ahead of the next text()", x.fault(0), 1);
    x.text();
    Edges.due("fault(0) of the latest", x.fault(0), 2);
    Edges.due("fault(1) of the latest", x.fault(1), 5);
    x.text();
    Edges.due("fault(0), none any more", x.fault(0), 0);
    Edges.due("fault(1), none any more", x.fault(1), -1);

    Edges.sentence(5, "NONE for others, and ahead of any");
    for (int what : new int[] {MIN, -1, 2, 3, 10, MAX}) {
      x = new PipeVoice(2);
      Edges.due("fault(" + what + ") ahead of any", x.fault(what), -1);
      Edges.read(x, "loss 101;");
      Edges.due("fault(" + what + ")", x.fault(what), -1);
    }
    x = new PipeVoice(2);
    for (int i = 0; i < 2; i++) Edges.due("fault(" + i + ") ahead of any", x.fault(i), -1);
    Edges.write(x, "!");
    for (int i = 0; i < 2; i++) Edges.due("fault(" + i + ") with a tape", x.fault(i), -1);
    x.image();
    x.back();
    for (int i = 0; i < 2; i++) Edges.due("fault(" + i + ") behind back()", x.fault(i), -1);
  }

  private static void law() {
    Edges.sentence(6, "without one REST of each is 6, LOSS 0, LIPS 100, BACK 100, no GESTURES, no WORDS");
    for (int n = 2; n <= 5; n++) {
      PipeVoice x = new PipeVoice(n);
      for (int i = 0; i < n; i++) Edges.due("REST " + i, x.law(i), 6);
      int[] first = {0, 100, 100, 0};
      for (int i = 0; i < 4; i++) Edges.due("law(" + (10 + i) + ")", x.law(10 + i), first[i]);
      for (int word = 0; word < 8; word++) Edges.due("say(" + word + ")", x.say(word), -1);
    }
    PipeVoice x = Edges.with(2, "rest 12,1;loss 100;lips 0;back 0;");
    int[] edges = {12, 1, 100, 0, 0, 0};
    for (int i = 0; i < 6; i++) Edges.due("an edge", x.law(i < 2 ? i : 8 + i), edges[i]);
    Edges.read(x, "loss 0;lips 100;back 100;rest 1,12;");
    int[] others = {1, 12, 0, 100, 100, 0};
    for (int i = 0; i < 6; i++) Edges.due("the other edge", x.law(i < 2 ? i : 8 + i), others[i]);

    Edges.sentence(6, "NONE for others");
    for (int n = 2; n <= 5; n++) {
      x = new PipeVoice(n);
      for (int what = n; what < 10; what++) Edges.due("law(" + what + ") of " + n, x.law(what), -1);
      for (int what : new int[] {MIN, -10, -1, 14, 15, 100, MAX}) Edges.due("law(" + what + ")", x.law(what), -1);
    }
  }

  private static void say() {
    Edges.sentence(7, "NONE for others");
    for (int word : new int[] {MIN, -1, 8, MAX}) Edges.refused("say(" + word + ")", x -> x.say(word), -1);
    Edges.sentence(7, "one that wasn't told");
    for (int word = 1; word < 7; word++) {
      int which = word;
      Edges.refused("say(" + word + ")", x -> x.say(which), -1);
    }
    PipeVoice x = Edges.with(2, A);
    Edges.due("a GESTURE that is no WORD", x.say(0), -1);

    Edges.sentence(7, "or if there are 20");
    x = Edges.with(2, A + "word A A at 0;word H A at 99;");
    for (int i = 1; i <= 20; i++) Edges.due("say", x.say(i % 2 * 7), i);
    for (int i = 0; i < 2; i++) Edges.due("the 21st", x.say(7 * i), -1);
    Edges.due("SAID", x.about(4), 20);
    x.ticks(50);
    Edges.due("what has led is SAID still", x.say(0), -1);
    // The first by SAID, ITEM and CLAUSE is the word said second: the first of all is at 99.
    Edges.due("LED by the second", x.led(0, 0, 2), 1);
    Edges.due("a text with a FAULT", Edges.read(x, "!"), -1);
    Edges.due("still", x.say(0), -1);
    Edges.read(x, A + "word A A at 0;");
    Edges.due("what was SAID is over", x.say(0), 1);
    Edges.refused(EdgeTextTest::busyFull, "say(0)", y -> y.say(0), -1);
    x = Edges.with(2, A + "word A A at 0;");
    for (int i = 0; i < 19; i++) x.say(0);
    x.image();
    x.say(0);
    x.back();
    Edges.due("the 20th once more", x.say(0), 20);
    Edges.due("the 21st", x.say(0), -1);
  }

  private static PipeVoice busyFull() {
    PipeVoice x = Edges.busy();
    for (int i = 0; i < 18; i++) x.say(7);
    return x;
  }
}
