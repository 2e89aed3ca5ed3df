import java.util.ArrayList;
import java.util.List;
import java.util.Random;

/** Random texts for CompareTest: right ones, and ones that something was done to. */
final class Texts {
  private final Random random;
  private final int pieces;

  Texts(Random random, int pieces) {
    this.random = random;
    this.pieces = pieces;
  }

  private int pick(int least, int most) { return least + random.nextInt(most - least + 1); }

  private String number(int least, int most) {
    if (random.nextInt(60) == 0) return List.of("0", "13", "101", "99999999999999999999", "" + (least - 1 < 0 ? 7 : least - 1), "" + (most + 1)).get(random.nextInt(6));
    return (random.nextInt(20) == 0 ? "00" : "") + pick(least, most);
  }

  private String letter(int most) {
    if (random.nextInt(80) == 0) return List.of("I", "a", "AB", "Z").get(random.nextInt(4));
    return "" + (char) ('A' + random.nextInt(most));
  }

  String text() {
    List<String> tokens = new ArrayList<>();
    if (random.nextInt(2) == 0) rest(tokens);
    for (int i = random.nextInt(6); i > 0; i--) gesture(tokens);
    for (int i = random.nextInt(4); i > 0; i--) word(tokens);
    for (String w : List.of("loss", "lips", "back"))
      if (random.nextInt(3) == 0) tokens.addAll(List.of(w, number(0, 100), ";"));
    if (random.nextInt(20) == 0) rest(tokens);
    if (random.nextInt(20) == 0) tokens.addAll(List.of("back", number(0, 100), ";"));
    if (random.nextInt(3) == 0) harm(tokens);
    String t = join(tokens);
    return t.length() > 400 ? t.substring(0, 400) : t;
  }

  private void rest(List<String> tokens) {
    tokens.add("rest");
    int count = random.nextInt(8) == 0 ? pick(1, 6) : pieces;
    for (int i = 0; i < count; i++) {
      if (i > 0) tokens.add(",");
      tokens.add(number(1, 12));
    }
    tokens.add(";");
  }

  private void gesture(List<String> tokens) {
    tokens.addAll(List.of("gesture", letter(3), number(0, pieces - 1), "to", number(1, 12), "by", number(1, 6)));
    tokens.addAll(List.of("hold", number(1, random.nextBoolean() ? 6 : 50), "strong", number(0, random.nextBoolean() ? 1 : 9), ";"));
  }

  private void word(List<String> tokens) {
    tokens.addAll(List.of("word", letter(8)));
    int count = random.nextInt(12) == 0 ? pick(8, 10) : pick(1, 3);
    for (int i = 0; i < count; i++) {
      if (i > 0) tokens.add(",");
      tokens.addAll(List.of(letter(random.nextInt(10) == 0 ? 8 : 3), "at", number(0, random.nextInt(5) == 0 ? 99 : 6)));
    }
    tokens.add(";");
  }

  private void harm(List<String> tokens) {
    if (tokens.isEmpty()) return;
    int i = random.nextInt(tokens.size());
    switch (random.nextInt(4)) {
      case 0 -> tokens.remove(i);
      case 1 -> tokens.add(i, List.of(",", ";", "5", "A", "rest", ".", "\t", "\u0000", "\u00e9", "word", "gesture").get(random.nextInt(11)));
      case 2 -> tokens.set(i, tokens.get(random.nextInt(tokens.size())));
      default -> tokens.subList(i, tokens.size()).clear();
    }
  }

  private String join(List<String> tokens) {
    StringBuilder t = new StringBuilder();
    boolean wide = random.nextInt(3) == 0;
    for (String token : tokens) {
      boolean needed = t.length() > 0 && alike(t.charAt(t.length() - 1), token.charAt(0));
      if (needed || wide && random.nextBoolean()) t.append(random.nextInt(4) == 0 ? '\n' : ' ');
      t.append(token);
    }
    if (random.nextInt(5) == 0) t.append("  ");
    return t.toString();
  }

  private static boolean alike(char a, char b) {
    return Character.isDigit(a) && Character.isDigit(b) || Character.isLetter(a) && Character.isLetter(b);
  }
}
