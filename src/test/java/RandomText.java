import java.util.ArrayList;
import java.util.List;
import java.util.Random;

/** Texts of libraries, sound ones and ones with a FAULT somewhere. */
final class RandomText {
  private static final String[] NAMES = {"a", "b", "x", "y", "one", "both", "e", "sign", "abcdefgh", "topics", "nil",
    "unit", "term", "line", "odd"};
  private static final String[] ODD = {"$", "abcdefghi", "12345", "1a", "-", ";", "(", ")", "not", "or", "99", "10",
    "0", "topic", "book", "reader", "law", "want", "<", "=", "x", "wants", "ought", "odds", "mood", "shelf", "turns",
    "7", "and", "A", "\t", "\n", "0009", "*", "%"};
  private final Random random;
  private final int mostBooks;

  RandomText(Random random, int mostBooks) {
    this.random = random;
    this.mostBooks = mostBooks;
  }

  String sound() {
    for (int i = 0; i < 1000; i++) {
      String text = spaced(tokens());
      if (text.length() <= 1600 && isSound(text)) return text;
    }
    return "";
  }

  String broken() {
    List<String> tokens = tokens();
    int changes = 1 + random.nextInt(2);
    for (int i = 0; i < changes && !tokens.isEmpty(); i++) {
      int at = random.nextInt(tokens.size());
      switch (random.nextInt(5)) {
        case 0 -> tokens.remove(at);
        case 1 -> tokens.add(at, ODD[random.nextInt(ODD.length)]);
        case 2 -> tokens.set(at, ODD[random.nextInt(ODD.length)]);
        case 3 -> tokens.add(at, tokens.get(random.nextInt(tokens.size())));
        default -> tokens = new ArrayList<>(tokens.subList(0, at));
      }
    }
    String text = spaced(tokens);
    if (random.nextInt(4) == 0 && !text.isEmpty()) {
      int at = random.nextInt(text.length());
      text = text.substring(0, at) + (char) random.nextInt(256) + text.substring(at + random.nextInt(2));
    }
    return text.length() > 1600 ? text.substring(0, 1600) : text;
  }

  private static boolean isSound(String text) {
    try {
      new PlainText(text);
      return true;
    } catch (PlainText.Fault f) {
      return false;
    }
  }

  private String spaced(List<String> tokens) {
    StringBuilder text = new StringBuilder();
    boolean glue = random.nextBoolean();
    for (String token : tokens) {
      char last = text.length() == 0 ? ';' : text.charAt(text.length() - 1);
      boolean parted = Character.isLetterOrDigit(last) && Character.isLetterOrDigit(token.charAt(0))
          && !(glue && Character.isLetter(last) && Character.isDigit(token.charAt(0)));
      if (parted || !glue && random.nextInt(3) == 0) text.append(random.nextInt(5) == 0 ? '\n' : ' ');
      text.append(token);
    }
    if (random.nextInt(5) == 0) text.append(" \n");
    return text.toString();
  }

  private List<String> tokens() {
    List<List<String>> lines = new ArrayList<>();
    List<String> topics = new ArrayList<>();
    int topicCount = random.nextInt(5);
    for (int i = 0; i < topicCount; i++) topics.add(newName(topics));
    List<String> known = new ArrayList<>();
    for (String topic : topics) {
      lines.add(new ArrayList<>(List.of("topic", topic, ";")));
      known.add(topic);
    }
    List<String> told = new ArrayList<>();
    int books = random.nextInt(10) == 0 ? random.nextInt(3) : 2 + random.nextInt(mostBooks - 1);
    for (int i = 0; i < books; i++) {
      told.add(newName(told));
      lines.add(bookLine(told.get(i), known));
    }
    told.clear();
    int readers = random.nextInt(10) == 0 ? random.nextInt(2) : 2 + random.nextInt(random.nextInt(3) == 0 ? 5 : 2);
    for (int i = 0; i < readers; i++) {
      told.add(newName(told));
      lines.add(readerLine(told.get(i), known));
    }
    addOnceLines(lines, topicCount);
    List<String> tokens = new ArrayList<>();
    lines.forEach(tokens::addAll);
    return tokens;
  }

  private void addOnceLines(List<List<String>> lines, int from) {
    List<List<String>> more = new ArrayList<>();
    if (random.nextBoolean()) more.add(formulaLine("law"));
    if (random.nextInt(3) != 0) more.add(formulaLine("bend"));
    if (random.nextInt(5) != 0) {
      more.add(List.of("quarrel", PlainText.QUARRELS.get(random.nextInt(4)), ";"));
    }
    if (random.nextInt(3) != 0) more.add(List.of("shelf", "" + (1 + random.nextInt(9)), ";"));
    if (random.nextInt(3) != 0) more.add(List.of("mood", "" + random.nextInt(10), ";"));
    for (List<String> line : more) lines.add(random.nextInt(lines.size() + 1), line);
  }

  private String newName(List<String> told) {
    for (int i = 0; i < 1000; i++) {
      String name = NAMES[random.nextInt(NAMES.length)];
      if (!told.contains(name)) return name;
    }
    return "zz";
  }

  private List<String> bookLine(String name, List<String> topics) {
    List<String> line = new ArrayList<>(List.of("book", name));
    for (String topic : topics) {
      if (random.nextInt(4) != 0) line.addAll(List.of(topic, "" + random.nextInt(random.nextBoolean() ? 10 : 3)));
    }
    line.add(";");
    return line;
  }

  private List<String> readerLine(String name, List<String> topics) {
    int odds = random.nextInt(3) == 0 ? 100 * random.nextInt(2) : random.nextInt(101);
    List<String> line = new ArrayList<>(List.of("reader", name, "odds", "" + odds));
    for (String topic : topics) {
      if (random.nextInt(4) != 0) {
        line.addAll(List.of("wants", topic));
        if (random.nextBoolean()) line.add("-");
        line.add("" + random.nextInt(random.nextBoolean() ? 10 : 3));
      }
      if (random.nextInt(3) == 0) line.addAll(List.of("ought", topic, "" + random.nextInt(10)));
    }
    line.add(";");
    return line;
  }

  private List<String> formulaLine(String word) {
    List<String> line = new ArrayList<>(List.of(word));
    // Most laws should tell BOOKS apart, so that orders differ.
    if (random.nextBoolean()) line.addAll(List.of(word.equals("law") ? "want" : "old", random.nextBoolean() ? "+" : "-"));
    formula(line, random.nextInt(4), word);
    line.add(";");
    return line;
  }

  private void formula(List<String> into, int deep, String word) {
    int parts = 1 + random.nextInt(4);
    for (int i = 0; i < parts; i++) {
      if (i > 0) {
        String[] joins = {"+", "-", "*", "+", "-", "+", "-", "*", "/", "%", "<", ">", "=", "and", "or"};
        into.add(joins[random.nextInt(joins.length)]);
        if (random.nextInt(5) == 0 && (into.get(into.size() - 1).equals("and") || into.get(into.size() - 1).equals("or"))) {
          into.add("not");
        }
      }
      if (deep > 0 && random.nextInt(3) == 0) {
        into.add("(");
        if (random.nextInt(4) == 0) into.add("not");
        formula(into, deep - 1, word);
        into.add(")");
      } else {
        into.add(unit(word));
      }
    }
  }

  private String unit(String word) {
    String[] often = word.equals("law") ? new String[] {"want", "want", "ought", "reads", "number"}
        : new String[] {"old", "old", "weight", "reads"};
    String[] any = {"want", "ought", "old", "weight", "reads", "number"};
    return switch (random.nextInt(8)) {
      case 0 -> any[random.nextInt(6)];
      case 1 -> "" + random.nextInt(10000);
      case 2, 3 -> "" + random.nextInt(4);
      default -> often[random.nextInt(often.length)];
    };
  }
}
