import java.util.ArrayList;
import java.util.HashSet;
import java.util.LinkedHashMap;
import java.util.List;
import java.util.Map;
import java.util.Set;
import java.util.regex.Matcher;
import java.util.regex.Pattern;

/** The text of a LIBRARY read in the plainest way, as a second opinion on what the class reads. */
final class PlainText {
  static final class Fault extends RuntimeException {
    final int code;
    final int place;
    Fault(int code, int place) {
      super("fault " + code + " at " + place, null, false, false);
      this.code = code;
      this.place = place;
    }
  }

  /** What a formula's words stand for. */
  interface Words { int of(String word); }

  interface Tree { int value(Words words); }

  private record Token(String text, int place, boolean bad) {
    boolean isNumber() { return !text.isEmpty() && Character.isDigit(text.charAt(0)); }
    boolean isName() { return text.matches("[a-z]+") && !KEPT.contains(text); }
  }

  private static final Set<String> KEPT = Set.of("topic", "book", "reader", "odds", "wants", "ought", "law", "bend",
      "quarrel", "sum", "least", "most", "turns", "shelf", "mood", "or", "and", "not", "want", "old", "weight",
      "reads", "number");
  private static final Pattern TOKEN = Pattern.compile("[ \n]*(?:([a-z]+)|([0-9]+)([a-z]?)|([;()<>=+*/%-])|([^ \n]))",
      Pattern.DOTALL);
  static final List<String> QUARRELS = List.of("sum", "least", "most", "turns");

  final List<String> topics = new ArrayList<>();
  final Map<String, int[]> books = new LinkedHashMap<>();
  final Map<String, int[]> wants = new LinkedHashMap<>();
  final Map<String, int[]> oughts = new LinkedHashMap<>();
  final List<Integer> odds = new ArrayList<>();
  Tree law = words -> words.of("want");
  Tree bend = words -> words.of("old");
  int quarrel = 0;
  int shelf = 5;
  int mood = 3;
  int units = 0;

  private final List<Token> tokens = new ArrayList<>();
  private final Set<String> onceTold = new HashSet<>();
  private int at = 0;
  private int unitsHere = 0;

  PlainText(String text) {
    Matcher m = TOKEN.matcher(text);
    int from = 0;
    while (m.find(from)) {
      int group = m.group(1) != null ? 1 : m.group(2) != null ? 2 : m.group(4) != null ? 4 : 5;
      String t = m.group(group);
      boolean bad = group == 5 || group == 1 && t.length() > 8
          || group == 2 && (t.length() > 4 || !m.group(3).isEmpty());
      tokens.add(new Token(t, m.start(group), bad));
      from = m.end(group);
    }
    tokens.add(new Token("", text.length(), false));
    while (!here().text().isEmpty()) line();
  }

  private Token here() { return tokens.get(at); }

  private boolean sees(String... ones) {
    if (here().bad()) return false;
    for (String one : ones) if (here().text().equals(one)) return true;
    return false;
  }

  private Fault cannotStand() { return new Fault(here().bad() ? 1 : 2, here().place()); }

  private void needs(String sign) {
    if (!sees(sign)) throw cannotStand();
    at++;
  }

  private void line() {
    if (!sees("topic", "book", "reader", "law", "bend", "quarrel", "shelf", "mood")) throw cannotStand();
    String sort = here().text();
    boolean tooMany = switch (sort) {
      case "topic" -> topics.size() == 4;
      case "book" -> books.size() == 10;
      case "reader" -> wants.size() == 6;
      default -> !onceTold.add(sort);
    };
    if (tooMany) throw cannotStand();
    at++;
    switch (sort) {
      case "topic" -> topics.add(newName(topics));
      case "book" -> book();
      case "reader" -> reader();
      case "law" -> law = formula();
      case "bend" -> bend = formula();
      case "shelf" -> shelf = number(1, 9);
      case "mood" -> mood = number(0, 9);
      default -> {
        if (here().bad() || !QUARRELS.contains(here().text())) throw cannotStand();
        quarrel = QUARRELS.indexOf(here().text());
        at++;
      }
    }
    needs(";");
  }

  private String newName(Iterable<String> told) {
    if (here().bad() || !here().isName()) throw cannotStand();
    for (String one : told) if (one.equals(here().text())) throw new Fault(3, here().place());
    at++;
    return tokens.get(at - 1).text();
  }

  private int topic(Set<Integer> given) {
    if (here().bad() || !here().isName()) throw cannotStand();
    int t = topics.indexOf(here().text());
    if (t < 0) throw new Fault(5, here().place());
    if (!given.add(t)) throw new Fault(3, here().place());
    at++;
    return t;
  }

  private int number(int least, int most) {
    if (here().bad() || !here().isNumber()) throw cannotStand();
    int n = Integer.parseInt(here().text());
    if (n < least || n > most) throw new Fault(4, here().place());
    at++;
    return n;
  }

  private void book() {
    int[] row = new int[4];
    books.put(newName(books.keySet()), row);
    Set<Integer> given = new HashSet<>();
    while (!sees(";")) {
      int t = topic(given);
      row[t] = number(0, 9);
    }
  }

  private void reader() {
    String name = newName(wants.keySet());
    int[] wanted = new int[4];
    int[] owed = new int[4];
    wants.put(name, wanted);
    oughts.put(name, owed);
    needs("odds");
    odds.add(number(0, 100));
    Set<Integer> givenWants = new HashSet<>();
    Set<Integer> givenOughts = new HashSet<>();
    while (!sees(";")) {
      if (sees("ought")) {
        at++;
        int t = topic(givenOughts);
        owed[t] = number(0, 9);
        continue;
      }
      needs("wants");
      int t = topic(givenWants);
      int sign = here().place();
      if (!sees("-")) {
        wanted[t] = number(0, 9);
        continue;
      }
      at++;
      int n = number(0, 9999);
      if (n > 9) throw new Fault(4, sign);
      wanted[t] = -n;
    }
  }

  private Tree formula() {
    unitsHere = 0;
    Tree tree = either(0);
    units += unitsHere;
    return tree;
  }

  private Tree either(int within) {
    Tree left = both(within);
    while (sees("or")) {
      at++;
      Tree a = left;
      Tree b = both(within);
      left = words -> a.value(words) != 0 | b.value(words) != 0 ? 1 : 0;
    }
    return left;
  }

  private Tree both(int within) {
    Tree left = one(within);
    while (sees("and")) {
      at++;
      Tree a = left;
      Tree b = one(within);
      left = words -> a.value(words) != 0 & b.value(words) != 0 ? 1 : 0;
    }
    return left;
  }

  private Tree one(int within) {
    if (sees("not")) {
      if (within == 7) throw cannotStand();
      at++;
      Tree a = one(within + 1);
      return words -> a.value(words) == 0 ? 1 : 0;
    }
    Tree a = chain(within, "+", "-");
    if (!sees("<", ">", "=")) return a;
    String relation = here().text();
    at++;
    Tree b = chain(within, "+", "-");
    return words -> joined(relation, a.value(words), b.value(words));
  }

  private Tree chain(int within, String... signs) {
    boolean sums = signs.length == 2;
    Tree left = sums ? chain(within, "*", "/", "%") : unit(within);
    while (sees(signs)) {
      String sign = here().text();
      at++;
      Tree a = left;
      Tree b = sums ? chain(within, "*", "/", "%") : unit(within);
      left = words -> joined(sign, a.value(words), b.value(words));
    }
    return left;
  }

  private static int joined(String sign, int a, int b) {
    return switch (sign) {
      case "<" -> a < b ? 1 : 0;
      case ">" -> a > b ? 1 : 0;
      case "=" -> a == b ? 1 : 0;
      case "+" -> a + b;
      case "-" -> a - b;
      case "*" -> a * b;
      case "/" -> b == 0 ? 0 : a / b;
      default -> b == 0 ? 0 : a % b;
    };
  }

  private Tree unit(int within) {
    boolean brackets = sees("(");
    boolean number = !here().bad() && here().isNumber();
    boolean word = sees("want", "ought", "old", "weight", "reads", "number");
    if (!brackets && !number && !word) throw cannotStand();
    if (unitsHere == 30 || brackets && within == 7) throw cannotStand();
    unitsHere++;
    String text = here().text();
    at++;
    if (number) {
      int n = Integer.parseInt(text);
      return words -> n;
    }
    if (word) return words -> words.of(text);
    Tree inner = either(within + 1);
    needs(")");
    return inner;
  }
}
