/** Texts with a FAULT: which, and at which byte. */
public final class FaultTests {
  private static final String HEAD = "topic x;topic y;";

  public static void main(String[] args) {
    tokens();
    lines();
    tooMany();
    names();
    numbers();
    formulas();
    sound();
    Due.close();
  }

  private static void due(String text, int fault, int place) {
    WantShelves x = new WantShelves();
    Due.feed(x, text);
    Due.is("library of: " + text, x.library(), fault == 0 ? x.about(1) : WantShelves.NONE);
    Due.is("fault(0) of: " + text, x.fault(0), fault);
    Due.is("fault(1) of: " + text, x.fault(1), place);
  }

  private static void sound(String text) { due(text, 0, WantShelves.NONE); }

  private static void tokens() {
    due("topic x\t;", 1, 7);
    due("Topic x;", 1, 0);
    due("topic x;\r", 1, 8);
    due("topic " + (char) 233 + ";", 1, 6);
    due("topic x;" + (char) 0, 1, 8);
    due("topic abcdefghi;", 1, 6);
    due("shelf 12345;", 1, 6);
    due("shelf 00005;", 1, 6);
    due("shelf 5a;", 1, 6);
    due("law 1and 2;", 1, 4);
    due("law 1 and2;", 0, -1);
    due("topic$", 1, 5);
    due(HEAD + "reader p odds 1 wants x -3a", 1, 41);
    sound("topic abcdefgh;");
    sound("topic\nx\n;\n \n");
    sound("  topic x ; book a x5;book b x 5;");
    sound("law want<1 or not(reads=2)and 3>2;");
    sound("shelf 0005;");
  }

  private static void lines() {
    due(";", 2, 0);
    due("x", 2, 0);
    due("7", 2, 0);
    due("topic x", 2, 7);
    due("topic x  ", 2, 9);
    due("topic", 2, 5);
    due("topic 3;", 2, 6);
    due("topic x y;", 2, 8);
    due("topic x;;", 2, 8);
    due(HEAD + "book a x;", 2, 24);
    due(HEAD + "book a 3;", 2, 23);
    due(HEAD + "book a x -3;", 2, 25);
    due("book ;", 2, 5);
    due("reader p;", 2, 8);
    due("reader p odds;", 2, 13);
    due("reader p odds -1;", 2, 14);
    due("reader p odds 1 x;", 2, 16);
    due("reader p odds 1 wants;", 2, 21);
    due(HEAD + "reader p odds 1 wants x;", 2, 39);
    due(HEAD + "reader p odds 1 wants x - ;", 2, 42);
    due(HEAD + "reader p odds 1 wants x --1;", 2, 41);
    due("quarrel;", 2, 7);
    due("quarrel (sum);", 2, 8);
    due("quarrel sum", 2, 11);
    due("shelf x;", 2, 6);
    due("mood -1;", 2, 5);
    due("law ;", 2, 4);
    due("law want", 2, 8);
  }

  private static void tooMany() {
    StringBuilder text = new StringBuilder();
    for (char c = 'a'; c <= 'd'; c++) text.append("topic ").append(c).append(';');
    sound(text.toString());
    due(text + "topic e;", 2, 32);
    due(text + " topic a;", 2, 33);
    text.setLength(0);
    for (char c = 'a'; c <= 'j'; c++) text.append("book ").append(c).append(';');
    sound(text.toString());
    due(text + "book", 2, 70);
    text.setLength(0);
    for (char c = 'a'; c <= 'f'; c++) text.append("reader ").append(c).append(" odds 1;");
    sound(text.toString());
    due(text + "reader g odds 1;", 2, 96);
    String[] once = {"law 1;", "bend 1;", "quarrel least;", "shelf 3;", "mood 0;"};
    StringBuilder all = new StringBuilder();
    for (String line : once) all.append(line);
    sound(all.toString());
    for (String line : once) due(all + line, 2, all.length());
  }

  private static void names() {
    String[] kept = {"topic", "book", "reader", "odds", "wants", "ought", "law", "bend", "quarrel", "sum", "least",
      "most", "turns", "shelf", "mood", "or", "and", "not", "want", "old", "weight", "reads", "number"};
    for (String word : kept) {
      due("topic " + word + ";", 2, 6);
      due("book " + word + ";", 2, 5);
      due("reader " + word + " odds 1;", 2, 7);
    }
    String[] free = {"e", "both", "one", "sign", "term", "unit", "line", "library", "n", "v", "name", "read", "topics"};
    for (String word : free) sound("topic " + word + ";book " + word + " " + word + " 1;reader " + word + " odds 1;");
    sound("topic ab;topic ba;topic b;topic abcdefgh;book ab ab 1 ba 2;book ba;");
    due(HEAD + "topic y;", 3, 22);
    due("book a;book b;book a;", 3, 19);
    due("reader a odds 1;reader a", 3, 23);
    due(HEAD + "book a x 1 y 1 x", 3, 31);
    due(HEAD + "reader p odds 1 wants x 1 wants y 1 wants y", 3, 58);
    due(HEAD + "reader p odds 1 ought x 1 wants x 1 ought x", 3, 58);
    due("book a x 1;topic x;", 5, 7);
    due(HEAD + "book a z", 5, 23);
    due(HEAD + "reader p odds 1 ought z 1;", 5, 38);
    due(HEAD + "book a a 1;", 5, 23);
  }

  private static void numbers() {
    due(HEAD + "book a x 10;", 4, 25);
    due(HEAD + "book a x 9999;", 4, 25);
    due("reader p odds 101;", 4, 14);
    due(HEAD + "reader p odds 1 wants x 10;", 4, 40);
    due(HEAD + "reader p odds 1 wants x - 10;", 4, 40);
    due(HEAD + "reader p odds 1 ought x 10;", 4, 40);
    due("shelf 0;", 4, 6);
    due("shelf 10;", 4, 6);
    due("mood 10;", 4, 5);
    sound(HEAD + "book a x 9 y 0;reader p odds 100 wants x -9 wants y - 0 ought x 9 ought y 0;reader q odds 0;");
    sound("shelf 9;mood 0;");
    sound("shelf 1;mood 9;");
  }

  private static void formulas() {
    due("law 1+;", 2, 6);
    due("law -1;", 2, 4);
    due("law 1+-1;", 2, 6);
    due("law 1 2;", 2, 6);
    due("law (1;", 2, 6);
    due("law 1);", 2, 5);
    due("law ();", 2, 5);
    due("law 1+not 1;", 2, 6);
    due("law 1<not 1;", 2, 6);
    due("law 1<2=1;", 2, 7);
    due("law 1 and or 1;", 2, 10);
    due("law mood;", 2, 4);
    due("law topic;", 2, 4);
    due("bend x;", 2, 5);
    due("law not;", 2, 7);
    due("law 1 $;", 1, 6);
    due("law ((((((((1))))))));", 2, 11);
    sound("law (((((((1)))))));");
    due("law not(not(not(not(1))));", 2, 19);
    sound("law not(not(not(not 1)));");
    sound("law not not not not not not not 1;");
    due("law not not not not not not not (1);", 2, 32);
    sound("law not not not not not not not 1 and not not not not not not not 1;");
    String thirty = "1+".repeat(29) + "1";
    sound("law " + thirty + ";bend " + thirty + ";");
    due("law " + thirty + "+1;", 2, 64);
    due("law " + thirty + ";bend " + thirty + "+1;", 2, 129);
    // A unit ( e ) counts, too.
    due("law (" + "1+".repeat(28) + "1)+1;", 2, 64);
    due("law " + thirty + "+(1);", 2, 64);
    due("law " + thirty + "+$;", 1, 64);
  }

  private static void sound() {
    StringBuilder nots = new StringBuilder("law ");
    for (int i = 0; i < 30; i++) nots.append(i == 0 ? "" : " and ").append("not ".repeat(7)).append("0");
    WantShelves x = Due.told("book a;reader p odds 0;" + nots + ";");
    Due.is("thirty times seven nots", x.key(0, 0), 1);
    Due.is("units", x.about(12), 30);
    WantShelves last = Due.told("book a;reader p odds 0;" + nots.substring(0, nots.length() - 1) + "1;");
    Due.is("thirty times seven nots, the last of 1", last.key(0, 0), 0);
    String deep = "1-(2-(3-(4-(5-(6-(7-(8)))))))";
    WantShelves y = Due.told("book a;reader p odds 0;law " + deep + ";");
    Due.is(deep, y.key(0, 0), 1 - (2 - (3 - (4 - (5 - (6 - (7 - 8)))))));
    Due.is("units of it", y.about(12), 15);
  }
}
