/** The sentences about a LIBRARY's text, its TOKENS and its FAULTS, each at its boundary: what still can be, and what can't. */
public final class TextBoundaryTests {
  private static final int NONE = WantShelves.NONE;
  private static final String HEAD = "topic x;topic y;";
  private static final String READER = "reader p odds 1 ";
  private static final String SIGNS = ";()<>=+-*/%";

  public static void main(String[] args) {
    longestText();
    emptyText();
    eachByteAlone();
    eachByteBehindANumber();
    eachByteBehindAWord();
    wordLengths();
    numberLengths();
    asLongAsCanBe();
    blanksPartOrNot();
    cutTextEndsThere();
    fullSorts();
    numberedAsTold();
    toldAhead();
    onceEach();
    weightsOfABook();
    wantsAndOughts();
    numbersThatCanBe();
    signedNumbers();
    notTold();
    unitsInOne();
    unitsInAll();
    withinOthers();
    wordsAreNoNames();
    sameNameOfAnotherSort();
    firstByPlace();
    leastAtOnePlace();
    placeOfTheEnd();
    cannotStand();
    Due.close();
  }

  /** The FAULT of a text and its place; a new object, so that nothing of another text is there. */
  private static void faults(String text, int fault, int place) {
    WantShelves x = new WantShelves();
    Due.feed(x, text);
    String shown = text.length() > 120 ? text.substring(0, 120) + ".." : text;
    Due.is("library() of: " + shown, x.library() == NONE, fault != 0);
    Due.is("fault(0) of: " + shown, x.fault(0), fault);
    Due.is("fault(1) of: " + shown, x.fault(1), place);
  }

  private static void sound(String text) { faults(text, 0, NONE); }

  private static String blanks(int n) { return " ".repeat(n); }

  // "A LIBRARY is a text of at most 1,600 bytes".
  private static void longestText() {
    String first = "topic x;";
    String last = "book a x 9;";
    WantShelves x = Due.told(first + blanks(1600 - first.length() - last.length()) + last);
    Due.is("1,600 bytes: books", x.about(1), 1);
    Due.is("1,600 bytes: the last weight", x.weight(0, 0), 9);
    faults(blanks(1599) + "$", 1, 1599);
    faults(blanks(1599) + ";", 2, 1599);
    faults(blanks(1599) + "x", 2, 1599);
    faults(blanks(1594) + "topic ", 2, 1600);
    faults(blanks(1595) + "topic", 2, 1600);
    faults("topic x;" + "topic\n".repeat(2) + blanks(1580), 2, 14);
    sound(blanks(1600));
    sound("\n".repeat(1600));
    faults("a".repeat(1600), 1, 0);
    faults("7".repeat(1600), 1, 0);
    faults("law " + "(".repeat(1596), 2, 11);
    faults("law " + "not ".repeat(399), 2, 32);
    faults("law 1" + "+1".repeat(797), 2, 64);
  }

  // "(empty at first): library = {line}".
  private static void emptyText() {
    WantShelves x = new WantShelves();
    Due.is("no line at all", x.library(), 0);
    Due.is("no line at all: fault(0)", x.fault(0), 0);
    Due.is("no line at all: fault(1)", x.fault(1), NONE);
    sound(" ");
    sound("\n");
    sound(" \n \n");
  }

  // "words (a .. z ..), N (.. digits), signs ; ( ) < > = + - * / %; blanks (32, 10)": no other byte is in a TOKEN.
  private static void eachByteAlone() {
    for (int b = 0; b < 256; b++) {
      String text = String.valueOf((char) b);
      if (isBlank(b)) sound(text);
      else faults(text, isLetter(b) || isDigit(b) || isSign(b) ? 2 : 1, 0);
    }
  }

  // "no letter directly behind an N".
  private static void eachByteBehindANumber() {
    for (int b = 0; b < 256; b++) {
      String text = "law 1" + (char) b + ";";
      if (isBlank(b) || isDigit(b)) sound(text);
      else if (isLetter(b)) faults(text, 1, 4);
      else if (b == '(' || b == ')') faults(text, 2, 5);
      else if (isSign(b)) faults(text, 2, 6);
      else faults(text, 1, 5);
    }
  }

  private static void eachByteBehindAWord() {
    for (int b = 0; b < 256; b++) {
      String text = "topic q" + (char) b + ";";
      if (isBlank(b) || isLetter(b)) sound(text);
      else if (b == ';') faults(text, 2, 8);
      else if (isDigit(b) || isSign(b)) faults(text, 2, 7);
      else faults(text, 1, 7);
    }
  }

  private static boolean isBlank(int b) { return b == 32 || b == 10; }
  private static boolean isLetter(int b) { return b >= 'a' && b <= 'z'; }
  private static boolean isDigit(int b) { return b >= '0' && b <= '9'; }
  private static boolean isSign(int b) { return SIGNS.indexOf(b) >= 0; }

  // "words (a .. z, 8 at most)".
  private static void wordLengths() {
    String letters = "zyxwvutsrqponmlkjihgfedcba";
    for (int n = 1; n <= 26; n++) {
      if (n <= 8) sound("topic " + letters.substring(0, n) + ";");
      else faults("topic " + letters.substring(0, n) + ";", 1, 6);
    }
    sound("topic abcdefgh;topic abcdefgi;topic bbcdefgh;topic abcdefg;");
    faults("topic abcdefgh;topic abcdefgh;", 3, 21);
    faults("quarrels sum;", 2, 0);
    faults("quarrelss sum;", 1, 0);
    sound("topic a;topic z;topic aa;topic zz;");
    sound("topic b;topic bb;topic bbb;topic bbbbbbbb;");
    sound("book ac;book bb;book ca;book y;book z;book az;book ya;book aaaaaaaa;book zzzzzzzz;book zzzzzzza;");
    // Beyond eight letters a word is no NAME that begins alike.
    faults("topic abcdefgh;book a abcdefghi 1;", 1, 22);
    // 14 letters: the last 13 are those of no NAME either.
    faults("topic b;book a aaaaaaaaaaaaab 1;", 1, 15);
  }

  // "N (1 to 4 digits)".
  private static void numberLengths() {
    WantShelves x = Due.told("book a;reader p odds 0100;law 9999;shelf 0009;mood 009;");
    Due.is("odds 0100", x.reader(0, 0), 100);
    Due.is("law 9999", x.key(0, 0), 9999);
    Due.is("law 0000", Due.told("book a;reader p odds 0;law 0000;").key(0, 0), 0);
    faults("law 10000;", 1, 4);
    faults("law 00000;", 1, 4);
    faults("shelf 00009;", 1, 6);
    // As an int that wrapped these would be 1.
    faults("shelf 4294967297;", 1, 6);
    faults("reader p odds 18446744073709551617;", 1, 14);
    faults(HEAD + "book a x 00001;", 1, 25);
    faults(HEAD + READER + "wants x -00001;", 1, 41);
  }

  // "each is as long as can be".
  private static void asLongAsCanBe() {
    faults("topicx;", 2, 0);
    faults("topic x;bookx;", 2, 8);
    faults("law wantold;", 2, 4);
    faults("law want1;", 2, 8);
    faults("law notwant;", 2, 4);
    faults("law 1 and2and 3;", 1, 9);
    sound("law 1 and2 and 3;");
    Due.is("12 is one N", Due.told("book a;reader p odds 0;law 12;").key(0, 0), 12);
    faults("law 1 2;", 2, 6);
    sound("topic x;book b x7;book c x 7;");
  }

  // "blanks (32, 10) part them or not".
  private static void blanksPartOrNot() {
    sound("topic\nx\n;\n\nbook\na\nx\n3\n;\n");
    sound("topic x;book a x3;reader p odds3wants x-3ought x3;".replace("3wants", "3 wants").replace("3ought", "3 ought"));
    WantShelves x = Due.told("topic x;book a x 1;reader p odds 1 wants x\n-\n9;law(want)*(2)-(1);");
    Due.is("a sign parted from its N", x.wants(0, 0), -9);
    Due.is("a law without blanks", x.key(0, 0), -19);
    faults("top ic x;", 2, 0);
    faults("law 1 0;", 2, 6);
  }

  // What end() cut off, and what an earlier text had, is not behind a TOKEN.
  private static void cutTextEndsThere() {
    WantShelves x = new WantShelves();
    Due.feed(x, "topic x;shelf 5a;");
    Due.is("end(15)", x.end(15), 15);
    Due.is("cut behind an N", x.library(), NONE);
    Due.is("cut behind an N: fault(0)", x.fault(0), 2);
    Due.is("cut behind an N: fault(1)", x.fault(1), 15);
    Due.feed(x, "topic abcdefghij;");
    Due.is("end(14)", x.end(14), 14);
    Due.is("cut within a word", x.library(), NONE);
    Due.is("cut within a word: fault(0)", x.fault(0), 2);
    Due.is("cut within a word: fault(1)", x.fault(1), 14);
    Due.feed(x, "book a;book b;");
    Due.is("end(7)", x.end(7), 7);
    Due.is("one line is left", x.library(), 1);
    Due.is("an empty text behind a longer one", x.library(), 0);
  }

  private static String topics(int n) {
    StringBuilder text = new StringBuilder();
    for (int i = 0; i < n; i++) text.append("topic ").append((char) ('s' + i)).append(';');
    return text.toString();
  }

  private static String books(int n) {
    StringBuilder text = new StringBuilder();
    for (int i = 0; i < n; i++) text.append("book ").append((char) ('a' + i)).append(';');
    return text.toString();
  }

  private static String readers(int n) {
    StringBuilder text = new StringBuilder();
    for (int i = 0; i < n; i++) text.append("reader ").append((char) ('a' + i)).append(" odds 1;");
    return text.toString();
  }

  // "At most 4 TOPICS, 10 BOOKS .., 6 READERS"; "one of a sort too many .. at the line's first word".
  private static void fullSorts() {
    WantShelves x = Due.told(topics(4) + books(10) + readers(6));
    Due.is("4 topics", x.about(0), 4);
    Due.is("10 books", x.about(1), 10);
    Due.is("6 readers", x.about(2), 6);
    faults(topics(5), 2, topics(4).length());
    faults(books(11), 2, books(10).length());
    faults(readers(7), 2, readers(6).length());
    faults(topics(4) + books(10) + readers(6) + "  topic q;", 2, topics(4).length() + 70 + readers(6).length() + 2);
    faults(topics(4) + books(10) + "\nbook $;", 2, topics(4).length() + 71);
    faults(readers(6) + "reader", 2, readers(6).length());
  }

  // "numbered as told, each sort by itself".
  private static void numberedAsTold() {
    WantShelves x = Due.told("book b;topic x;reader q odds 7;book a x 4;topic y;reader p odds 9 wants y 5;book c x 1 y 2;");
    Due.is("the second book", x.weight(1, 0), 4);
    Due.is("the third book, the second topic", x.weight(2, 1), 2);
    Due.is("the first reader", x.reader(0, 0), 7);
    Due.is("the second reader", x.wants(1, 1), 5);
  }

  // "of each TOPIC told ahead"; FAULT "5 a NAME that no TOPIC has".
  private static void toldAhead() {
    faults("topic x;book a y 1;topic y;", 5, 15);
    faults("reader p odds 1 wants x 1;topic x;", 5, 22);
    faults("reader p odds 1 ought x 1;topic x;", 5, 22);
    faults("book x;book a x 1;", 5, 14);
    faults("topic x;book a p 1;reader p odds 1;", 5, 15);
    WantShelves x = Due.told("topic x;book a x 3;reader p odds 1 wants x 3;topic y;");
    Due.is("a topic told behind: weight", x.weight(0, 1), 0);
    Due.is("a topic told behind: want", x.wants(0, 1), 0);
  }

  // "law, bend, quarrel (sum), shelf (1 .. 9; 5), mood (0 .. 9; 3) once each"; FAULT 2 for "a second time".
  private static void onceEach() {
    String[] lines = {"law want;", "bend old;", "quarrel sum;", "shelf 5;", "mood 3;"};
    sound(String.join("", lines));
    for (String line : lines) {
      faults(line + line, 2, line.length());
      faults(line + " \n" + line, 2, line.length() + 2);
      faults(line + "topic x;" + line, 2, line.length() + 8);
      String word = line.substring(0, line.indexOf(' '));
      faults(line + word, 2, line.length());
      faults(line + word + " $", 2, line.length());
    }
  }

  // "of each TOPIC told ahead a weight 0 .. 9, once; 0 if not told".
  private static void weightsOfABook() {
    WantShelves x = Due.told(topics(4) + "book a v 4 u 3 t 2 s 1;book b s 0 t 9;book c;");
    int[][] due = {{1, 2, 3, 4}, {0, 9, 0, 0}, {0, 0, 0, 0}};
    for (int b = 0; b < 3; b++) for (int t = 0; t < 4; t++) Due.is("weight " + b + " " + t, x.weight(b, t), due[b][t]);
    String all = topics(4) + "book a s 1 t 2 u 3 v 4 ";
    faults(all + "v 4;", 3, all.length());
    faults(all + "s 1;", 3, all.length());
    faults(all + "w 1;", 5, all.length());
    faults(topics(4) + "book a s 1 s 1;", 3, topics(4).length() + 11);
    // Another BOOK may tell it again.
    sound(HEAD + "book a x 1;book b x 1;");
    faults(HEAD + "book a x 1 x", 3, 27);
    faults(HEAD + "book a x 0 x 0;", 3, 27);
  }

  // "of each TOPIC told ahead a want -9 .. 9, an ought 0 .. 9, once each; 0 if not told".
  private static void wantsAndOughts() {
    String full = "reader p odds 1 wants s 1 ought s 2 wants t -3 ought t 4 ought u 5 wants u 6 ought v 7 wants v -8";
    WantShelves x = Due.told(topics(4) + "book a s 1;book b t 1;book c u 1;book d v 1;" + full + ";law ought;");
    int[] wants = {1, -3, 6, -8};
    int[] oughts = {2, 4, 5, 7};
    for (int t = 0; t < 4; t++) {
      Due.is("want of topic " + t, x.wants(0, t), wants[t]);
      Due.is("ought of topic " + t, x.key(0, t), oughts[t]);
    }
    int behind = (topics(4) + full + " ").length();
    faults(topics(4) + full + " wants v 1;", 3, behind + 6);
    faults(topics(4) + full + " ought s 1;", 3, behind + 6);
    faults(topics(4) + full + " wants w 1;", 5, behind + 6);
    faults(topics(4) + full + " ought w 1;", 5, behind + 6);
    faults(topics(4) + full + " v 1;", 2, behind);
    sound(HEAD + READER + "wants x 1 ought x 1;reader q odds 1 wants x 1 ought x 1;");
    faults(HEAD + READER + "wants x 0 wants x 0;", 3, 48);
    faults(HEAD + READER + "ought x 0 ought x 0;", 3, 48);
  }

  // FAULT "4 a number that can't be", and the last numbers that can.
  private static void numbersThatCanBe() {
    sound(HEAD + "book a x 0 y 9;");
    faults(HEAD + "book a x 10;", 4, 25);
    sound("reader p odds 0;reader q odds 100;");
    faults("reader p odds 101;", 4, 14);
    faults("reader p odds 9999;", 4, 14);
    sound(HEAD + READER + "ought x 0 ought y 9;");
    faults(HEAD + READER + "ought x 10;", 4, 40);
    faults("shelf 0;", 4, 6);
    faults("shelf 0000;", 4, 6);
    sound("shelf 1;");
    sound("shelf 9;");
    faults("shelf 10;", 4, 6);
    sound("mood 0;");
    sound("mood 9;");
    faults("mood 10;", 4, 5);
    faults("mood 9999;", 4, 5);
  }

  // "V = [-] N"; "(of V at its sign, if it has one)".
  private static void signedNumbers() {
    sound(HEAD + READER + "wants x 9 wants y -9;");
    faults(HEAD + READER + "wants x 10;", 4, 40);
    faults(HEAD + READER + "wants x -10;", 4, 40);
    faults(HEAD + READER + "wants x - 10;", 4, 40);
    faults(HEAD + READER + "wants x\n-\n\n9999;", 4, 40);
    Due.is("-0", Due.told(HEAD + READER + "wants x -0;").wants(0, 0), 0);
    Due.is("-0009", Due.told(HEAD + READER + "wants x -0009;").wants(0, 0), -9);
    faults(HEAD + READER + "wants x +1;", 2, 40);
    faults(HEAD + READER + "wants x --1;", 2, 41);
    faults(HEAD + READER + "wants x -;", 2, 41);
    faults(HEAD + READER + "wants x -", 2, 41);
    faults(HEAD + READER + "ought x -1;", 2, 40);
    faults(HEAD + "book a x -1;", 2, 25);
    faults("shelf -1;", 2, 6);
    faults("mood -1;", 2, 5);
    faults("reader p odds -1;", 2, 14);
  }

  // "0 if not told"; "quarrel (sum), shelf (.. 5), mood (.. 3)", "want without", "old .. without".
  private static void notTold() {
    WantShelves bare = Due.told("topic s;topic t;topic u;topic v;" + "book a s 9 t 9 u 9 v 9;book b;reader p odds 1;law want*1000+ought;");
    Due.is("no want, no ought", bare.key(0, 0), 0);
    for (int t = 0; t < 4; t++) {
      Due.is("no weight of topic " + t, bare.weight(1, t), 0);
      Due.is("no want of topic " + t, bare.wants(0, t), 0);
    }
    WantShelves x = Due.told("topic x;" + "book a x 1;book b x 2;" + books(10).substring(14) + "reader p odds 1 wants x 2;");
    Due.is("no quarrel: sum", x.about(14), 0);
    Due.is("no shelf: place 4", x.steps(4), 5);
    Due.is("no shelf: place 5", x.steps(5), 8);
    Due.is("no law: want", x.key(0, 1), 4);
    x.mood(0, 0);
    Due.is("no mood: 3", x.key(0, 1), 10);
    x.read(0, 1);
    Due.is("no bend: as it was", x.wants(0, 0), 2);
    Due.is("no units", x.about(12), 0);
    Due.is("mood 0 adds nothing", withMood(0), 2);
    Due.is("mood 9 adds nine", withMood(9), 11);
  }

  private static int withMood(int mood) {
    WantShelves x = Due.told("topic x;book a x 1;reader p odds 1 wants x 2;mood " + mood + ";");
    x.mood(0, 0);
    return x.key(0, 0);
  }

  // "30 in one e"; "a unit too many .. at its first TOKEN".
  private static void unitsInOne() {
    String full = "1" + "+1".repeat(29);
    WantShelves x = Due.told("book a;reader p odds 0;law " + full + ";");
    Due.is("30 units", x.about(12), 30);
    Due.is("30 units: their sum", x.key(0, 0), 30);
    String[] joins = {"+", "-", "*", "/", "%", "<", " and ", " or "};
    String[] units = {"1", "want", "(1)", "9999", "number"};
    for (String join : joins) {
      for (String unit : units) {
        faults("law " + full + join + unit + ";", 2, 4 + full.length() + join.length());
        faults("bend " + full + join + unit + ";", 2, 5 + full.length() + join.length());
      }
    }
    for (String join : joins) {
      if (join.equals("<")) continue;
      String alike = "1" + (join + "1").repeat(29);
      Due.is("30 units joined by" + join, Due.told("law " + alike + ";").about(12), 30);
      faults("law " + alike + join + "1;", 2, 4 + alike.length() + join.length());
    }
    faults("law " + full + " and not 1;", 2, 4 + full.length() + 9);
    faults("law " + full + " and not not (1);", 2, 4 + full.length() + 13);
    // ( e ) is a unit itself: 1 and 29 within it are full.
    String within = "(1" + "+1".repeat(28) + ")";
    Due.is("29 units within one", Due.told("book a;reader p odds 0;law " + within + ";").about(12), 30);
    faults("law " + within + "+1;", 2, 4 + within.length() + 1);
    faults("law (1" + "+1".repeat(29) + ");", 2, 5 + 2 * 29);
    Due.is("15 times ( 1 )", Due.told("law (1)" + "*(1)".repeat(14) + ";").about(12), 30);
    faults("law (1)" + "*(1)".repeat(14) + "*1;", 2, 7 + 56 + 1);
    faults("law (1)" + "*(1)".repeat(13) + "*1*(1);", 2, 7 + 52 + 4);
  }

  // "60 units in all".
  private static void unitsInAll() {
    String full = "1" + "+1".repeat(29);
    Due.is("law and bend full", Due.told("law " + full + ";bend " + full + ";").about(12), 60);
    Due.is("bend and law full", Due.told("bend " + full + ";law " + full + ";").about(12), 60);
    faults("law " + full + ";bend " + full + "+1;", 2, 4 + 59 + 6 + 60);
    faults("bend 1;law " + full + "+1;", 2, 11 + 60);
    Due.is("1 and 30", Due.told("bend 1;law " + full + ";").about(12), 31);
  }

  // "(a unit ( e ), or a one behind not, within 6 others at most)"; "what is within 7 others: at its first TOKEN, or the not".
  private static void withinOthers() {
    for (int n = 1; n <= 9; n++) {
      String brackets = "law " + "(".repeat(n) + "1" + ")".repeat(n) + ";";
      String nots = "law " + "not ".repeat(n) + "1;";
      if (n <= 7) {
        sound(brackets);
        sound(nots);
      } else {
        faults(brackets, 2, 11);
        faults(nots, 2, 32);
      }
    }
    // not and ( by turns: n of both together are within one another.
    sound("law not(not(not(not 1)));");
    faults("law not(not(not(not(1))));", 2, 19);
    sound("law (not(not(not(1))));");
    faults("law (not(not(not(not 1))));", 2, 17);
    sound("law ((((((not 1))))));");
    faults("law (((((((not 1)))))));", 2, 11);
    faults("law (((((((1 and not 1)))))));", 2, 17);
    faults("law not not not not not not not (1);", 2, 32);
    sound("law not not not not not not (1);");
    // Those beside one another are not within one another.
    sound("law (((((((1)))))))+(((((((1)))))));");
    sound("law not not not not not not not 1 or not not not not not not not 1;");
    sound("law ((((((1)+(1))+(1))+(1))+(1))+(1));");
    faults("law ((((((1+((1)))))));", 2, 13);
    sound("law ((((((1+(1)))))));");
    sound("bend (((((((1)))))));");
    faults("bend ((((((((1))))))));", 2, 12);
    faults("bend not not not not not not not not 1;", 2, 33);
    // What is within is worked out first, seven deep.
    Due.is("seven brackets", Due.told("book a;reader p odds 0;law 9-(8-(7-(6-(5-(4-(3-(2)))))));").key(0, 0), 9 - (8 - (7 - (6 - (5 - (4 - (3 - 2)))))));
    Due.is("seven nots", Due.told("book a;reader p odds 0;law not not not not not not not 5;").key(0, 0), 0);
    // As many marks as can be: 30 units, each behind seven nots.
    String many = "not not not not not not not 0" + " and not not not not not not not 0".repeat(29);
    Due.is("30 times seven nots of 0", Due.told("book a;reader p odds 0;law " + many + ";").key(0, 0), 1);
    Due.is("30 times, the last of 1", Due.told("book a;reader p odds 0;law " + many.substring(0, many.length() - 1) + "1;").key(0, 0), 0);
    Due.is("six nots", Due.told("book a;reader p odds 0;law not not not not not not 5;").key(0, 0), 1);
  }

  // "Words that stand for themselves here are no NAMES."
  private static void wordsAreNoNames() {
    String[] kept = {"topic", "book", "reader", "odds", "wants", "ought", "law", "bend", "quarrel", "sum", "least",
      "most", "turns", "shelf", "mood", "or", "and", "not", "want", "old", "weight", "reads", "number"};
    for (String word : kept) {
      faults("topic " + word + ";", 2, 6);
      faults("book " + word + ";", 2, 5);
      faults("reader " + word + " odds 1;", 2, 7);
      faults("book a " + word + " 1;", 2, 7);
      faults("reader p odds 1 wants " + word + " 1;", 2, 22);
      faults("reader p odds 1 ought " + word + " 1;", 2, 22);
      if (word.length() < 8) sound("topic " + word + "q;topic q" + word + ";topic " + word.substring(0, 1) + ";");
    }
  }

  // FAULT "3 a NAME told already (of its sort)".
  private static void sameNameOfAnotherSort() {
    sound("topic x;book x x 1;reader x odds 1 wants x 1;");
    faults("topic x;topic x;", 3, 14);
    faults("topic x;topic y;topic z;topic x;", 3, 30);
    faults("book x;topic x;book x;", 3, 20);
    faults("reader x odds 1;book x;reader x odds 1;", 3, 30);
    faults(books(9) + "book a;", 3, 68);
    faults(readers(5) + "reader e odds 1;", 3, 87);
    // A NAME of a text with a FAULT, or of the LIBRARY before, is not told already.
    WantShelves x = Due.told("topic x;book a;reader p odds 1;");
    Due.feed(x, "topic y;book b;reader q odds 1;;");
    x.library();
    Due.feed(x, "topic x;topic y;book a;book b;reader p odds 1;reader q odds 1;");
    Due.is("the same names again", x.library(), 2);
    Due.feed(x, "book a x 1;");
    Due.is("a topic of the library before", x.library(), NONE);
    Due.is("a topic of the library before: fault(0)", x.fault(0), 5);
    Due.is("a topic of the library before: fault(1)", x.fault(1), 7);
  }

  // "FAULTS, the first by its place".
  private static void firstByPlace() {
    faults("topic x y $", 2, 8);
    faults("topic $ y", 1, 6);
    faults("shelf 10 $", 4, 6);
    faults("book a x 10", 5, 7);
    faults(HEAD + "book a x 10 x 1;", 4, 25);
    faults(HEAD + "book a x 1 x 10;", 3, 27);
    faults(HEAD + READER + "wants x -10$", 4, 40);
    faults(HEAD + READER + "wants x -10a", 1, 41);
    faults(HEAD + READER + "wants z -10", 5, 38);
    faults("shelf 3;shelf 0;", 2, 8);
    faults(topics(4) + "topic s;", 2, 32);
    faults("topic x;topic x;topic $", 3, 14);
    faults("law ((((((((1$", 2, 11);
    faults("law (((((((1$", 1, 12);
  }

  // "at one place the least".
  private static void leastAtOnePlace() {
    String full = "1" + "+1".repeat(29);
    faults("law " + full + "+$;", 1, 64);
    faults("law " + full + "+12345;", 1, 64);
    faults("law " + full + "+1a;", 1, 64);
    faults("law (((((((abcdefghi;", 1, 11);
    faults("law (((((((12345;", 1, 11);
    faults("topic abcdefghi", 1, 6);
    faults("book a abcdefghi 1;", 1, 7);
    faults("shelf 12345;", 1, 6);
    faults("shelf 9a;", 1, 6);
    faults("law $;", 1, 4);
    faults("$", 1, 0);
    faults("quarrel A;", 1, 8);
    faults("reader p Odds 1;", 1, 9);
    faults("topic x$", 1, 7);
  }

  // "(bytes from 0; the end: the text's length)".
  private static void placeOfTheEnd() {
    String[] open = {"topic", "topic x", "book", "book a", "book a x", "book a x 1", "reader", "reader p", "reader p odds",
      "reader p odds 1", "reader p odds 1 wants", "reader p odds 1 wants x", "reader p odds 1 wants x -",
      "reader p odds 1 wants x 1", "reader p odds 1 ought", "reader p odds 1 ought x", "reader p odds 1 ought x 1", "law",
      "law want", "law want+", "law (", "law (want", "law not", "law want<", "law want and", "law want or", "law want*",
      "bend", "bend old", "quarrel", "quarrel turns", "shelf", "shelf 1", "mood", "mood 1"};
    for (String line : open) {
      String text = "topic x;" + line.replace("topic x", "topic q");
      faults(text, 2, text.length());
      faults(text + " \n ", 2, text.length() + 3);
    }
  }

  // FAULT "2 one that can't stand there".
  private static void cannotStand() {
    Object[][] rows = {{";", 0}, {"x;", 0}, {"1;", 0}, {"(", 0}, {"want;", 0}, {"sum;", 0}, {"odds 1;", 0}, {"topic;", 5},
      {"topic 1;", 6}, {"topic x,".replace(',', '('), 7}, {"topic x topic y;", 8}, {"book a;;", 7}, {"book a 1;", 7},
      {"topic x;book a x y;", 17}, {"topic x;book a x 1 1;", 19}, {"reader p 1;", 9}, {"reader odds 1;", 7},
      {"reader p odds x;", 14}, {"reader p odds 1 1;", 16}, {"reader p wants x 1;", 9}, {"quarrel x;", 8},
      {"quarrel 1;", 8}, {"quarrel sum least;", 12}, {"quarrel want;", 8}, {"quarrel or;", 8}, {"shelf x;", 6},
      {"shelf 1 2;", 8}, {"shelf;", 5}, {"mood x;", 5}, {"mood;", 4}, {"law;", 3}, {"law -1;", 4}, {"law 1+;", 6},
      {"law +1;", 4}, {"law 1 not 1;", 6}, {"law 1+not 1;", 6}, {"law 1*not 1;", 6}, {"law 1<not 1;", 6},
      {"law 1<2<3;", 7}, {"law 1=2=3;", 7}, {"law 1<>2;", 6}, {"law ();", 5}, {"law (1;", 6}, {"law 1);", 5},
      {"law (1));", 7}, {"law or 1;", 4}, {"law 1 or or 1;", 9}, {"law 1 and and 1;", 10}, {"law x;", 4},
      {"law wants;", 4}, {"law odds;", 4}, {"bend;", 4}, {"bend (1+);", 8}, {"law 1 or;", 8}, {"law 1 and;", 9},
      {"law not;", 7}, {"law 1<;", 6}, {"law 1*;", 6}, {"law (1 or);", 9}, {"law (1;", 6}, {"topic x;reader p odds 1 wants 1;", 30},
      {"topic x;reader p odds 1 ought 1;", 30}, {"topic x;reader p odds 1 wants;", 29}, {"topic x;reader p odds 1 wants -1;", 30}};
    for (Object[] row : rows) faults((String) row[0], 2, (Integer) row[1]);
    sound("law (1<2)<3;");
    sound("law not 1<2 and not(1=2)or 3;");
  }
}
