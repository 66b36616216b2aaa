/** For each promise ordinary inputs, edges and wrong inputs; the answers are worked out by hand from the document. */
public final class PromiseTests {
  private static final int NONE = WantShelves.NONE;
  private static final int GAP = WantShelves.GAP;

  // KEYS of p: a 6, b -2, c 1 (ORDER a c b); of q: a 0, b 6, c 3 (ORDER b c a). STEPS to places: 1, 2, 5.
  private static final String PEOPLE = "topic x;topic y;book a x 3;book b y 2;book c x 1 y 1;"
      + "reader p odds 50 wants x 2 wants y -1;reader q odds 20 wants y 3 ought x 1;shelf 2;mood 4;";
  private static final String TWO = PEOPLE + "bend old+weight-1;";

  public static void main(String[] args) {
    newObject();
    feed();
    end();
    library();
    libraryForgets();
    fault();
    weightsAndWants();
    reader();
    key();
    keyArithmetic();
    placeAndBook();
    quarrels();
    steps();
    comes();
    mood();
    out();
    read();
    undoAndRedo();
    fortyActs();
    unlike();
    send();
    think();
    errand();
    leads();
    hide();
    pretend();
    rest();
    leftAndWas();
    one();
    crowd();
    lies();
    looks();
    fit();
    sureAndAsk();
    images();
    about();
    Due.close();
  }

  private static void newObject() {
    WantShelves x = new WantShelves();
    for (int what = 0; what < 15; what++) Due.is("new: about(" + what + ")", x.about(what), 0);
    Due.is("new: fault(0)", x.fault(0), 0);
    Due.is("new: fault(1)", x.fault(1), NONE);
    Due.is("new: was(0)", x.was(0), 1);
    Due.is("new: was(1)", x.was(1), 0);
    Due.is("new: one()", x.one(), 0);
    Due.is("new: undo()", x.undo(), false);
    Due.is("new: redo()", x.redo(), false);
    Due.is("new: library()", x.library(), 0);
    Due.is("NONE", WantShelves.NONE, -1);
    Due.is("GAP", WantShelves.GAP, -1000000);
  }

  private static void feed() {
    WantShelves x = new WantShelves();
    for (int i = 1; i <= 80; i++) Due.is("feed " + i, x.feed(-1, 0, 1, 2, 3), 20 * i);
    Due.is("feed 81", x.feed(0, 0, 0, 0, 0), NONE);
    Due.is("bytes after feed 81", x.about(11), 1600);
    Due.is("end(1580)", x.end(1580), 1580);
    Due.is("feed at 1580", x.feed(0, 0, 0, 0, 0), 1600);
    Due.is("end(1581)", x.end(1581), 1581);
    Due.is("feed at 1581", x.feed(0, 0, 0, 0, 0), NONE);
    Due.is("bytes then", x.about(11), 1581);
    WantShelves y = new WantShelves();
    // "book", " a;b", "ook ", "b;\n ", "    ": the highest byte first.
    Due.is("feed of a text", y.feed(0x626F6F6B, 0x20613B62, 0x6F6F6B20, 0x623B0A20, 0x20202020), 20);
    Due.is("library of it", y.library(), 2);
  }

  private static void end() {
    WantShelves x = new WantShelves();
    Due.is("end(0) of nothing", x.end(0), 0);
    Due.is("end(1) of nothing", x.end(1), NONE);
    x.feed(0, 0, 0, 0, 0);
    Due.is("end(21)", x.end(21), NONE);
    Due.is("end(-1)", x.end(-1), NONE);
    Due.is("bytes then", x.about(11), 20);
    Due.is("end(20)", x.end(20), 20);
    Due.is("end(7)", x.end(7), 7);
    Due.is("bytes at last", x.about(11), 7);
  }

  private static void library() {
    WantShelves x = Due.told(TWO);
    Due.is("bytes behind library()", x.about(11), 0);
    Due.is("topics", x.about(0), 2);
    Due.is("books", x.about(1), 3);
    Due.is("readers", x.about(2), 2);
    x.comes(1);
    Due.feed(x, "topic t;book b t 1");
    Due.is("library() with a fault", x.library(), NONE);
    Due.is("bytes behind a fault", x.about(11), 0);
    Due.is("books behind a fault", x.about(1), 3);
    Due.is("who is in behind a fault", x.about(3), 2);
    Due.is("acts behind a fault", x.about(6), 1);
    Due.is("an empty library()", x.library(), 0);
    Due.is("readers then", x.about(2), 0);
    Due.is("place then", x.place(0, 0), NONE);
  }

  private static void libraryForgets() {
    WantShelves x = Due.told(TWO);
    x.later(7);
    x.comes(0);
    x.mood(0, 1);
    x.out(2);
    x.read(0, 0);
    x.undo();
    x.image(1);
    x.look(0, 0, 1);
    x.left(0);
    x.one();
    Due.feed(x, TWO + "law 1;");
    Due.is("library() again", x.library(), 3);
    int[] due = {2, 3, 2, 0, 0, 0, 0, 0, 0, 0, 7, 0, 4, 0, 0};
    for (int what = 0; what < due.length; what++) {
      Due.is("library() again: about(" + what + ")", x.about(what), due[what]);
    }
    Due.is("its mood", x.reader(0, 1), NONE);
    Due.is("its wants", x.wants(0, 0), 2);
    Due.is("its box", x.back(1), NONE);
    Due.is("its law", x.key(0, 1), 1);
    Due.feed(x, "book a;");
    Due.is("a third one", x.library(), 1);
    Due.is("units of it", x.about(12), 0);
  }

  private static void fault() {
    WantShelves x = new WantShelves();
    Due.feed(x, "shelf 10;");
    x.library();
    Due.is("fault(0)", x.fault(0), 4);
    Due.is("fault(1)", x.fault(1), 6);
    Due.is("fault(-1)", x.fault(-1), NONE);
    Due.is("fault(2)", x.fault(2), NONE);
    Due.is("a good one", x.library(), 0);
    Due.is("fault(0) then", x.fault(0), 0);
    Due.is("fault(1) then", x.fault(1), NONE);
  }

  private static void weightsAndWants() {
    WantShelves x = Due.told(TWO);
    Due.is("weight(0, 0)", x.weight(0, 0), 3);
    Due.is("weight(0, 1)", x.weight(0, 1), 0);
    Due.is("weight(3, 0)", x.weight(3, 0), NONE);
    Due.is("weight(0, 2)", x.weight(0, 2), NONE);
    Due.is("weight(-1, 0)", x.weight(-1, 0), NONE);
    Due.is("weight(0, -1)", x.weight(0, -1), NONE);
    Due.is("wants(0, 1)", x.wants(0, 1), -1);
    Due.is("wants(1, 0)", x.wants(1, 0), 0);
    x.mood(1, 0);
    Due.is("wants(1, 0) with a mood", x.wants(1, 0), 0);
    Due.is("wants(2, 0)", x.wants(2, 0), GAP);
    Due.is("wants(0, 2)", x.wants(0, 2), GAP);
    Due.is("wants(-1, 0)", x.wants(-1, 0), GAP);
    Due.is("wants(0, -1)", x.wants(0, -1), GAP);
  }

  private static void reader() {
    WantShelves x = Due.told(TWO);
    Due.is("odds", x.reader(0, 0), 50);
    Due.is("no mood", x.reader(0, 1), NONE);
    Due.is("not in", x.reader(0, 2), 0);
    x.mood(0, 1);
    x.comes(0);
    x.read(0, 0);
    x.read(0, 0);
    x.read(0, 2);
    x.read(1, 2);
    Due.is("mood", x.reader(0, 1), 1);
    Due.is("in", x.reader(0, 2), 1);
    Due.is("how often he read", x.reader(0, 3), 3);
    Due.is("what 4", x.reader(0, 4), -2);
    Due.is("what -1", x.reader(0, -1), -2);
    Due.is("reader(2, 0)", x.reader(2, 0), -2);
    Due.is("reader(-1, 0)", x.reader(-1, 0), -2);
  }

  private static void key() {
    WantShelves x = Due.told(TWO);
    int[][] due = {{6, -2, 1}, {0, 6, 3}};
    for (int r = 0; r < 2; r++) for (int b = 0; b < 3; b++) Due.is("key " + r + " " + b, x.key(r, b), due[r][b]);
    x.mood(0, 1);
    Due.is("key(0, 1) with a mood", x.key(0, 1), 6);
    Due.is("key(0, 0) with a mood", x.key(0, 0), 6);
    x.out(1);
    Due.is("key(0, 1) of one that is out", x.key(0, 1), 6);
    Due.is("key(2, 0)", x.key(2, 0), GAP);
    Due.is("key(0, 3)", x.key(0, 3), GAP);
    Due.is("key(-1, 0)", x.key(-1, 0), GAP);
    Due.is("key(0, -1)", x.key(0, -1), GAP);
    WantShelves y = Due.told(PEOPLE + "law ought*100+reads*10+number+old+weight;");
    y.read(1, 2);
    y.mood(1, 0);
    Due.is("ought, reads, number", y.key(1, 2), 112);
    Due.is("ought of a", y.key(1, 0), 300);
    Due.is("no ought", y.key(0, 2), 2);
  }

  private static void keyArithmetic() {
    String[] laws = {"7/2", "(0-7)/2", "7%4", "(0-7)%4", "7/0", "7%0", "2+3*4", "(2+3)*4", "9-4-3", "24/4/2", "1<2",
      "2<1", "2>1", "2=2", "not 5", "not 0", "not not 5", "3 and 4", "3 and 0", "0 or 6", "0 or 0", "5", "not 1=2",
      "1 or 0 and 0", "not 0 and 0", "9999*9999*9999", "2-3<0-1+1", "1+2=3 and 4>3 or 0", "(2>1)+(1>2)+(3=3)",
      "9999*9999*50/(0-1)", "7-(2-1)", "2*7%4", "(1 or 0)*5"};
    int[] due = {3, -3, 3, -3, 0, 0, 14, 20, 2, 3, 1, 0, 1, 1, 0, 1, 1, 1, 0, 1, 0, 5, 1,
      1, 0, 9999 * 9999 * 9999, 1, 1, 2, -(9999 * 9999 * 50), 6, 2, 5};
    for (int i = 0; i < laws.length; i++) {
      WantShelves x = Due.told("book a;reader p odds 0;law " + laws[i] + ";");
      Due.is("law " + laws[i], x.key(0, 0), due[i]);
    }
    // The least int there is, by -1: it wraps to itself, and its rest is 0.
    String leastInt = "(0-8192*8192*32)";
    Due.is("the least int", Due.told("book a;reader p odds 0;law " + leastInt + ";").key(0, 0), Integer.MIN_VALUE);
    Due.is("/ wraps", Due.told("book a;reader p odds 0;law " + leastInt + "/(0-1);").key(0, 0), Integer.MIN_VALUE);
    Due.is("% of it", Due.told("book a;reader p odds 0;law " + leastInt + "%(0-1);").key(0, 0), 0);
  }

  private static void placeAndBook() {
    WantShelves x = Due.told(TWO);
    int[][] orders = {{0, 1, 2}, {0, 2, 1}, {1, 2, 0}, {0, 1, 2}};
    for (int party = 0; party < 4; party++) {
      for (int place = 0; place < 3; place++) {
        Due.is("book(" + party + ", " + place + ")", x.book(party, place), orders[party][place]);
        Due.is("place(" + party + ", ..)", x.place(party, orders[party][place]), place);
      }
    }
    Due.is("place(4, 0)", x.place(4, 0), NONE);
    Due.is("place(-1, 0)", x.place(-1, 0), NONE);
    Due.is("place(1, 3)", x.place(1, 3), NONE);
    Due.is("place(1, -1)", x.place(1, -1), NONE);
    Due.is("book(4, 0)", x.book(4, 0), NONE);
    Due.is("book(-1, 0)", x.book(-1, 0), NONE);
    Due.is("book(1, 3)", x.book(1, 3), NONE);
    Due.is("book(1, -1)", x.book(1, -1), NONE);
    x.out(0);
    Due.is("place(1, 0), out", x.place(1, 0), NONE);
    Due.is("place(1, 2), another out", x.place(1, 2), 0);
    Due.is("book(0, 0), out", x.book(0, 0), 1);
    Due.is("book(1, 2), out", x.book(1, 2), NONE);
  }

  private static void quarrels() {
    String[] words = {"sum", "least", "most", "turns"};
    // KEYS of p: 5 4 3 0, of q: 0 3 3 9, of r: 0 0 0 1. Sums 5 7 6 10, least 0 0 0 0, most 5 4 3 9.
    int[][] due = {{3, 1, 2, 0}, {0, 1, 2, 3}, {3, 0, 1, 2}, {0, 3, 1, 2}};
    for (int i = 0; i < 4; i++) {
      WantShelves x = Due.told("topic x;topic y;topic z;book a x 5;book b x 4 y 3;book c x 3 y 3;book d y 9 z 1;"
          + "reader p odds 1 wants x 1;reader q odds 1 wants y 1;reader r odds 1 wants z 1;quarrel " + words[i] + ";");
      Due.is("about(14) of " + words[i], x.about(14), i);
      for (int place = 0; place < 4; place++) {
        Due.is(words[i] + " " + place, x.book(7, place), due[i][place]);
      }
    }
    // p and q by least: 0 3 3 0; by turns p lays a, q lays d, p lays b.
    WantShelves x = Due.told("topic x;topic y;book a x 5;book b x 4 y 3;book c x 3 y 3;book d y 9;"
        + "reader p odds 1 wants x 1;reader q odds 1 wants y 1;quarrel least;");
    int[] least = {1, 2, 0, 3};
    for (int place = 0; place < 4; place++) Due.is("least of two, " + place, x.book(3, place), least[place]);
    // KEYS of a are 899,820,009 each, which does not wrap together; 1,999,600,020 each do, to below 0.
    String two = "book a;book b;reader p odds 1;reader q odds 1;law (1-number)*9999*9999*";
    Due.is("sums that do not wrap", Due.told(two + "9;").book(3, 0), 0);
    Due.is("wrapping sums", Due.told(two + "20;").book(3, 0), 1);
  }

  private static void steps() {
    WantShelves x = Due.told(TWO);
    int[] due = {1, 2, 5};
    for (int b = 0; b < 3; b++) Due.is("steps of nobody, " + b, x.steps(b), due[b]);
    x.comes(1);
    Due.is("steps(0) with q", x.steps(0), 5);
    Due.is("steps(1) with q", x.steps(1), 1);
    Due.is("steps(3)", x.steps(3), NONE);
    Due.is("steps(-1)", x.steps(-1), NONE);
    x.out(1);
    Due.is("steps(1), out", x.steps(1), NONE);
    Due.is("steps(0), another out", x.steps(0), 2);
    StringBuilder many = new StringBuilder();
    for (char c = 'a'; c <= 'j'; c++) many.append("book ").append(c).append(';');
    WantShelves five = Due.told(many.toString());
    WantShelves one = Due.told(many + "shelf 1;");
    for (int b = 0; b < 10; b++) {
      Due.is("shelf 5 (not told): steps(" + b + ")", five.steps(b), b < 5 ? b + 1 : b + 3);
      Due.is("shelf 1: steps(" + b + ")", one.steps(b), 3 * b + 1);
    }
  }

  private static void comes() {
    WantShelves x = Due.told(TWO);
    Due.is("comes(1)", x.comes(1), 1);
    Due.is("comes(0)", x.comes(0), 1);
    Due.is("who is in", x.about(3), 3);
    Due.is("comes(1) again", x.comes(1), 0);
    Due.is("who is in then", x.about(3), 1);
    Due.is("comes(2)", x.comes(2), NONE);
    Due.is("comes(-1)", x.comes(-1), NONE);
    Due.is("acts", x.about(6), 3);
  }

  private static void mood() {
    WantShelves x = Due.told(TWO);
    Due.is("mood(0, 1)", x.mood(0, 1), NONE);
    Due.is("mood(0, 0)", x.mood(0, 0), 1);
    Due.is("mood(0, 0) again", x.mood(0, 0), 0);
    Due.is("mood(0, NONE)", x.mood(0, NONE), 0);
    Due.is("acts", x.about(6), 4);
    Due.is("mood(0, 2)", x.mood(0, 2), -2);
    Due.is("mood(0, -2)", x.mood(0, -2), -2);
    Due.is("mood(2, 0)", x.mood(2, 0), -2);
    Due.is("mood(-1, 0)", x.mood(-1, 0), -2);
    Due.is("acts then", x.about(6), 4);
    x.undo();
    Due.is("the mood behind undo", x.reader(0, 1), 0);
    WantShelves y = Due.told("topic x;book a;book b x 2;reader p odds 0;");
    y.mood(0, 0);
    Due.is("mood 3 (not told)", y.key(0, 1), 6);
    WantShelves z = Due.told("topic x;book b x 9;reader p odds 0 wants x 9;mood 9;");
    z.mood(0, 0);
    Due.is("a mood goes above 9", z.key(0, 0), 162);
  }

  private static void out() {
    WantShelves x = Due.told(TWO);
    Due.is("out(2)", x.out(2), 1);
    Due.is("out(0)", x.out(0), 1);
    Due.is("what is out", x.about(4), 5);
    Due.is("out(2) again", x.out(2), 0);
    Due.is("what is out then", x.about(4), 1);
    Due.is("out(3)", x.out(3), NONE);
    Due.is("out(-1)", x.out(-1), NONE);
    Due.is("acts", x.about(6), 3);
    x.undo();
    Due.is("out behind undo", x.about(4), 5);
  }

  private static void read() {
    WantShelves x = Due.told(TWO);
    x.out(1);
    Due.is("read(0, 1), out", x.read(0, 1), 1);
    Due.is("x is bent to", x.wants(0, 0), 1);
    Due.is("y is bent to", x.wants(0, 1), 0);
    Due.is("another's is not", x.wants(1, 1), 3);
    for (int i = 2; i <= 99; i++) Due.is("read " + i, x.read(0, 1), i);
    Due.is("read 100", x.read(0, 1), NONE);
    Due.is("acts then", x.about(6), 40);
    Due.is("-9 at least", x.wants(0, 0), -9);
    Due.is("9 at most", x.wants(0, 1), 9);
    Due.is("another book", x.read(0, 0), 1);
    Due.is("another reader", x.read(1, 1), 1);
    Due.is("how often there was reading", x.about(5), 101);
    Due.is("read(2, 0)", x.read(2, 0), NONE);
    Due.is("read(0, 3)", x.read(0, 3), NONE);
    Due.is("read(-1, 0)", x.read(-1, 0), NONE);
    Due.is("read(0, -1)", x.read(0, -1), NONE);
    WantShelves y = Due.told(PEOPLE);
    y.read(0, 0);
    Due.is("without bend", y.wants(0, 0), 2);
    WantShelves z = Due.told(PEOPLE + "bend reads*3+want+ought+number;");
    z.read(0, 2);
    Due.is("reads goes up first, others are 0", z.wants(0, 1), 3);
    z.read(0, 2);
    Due.is("then", z.wants(0, 1), 6);
  }

  private static void undoAndRedo() {
    WantShelves x = Due.told(TWO);
    x.comes(0);
    x.mood(0, 1);
    x.out(2);
    x.read(0, 0);
    for (int i = 0; i < 4; i++) Due.is("undo " + i, x.undo(), true);
    Due.is("undo 4", x.undo(), false);
    Due.is("undone acts", x.about(7), 4);
    Due.is("in", x.about(3), 0);
    Due.is("mood", x.reader(0, 1), NONE);
    Due.is("out", x.about(4), 0);
    Due.is("read", x.about(5), 0);
    Due.is("wants", x.wants(0, 0), 2);
    for (int i = 0; i < 4; i++) Due.is("redo " + i, x.redo(), true);
    Due.is("redo 4", x.redo(), false);
    Due.is("in again", x.about(3), 1);
    Due.is("mood again", x.reader(0, 1), 1);
    Due.is("out again", x.about(4), 4);
    Due.is("read again", x.about(5), 1);
    Due.is("wants again", x.wants(0, 0), 4);
    x.undo();
    x.undo();
    x.comes(1);
    Due.is("redo behind another act", x.redo(), false);
    Due.is("acts then", x.about(6), 3);
    x.undo();
    x.comes(9);
    Due.is("what does nothing is no act", x.redo(), true);
  }

  private static void fortyActs() {
    WantShelves x = Due.told(TWO);
    x.comes(1);
    for (int i = 0; i < 40; i++) x.out(i % 3);
    Due.is("forty are kept", x.about(6), 40);
    for (int i = 0; i < 40; i++) Due.is("undo " + i, x.undo(), true);
    Due.is("undo 40", x.undo(), false);
    Due.is("the oldest went", x.about(3), 2);
    Due.is("forty to redo", x.about(7), 40);
    for (int i = 0; i < 40; i++) Due.is("redo " + i, x.redo(), true);
    // 40 = 13 * 3 + 1: BOOK 0 was turned 14 times, the others 13 times.
    Due.is("all are done again", x.about(4), 6);
  }

  private static void unlike() {
    WantShelves x = Due.told(TWO);
    Due.is("unlike(0, 1)", x.unlike(0, 1), 3);
    Due.lies("unlike(0, 1)", x, 0, 1);
    x.out(0);
    Due.is("unlike(1, 0), out", x.unlike(1, 0), 1);
    Due.lies("unlike(1, 0), out", x, 1, 2);
    Due.is("unlike(0, 0)", x.unlike(0, 0), 0);
    Due.lies("unlike(0, 0)", x);
    x.unlike(0, 1);
    Due.is("unlike(0, 2)", x.unlike(0, 2), NONE);
    Due.lies("unlike(0, 2)", x);
    Due.is("unlike(-1, 0)", x.unlike(-1, 0), NONE);
  }

  private static void send() {
    WantShelves x = Due.told(TWO);
    int[][] due = {{1, 1}, {1, 2}, {2, 1}};
    for (int b = 0; b < 3; b++) {
      Due.is("send(" + b + ", 0)", x.send(b, 0), due[b][0]);
      Due.is("send(" + b + ", 1)", x.send(b, 1), due[b][1]);
    }
    Due.is("send(0, 2)", x.send(0, 2), NONE);
    Due.is("send(0, -1)", x.send(0, -1), NONE);
    Due.is("send(3, 0)", x.send(3, 0), NONE);
    Due.is("send(-1, 0)", x.send(-1, 0), NONE);
    x.out(0);
    Due.is("send(0, 0), out", x.send(0, 0), NONE);
    Due.is("send without readers", Due.told("book a;").send(0, 0), NONE);
    // Alone each has c behind his own book; together c is first (KEYS 9 9 12).
    WantShelves y = Due.told("topic x;topic y;book a x 9;book b y 9;book c x 6 y 6;"
        + "reader p odds 1 wants x 1;reader q odds 1 wants y 1;reader r odds 1 wants y 1;");
    Due.is("a party of two: steps", y.send(2, 0), 1);
    Due.is("a party of two: who", y.send(2, 1), 3);
    Due.is("fewest readers: who", y.send(1, 1), 2);
  }

  private static void think() {
    WantShelves x = Due.told(TWO);
    Due.is("think(0, 1, 0)", x.think(0, 1, 0), 2);
    Due.is("think(0, 1, 1)", x.think(0, 1, 1), 1);
    Due.is("think(0, 0, 0)", x.think(0, 0, 0), 1);
    Due.is("none first", x.think(0, 0, 1), NONE);
    x.mood(0, 1);
    Due.is("his own mood is left aside", x.think(0, 0, 1), NONE);
    Due.is("and stays", x.reader(0, 1), 1);
    Due.is("think(0, 0, 2)", x.think(0, 0, 2), -2);
    Due.is("think(0, 0, -1)", x.think(0, 0, -1), -2);
    Due.is("think(2, 0, 0)", x.think(2, 0, 0), -2);
    Due.is("think(0, 3, 0)", x.think(0, 3, 0), -2);
    x.out(1);
    Due.is("think(0, 1, 0), out", x.think(0, 1, 0), -2);
  }

  private static void errand() {
    WantShelves x = Due.told(TWO);
    int[][] due = {{0, 0, 0}, {2, 2, 2}, {2, 2, 2}, {4, 4, 4}, {4, 4, 4}, {4, 4, 4}, {4, 4, 4}, {10, 6, 6}};
    for (int set = 0; set < 8; set++) {
      for (int k = 1; k <= 3; k++) Due.is("errand(" + set + ", " + k + ")", x.errand(set, k), due[set][k - 1]);
    }
    Due.is("errand(8, 1)", x.errand(8, 1), NONE);
    Due.is("errand(-1, 1)", x.errand(-1, 1), NONE);
    Due.is("errand(1, 0)", x.errand(1, 0), NONE);
    Due.is("errand(1, 4)", x.errand(1, 4), NONE);
    x.out(0);
    Due.is("errand(1, 1), out", x.errand(1, 1), NONE);
    Due.is("errand(2, 1), another out", x.errand(2, 1), 2);
    Due.is("errand without readers", Due.told("book a;").errand(0, 1), NONE);
    // Each of three readers has one of the last three books at place 0.
    WantShelves y = Due.told("topic x;topic y;topic z;book n;book o;book a x 1;book b y 1;book c z 1;"
        + "reader p odds 1 wants x 1;reader q odds 1 wants y 1;reader r odds 1 wants z 1;shelf 1;");
    // Places 0 to 2 take 1, 4, 7 STEPS; a party of two has its two books at places 0 and 1.
    Due.is("three books, one visit", y.errand(28, 1), 14);
    Due.is("three books, two visits", y.errand(28, 2), 10);
    Due.is("three books, three visits", y.errand(28, 3), 6);
  }

  private static void leads() {
    WantShelves x = Due.told("topic x;book a x 1;book b x 2;book c;reader q odds 0 wants x -1;law want*2-reads;");
    // KEYS -2 -4 0; then c has -1, then -2 as a has: a is ahead by number; and so on till all have -4.
    int[] due = {2, 2, 0, 2, 0, 2, 0, 1, 2, 0};
    for (int n = 1; n <= due.length; n++) Due.is("leads(0, " + n + ")", x.leads(0, n), due[n - 1]);
    Due.is("nothing is done", x.about(5), 0);
    Due.is("no act", x.about(6), 0);
    Due.is("leads(0, 0)", x.leads(0, 0), NONE);
    Due.is("leads(0, 61)", x.leads(0, 61), NONE);
    Due.is("leads(1, 1)", x.leads(1, 1), NONE);
    Due.is("leads(-1, 1)", x.leads(-1, 1), NONE);
    x.out(2);
    Due.is("leads(0, 1), out", x.leads(0, 1), 0);
    x.out(0);
    x.out(1);
    Due.is("all out", x.leads(0, 1), NONE);
    WantShelves y = Due.told("topic x;book a x 1;book b;reader p odds 0 wants x 3;bend old-weight;");
    // Reading a bends x from 3 to 0, 0 is a tie that a wins, then -1: b from then on.
    int[] bent = {0, 0, 0, 0, 1, 1};
    for (int n = 1; n <= bent.length; n++) Due.is("bent leads(0, " + n + ")", y.leads(0, n), bent[n - 1]);
    Due.is("leads(0, 60)", y.leads(0, 60), 1);
    y.mood(0, 0);
    Due.is("with a mood 3", y.leads(0, 7), 0);
    Due.is("with a mood 3, then", y.leads(0, 8), 1);
  }

  private static void hide() {
    WantShelves x = Due.told(TWO);
    Due.is("hide(0, 1, 0, 1)", x.hide(0, 1, 0, 1), 4);
    Due.lies("hide(0, 1, 0, 1)", x, -1, -1);
    Due.is("hide(0, 2, 0, 1)", x.hide(0, 2, 0, 1), NONE);
    Due.lies("hide(0, 2, 0, 1)", x);
    Due.is("hide(0, 2, 9, 1)", x.hide(0, 2, 9, 1) > 0, true);
    Due.is("hide(0, 0, 10, 1)", x.hide(0, 0, 10, 1), NONE);
    Due.is("hide(0, 0, -1, 1)", x.hide(0, 0, -1, 1), NONE);
    Due.is("hide(0, 0, 0, 0)", x.hide(0, 0, 0, 0), NONE);
    Due.is("hide(0, 0, 0, 3)", x.hide(0, 0, 0, 3), NONE);
    Due.is("hide(2, 0, 0, 1)", x.hide(2, 0, 0, 1), NONE);
    Due.is("hide(0, 3, 0, 1)", x.hide(0, 3, 0, 1), NONE);
    x.out(1);
    Due.is("hide(0, 1, 0, 1), out", x.hide(0, 1, 0, 1), NONE);
    // One topic, a x 1 and b x 0: a is ahead for 0 .. m, b for -m .. -1; the mood does not count.
    WantShelves y = Due.told("topic x;book a x 1;book b;reader p odds 0;mood 9;");
    y.mood(0, 0);
    Due.is("a first, m 1", y.hide(0, 0, 0, 1), 2);
    Due.lies("a first, m 1", y, 0);
    Due.is("a first, m 2", y.hide(0, 0, 0, 2), 3);
    Due.is("b first, m 2", y.hide(0, 1, 0, 2), 2);
    Due.lies("b first, m 2", y, -2);
    Due.is("b at 0 or 1, m 2", y.hide(0, 1, 1, 2), 3);
    Due.lies("b at 0 or 1, m 2", y, 0);
    WantShelves z = Due.told("book a;book b;reader p odds 0;");
    Due.is("without topics", z.hide(0, 0, 0, 1), 1);
    Due.lies("without topics", z);
  }

  private static void pretend() {
    WantShelves x = Due.told(TWO);
    Due.is("pretend(0, 1, 1)", x.pretend(0, 1, 1), 0);
    Due.lies("pretend(0, 1, 1)", x);
    Due.is("pretend(1, 0, 2)", x.pretend(1, 0, 2), 1);
    Due.lies("pretend(1, 0, 2)", x, -2, 2);
    Due.is("nothing is done", x.wants(1, 1), 3);
    Due.is("pretend(0, 0, 1)", x.pretend(0, 0, 1), NONE);
    Due.lies("pretend(0, 0, 1)", x);
    Due.is("pretend(0, 2, 1)", x.pretend(0, 2, 1), NONE);
    Due.is("pretend(-1, 0, 1)", x.pretend(-1, 0, 1), NONE);
    Due.is("pretend(0, 1, 0)", x.pretend(0, 1, 0), NONE);
    Due.is("pretend(0, 1, 3)", x.pretend(0, 1, 3), NONE);
    for (int b = 0; b < 3; b++) x.out(b);
    Due.is("all out", x.pretend(0, 1, 1), NONE);
    // p's BOOK is b; with q KEYS are 3 + 3y and 2x together, so the first ROW by which b is ahead is 1, -1.
    WantShelves y = Due.told("topic x;topic y;book a y 3;book b x 2;reader p odds 0 wants x 1;"
        + "reader q odds 0 wants y 1;shelf 1;");
    Due.is("shelf 1, m 1", y.pretend(0, 1, 1), 3);
    Due.lies("shelf 1, m 1", y, 1, -1);
  }

  private static void rest() {
    WantShelves x = Due.told(TWO);
    Due.is("rest(0, 1, 1)", x.rest(0, 1, 1), 1);
    Due.lies("rest(0, 1, 1)", x, 2, -1, 0, 3);
    Due.is("rest(0, 1, 2)", x.rest(0, 1, 2), 3);
    Due.lies("rest(0, 1, 2)", x, 2, -2, -2, 2);
    Due.is("rest(0, 0, 1)", x.rest(0, 0, 1), -2);
    Due.lies("rest(0, 0, 1)", x);
    Due.is("rest(0, 2, 1)", x.rest(0, 2, 1), -2);
    Due.is("rest(-1, 0, 1)", x.rest(-1, 0, 1), -2);
    Due.is("rest(0, 1, 0)", x.rest(0, 1, 0), -2);
    Due.is("rest(0, 1, 3)", x.rest(0, 1, 3), -2);
    x.mood(1, 1);
    Due.is("a mood is kept while as he was", x.rest(0, 1, 1) > 0, true);
    Due.is("what he wants, without it", x.lies(3), 3);
    for (int b = 0; b < 3; b++) x.out(b);
    Due.is("all out", x.rest(0, 1, 1), -2);
  }

  private static void leftAndWas() {
    WantShelves x = Due.told(TWO);
    Due.is("nothing is left", x.was(0), 4);
    Due.is("in all", x.was(1), 0);
    Due.is("in some", x.was(2), 3);
    Due.is("left(1)", x.left(1), 1);
    Due.is("q alone: how many", x.was(0), 1);
    Due.is("q alone: all", x.was(1), 2);
    Due.is("q alone: some", x.was(2), 2);
    Due.is("left(1) again", x.left(1), NONE);
    Due.is("left(3)", x.left(3), NONE);
    Due.is("left(-1)", x.left(-1), NONE);
    Due.is("left(0)", x.left(0), 2);
    Due.is("nobody leaves it so", x.was(0), 0);
    Due.is("nobody leaves it so: all", x.was(1), 0);
    Due.is("nobody leaves it so: some", x.was(2), 0);
    Due.is("was(3)", x.was(3), NONE);
    Due.is("was(-1)", x.was(-1), NONE);
    Due.is("how many are left", x.about(9), 2);
    Due.is("hush()", x.hush(), 2);
    Due.is("hush() again", x.hush(), 0);
    x.left(0);
    x.out(0);
    Due.is("one that went out stands nowhere", x.was(0), 0);
    Due.is("left(0), out", x.left(0), NONE);
    x.hush();
    Due.is("left(0), out, behind hush()", x.left(0), NONE);
    x.left(1);
    x.left(2);
    Due.is("all that are there", x.was(0), 3);
    Due.is("in all of them", x.was(1), 0);
    Due.is("in some of them", x.was(2), 3);
  }

  private static void one() {
    WantShelves x = Due.told(TWO);
    Due.is("one()", x.one(), 50 + 20 * 2);
    Due.lies("one()", x, 0, 1, 2);
    x.out(0);
    // The first of p is c then, that of q is b: 50 + 20 * 2.
    Due.is("one(), out", x.one(), 90);
    Due.lies("one(), out", x, 2, 1);
    x.out(1);
    x.out(2);
    Due.is("one(), all out", x.one(), 0);
    Due.lies("one(), all out", x);
    WantShelves y = Due.told("topic x;book a;book b;book c x 1;book d;reader p odds 0 wants x 1;reader q odds 3;");
    Due.is("odds 0 do not walk", y.one(), 3);
    Due.lies("odds 0 do not walk", y, 0, 1, 2, 3);
    WantShelves z = Due.told("book a;book b;");
    Due.is("without readers", z.one(), 0);
    Due.lies("without readers", z, 0, 1);
  }

  private static void crowd() {
    WantShelves x = Due.told(TWO);
    // BOOK 1 stands at place 1 for nobody (40 of 100), 2 for p (40), 0 for q (10), 1 for both (10).
    long[][] due = {{0, 0, 1}, {1, 1, 10}, {2, 3, 5}, {4, 3, 5}, {5, 1, 1}, {Integer.MAX_VALUE, 1, 1},
      {Integer.MIN_VALUE, 0, 1}};
    for (long[] row : due) {
      Due.is("crowd(1, " + row[0] + ", 0)", x.crowd(1, (int) row[0], 0), row[1]);
      Due.is("crowd(1, " + row[0] + ", 1)", x.crowd(1, (int) row[0], 1), row[2]);
    }
    Due.is("crowd(1, 1, 2)", x.crowd(1, 1, 2), NONE);
    Due.is("crowd(1, 1, -1)", x.crowd(1, 1, -1), NONE);
    Due.is("crowd(3, 1, 0)", x.crowd(3, 1, 0), NONE);
    Due.is("crowd(-1, 1, 0)", x.crowd(-1, 1, 0), NONE);
    x.out(1);
    Due.is("crowd(1, 1, 0), out", x.crowd(1, 1, 0), NONE);
    StringBuilder six = new StringBuilder("topic x;book a;book b x 1;");
    for (char c = 'a'; c <= 'f'; c++) six.append("reader ").append(c).append(" odds 1 wants x 1;");
    WantShelves y = Due.told(six.toString());
    // a is first for nobody alone: 99^6 of 100^6.
    Due.is("six readers, the upper part", y.crowd(0, 1, 0), 99L * 99 * 99 * 99 * 99 * 99);
    Due.is("six readers, the lower part", y.crowd(0, 1, 1), 1000000000000L);
    WantShelves z = Due.told("book a;book b;");
    Due.is("without readers", z.crowd(1, 2, 0), 1);
    Due.is("without readers, too few", z.crowd(1, 1, 1), 1);
  }

  private static void lies() {
    WantShelves x = Due.told(TWO);
    Due.is("nothing lies there", x.lies(0), GAP);
    x.one();
    Due.is("lies(2)", x.lies(2), 2);
    Due.is("lies(3)", x.lies(3), GAP);
    Due.is("lies(-1)", x.lies(-1), GAP);
    x.send(0, 0);
    x.leads(0, 1);
    x.fit(0, 1, 0);
    x.undo();
    Due.is("what else is asked leaves it", x.about(13), 3);
  }

  private static void looks() {
    WantShelves x = Due.told(TWO);
    Due.is("look(1, 0, 1)", x.look(1, 0, 1), 0);
    Due.is("look(1, 0, 1) again", x.look(1, 0, 1), 1);
    Due.is("look(1, 1, 1)", x.look(1, 1, 1), NONE);
    Due.is("look(2, 0, 1)", x.look(2, 0, 1), NONE);
    Due.is("look(0, 3, 1)", x.look(0, 3, 1), NONE);
    Due.is("look(0, 0, -1)", x.look(0, 0, -1), NONE);
    x.out(2);
    Due.is("look(0, 2, 1), out", x.look(0, 2, 1), 2);
    Due.is("untell(3)", x.untell(3), false);
    Due.is("untell(-1)", x.untell(-1), false);
    Due.is("untell(1)", x.untell(1), true);
    Due.is("untell(1) again", x.untell(1), false);
    Due.is("looks", x.about(8), 3);
    for (int i = 3; i < 30; i++) Due.is("look " + i, x.look(0, 0, 1), i);
    Due.is("look 30", x.look(0, 0, 1), NONE);
    Due.is("looks then", x.about(8), 30);
    Due.is("later(0)", x.later(0), 0);
    Due.is("later(1000)", x.later(1000), 1000);
    Due.is("later(1001)", x.later(1001), NONE);
    Due.is("later(-1)", x.later(-1), NONE);
    for (int i = 2; i <= 100; i++) Due.is("later(1000), " + i, x.later(1000), 1000 * i);
    Due.is("later(1) at the last", x.later(1), NONE);
    Due.is("later(0) at the last", x.later(0), 100000);
  }

  private static void fit() {
    WantShelves x = Due.told("topic x;book a x 1;book b;reader p odds 0;reader q odds 0;");
    Due.is("all rows, m 1", x.fit(0, 1, 0), 3);
    Due.is("all rows, m 2", x.fit(0, 2, 0), 5);
    x.later(5);
    x.look(0, 1, 0);
    Due.is("known at 4", x.fit(0, 2, 4), 5);
    Due.is("known at 5", x.fit(0, 2, 5), 2);
    Due.is("known at 9", x.fit(0, 2, 9), 2);
    Due.is("known at -1", x.fit(0, 2, -1), 5);
    Due.is("another's look", x.fit(1, 2, 5), 5);
    x.later(1);
    x.look(0, 0, 1);
    Due.is("no row fits both", x.fit(0, 2, 6), 0);
    x.untell(1);
    Due.is("untold at the same time", x.fit(0, 2, 6), 2);
    x.later(1);
    x.untell(0);
    Due.is("before it was untold", x.fit(0, 2, 6), 2);
    Due.is("when it was untold", x.fit(0, 2, 7), 5);
    x.out(0);
    x.mood(0, 0);
    Due.is("out or not, without moods", x.fit(0, 2, 6), 2);
    Due.is("fit(2, 1, 0)", x.fit(2, 1, 0), NONE);
    Due.is("fit(-1, 1, 0)", x.fit(-1, 1, 0), NONE);
    Due.is("fit(0, 0, 0)", x.fit(0, 0, 0), NONE);
    Due.is("fit(0, 3, 0)", x.fit(0, 3, 0), NONE);
    WantShelves y = Due.told("topic x;book a x 1;book b;reader p odds 0;law want-reads;");
    y.look(0, 0, 1);
    Due.is("a tie by number", y.fit(0, 1, 0), 2);
    y.read(0, 0);
    Due.is("reads as they are", y.fit(0, 1, 0), 1);
  }

  private static void sureAndAsk() {
    WantShelves x = Due.told("topic x;topic y;book a x 1;book b y 1;book c;reader p odds 0;");
    Due.is("the least", x.sure(0, 0, false, 2, 0), -2);
    Due.is("the most", x.sure(0, 0, true, 2, 0), 2);
    Due.is("ask(0, 1, 0, 0)", x.ask(0, 1, 0, 0), 1);
    // a is ahead of b for 6 of 9, of c for 6 of 9, b of c for 6 of 9.
    Due.is("ask(0, 1, 1, 0)", x.ask(0, 1, 1, 0), 6);
    x.look(0, 2, 0);
    Due.is("the most of x", x.sure(0, 0, true, 1, 0), -1);
    Due.is("the most of y", x.sure(0, 1, true, 1, 0), 1);
    // x is -1, y is -1, 0, 1: b is ahead of c for two of three, a of b for one.
    Due.is("ask then", x.ask(0, 1, 0, 0), 1);
    Due.is("how many are left then", x.ask(0, 1, 1, 0), 2);
    x.look(0, 0, 1);
    Due.is("ask when sure", x.ask(0, 1, 1, 0), 1);
    x.look(0, 0, 2);
    Due.is("no row: sure", x.sure(0, 0, false, 1, 0), GAP);
    Due.is("no row: most", x.sure(0, 0, true, 1, 0), GAP);
    Due.is("no row: ask", x.ask(0, 1, 0, 0), NONE);
    Due.is("sure(1, ..)", x.sure(1, 0, true, 1, -1), GAP);
    Due.is("sure(0, 2, ..)", x.sure(0, 2, true, 1, -1), GAP);
    Due.is("sure(.., m 0)", x.sure(0, 0, true, 0, -1), GAP);
    Due.is("sure(.., m 3)", x.sure(0, 0, true, 3, -1), GAP);
    Due.is("ask(1, ..)", x.ask(1, 1, 0, -1), NONE);
    Due.is("ask(.., m 3)", x.ask(0, 3, 0, -1), NONE);
    Due.is("ask(.., what 2)", x.ask(0, 1, 2, -1), NONE);
    Due.is("ask(.., what -1)", x.ask(0, 1, -1, -1), NONE);
    Due.is("one book", Due.told("book a;reader p odds 0;").ask(0, 1, 0, 0), NONE);
    // a and b stand alike for each row, c divides them.
    WantShelves y = Due.told("topic x;book a x 1;book b x 1;book c;reader p odds 0;");
    Due.is("the two that divide best", y.ask(0, 2, 0, 0), 2);
    Due.is("how many are left", y.ask(0, 2, 1, 0), 3);
    y.out(2);
    Due.is("out or not", y.ask(0, 2, 0, 0), 2);
  }

  private static void images() {
    WantShelves x = Due.told(TWO);
    Due.is("back(0), nothing kept", x.back(0), NONE);
    x.comes(1);
    x.mood(0, 1);
    x.out(2);
    x.read(0, 0);
    Due.is("image(2)", x.image(2), 1);
    Due.is("acts stay", x.about(6), 4);
    x.comes(0);
    x.mood(0, 0);
    x.out(1);
    x.read(0, 1);
    x.read(1, 1);
    x.left(0);
    x.look(0, 0, 1);
    x.undo();
    Due.is("back(1)", x.back(1), NONE);
    Due.is("doing nothing", x.about(5), 2);
    Due.is("back(2)", x.back(2), 1);
    int[] due = {2, 3, 2, 2, 4, 1, 0, 0, 1, 1};
    for (int what = 0; what < due.length; what++) Due.is("back(2): about(" + what + ")", x.about(what), due[what]);
    Due.is("its mood", x.reader(0, 1), 1);
    Due.is("its wants", x.wants(0, 0), 4);
    x.read(0, 0);
    Due.is("gone on from", x.wants(0, 0), 6);
    Due.is("back(2) again", x.back(2), 1);
    Due.is("its wants again", x.wants(0, 0), 4);
    Due.is("image(3)", x.image(3), NONE);
    Due.is("image(-1)", x.image(-1), NONE);
    Due.is("back(3)", x.back(3), NONE);
    Due.is("back(-1)", x.back(-1), NONE);
  }

  private static void about() {
    WantShelves x = Due.told(TWO + "law (want+1);quarrel most;");
    x.comes(1);
    x.out(0);
    x.read(0, 0);
    x.undo();
    x.look(0, 0, 1);
    x.left(1);
    x.later(3);
    x.one();
    x.feed(0, 0, 0, 0, 0);
    int[] due = {2, 3, 2, 2, 1, 0, 2, 1, 1, 1, 3, 20, 6, 2, 2};
    for (int what = 0; what < due.length; what++) Due.is("about(" + what + ")", x.about(what), due[what]);
    Due.is("about(15)", x.about(15), NONE);
    Due.is("about(-1)", x.about(-1), NONE);
  }
}
