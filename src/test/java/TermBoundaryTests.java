/** The sentences of the document's terms from KEYS to LOOKS, each at its boundary; answers are worked out by hand. */
public final class TermBoundaryTests {
  private static final int NONE = WantShelves.NONE;
  private static final int GAP = WantShelves.GAP;
  private static final int LEAST = Integer.MIN_VALUE;
  private static final int GREATEST = Integer.MAX_VALUE;
  // 8192 * 8192 * 32 is 2 to the 31st, which wraps to the least int.
  private static final String LEAST_INT = "(8192*8192*32)";

  public static void main(String[] args) {
    greatestWants();
    wordsInLaw();
    wordsInBend();
    wrappingInts();
    divisions();
    relations();
    greatestKeyFirst();
    likeKeysByNumber();
    allOut();
    partyOfNobody();
    partyOfOne();
    quarrelsWrapOrNot();
    turnsRoundAndRound();
    stepsByShelf();
    atFirst();
    bentWantsAreBounded();
    undoNone();
    redoTillAnotherAct();
    eachActAlone();
    oldestActsGo();
    actsOfAllSorts();
    unlikeTwos();
    sendNotNobody();
    sendLikeOnes();
    thinkNoneFirst();
    errandAtMost();
    errandOfTen();
    leadsOneToSixty();
    leadsBeyondReading();
    rowsFirstAndHowMany();
    hidePlaces();
    pretendNone();
    pretendLikeOnes();
    pretendIsOfWantsAlone();
    restTwentyTurns();
    restNeverRests();
    restAsHeWas();
    leftAndNobody();
    oneForAll();
    crowdWithin();
    crowdInLowestTerms();
    thirtyLooks();
    knownAtTimes();
    fitByNumberOutOrNot();
    sureAtTheEnds();
    askTwoBooks();
    Due.close();
  }

  private static int law(String law) { return Due.told("book a;reader p odds 0;law " + law + ";").key(0, 0); }

  private static void orders(String call, WantShelves x, int party, int... due) {
    for (int i = 0; i < due.length; i++) {
      Due.is(call + ": book(" + party + ", " + i + ")", x.book(party, i), due[i]);
      Due.is(call + ": place(" + party + ", " + due[i] + ")", x.place(party, due[i]), i);
    }
    Due.is(call + ": book behind the last", x.book(party, due.length), NONE);
  }

  // "want is what his wants (a MOOD for a TOPIC adds mood to that one), times its weights, are together, ought likewise".
  private static void greatestWants() {
    String topics = "topic s;topic t;topic u;topic v;book a s 9 t 9 u 9 v 9;";
    WantShelves x = Due.told(topics + "reader p odds 0 wants s 9 wants t 9 wants u 9 wants v 9;"
        + "reader q odds 0 wants s -9 wants t -9 wants u -9 wants v -9;mood 9;");
    Due.is("the most that can be wanted", x.key(0, 0), 324);
    Due.is("the least that can be wanted", x.key(1, 0), -324);
    x.mood(0, 3);
    x.mood(1, 3);
    Due.is("the most, with a mood", x.key(0, 0), 405);
    Due.is("the least, with a mood", x.key(1, 0), -243);
    Due.is("wants stay without it", x.wants(0, 3), 9);
    WantShelves y = Due.told(topics + "reader p odds 0 ought s 9 ought t 9 ought u 9 ought v 9;law ought;mood 9;");
    y.mood(0, 0);
    Due.is("the most that ought, no mood in it", y.key(0, 0), 324);
    Due.is("no topics", Due.told("book a;reader p odds 0;law want+ought;").key(0, 0), 0);
  }

  // "reads: how often he read it, number: the BOOK's", "old, weight are 0 in it".
  private static void wordsInLaw() {
    WantShelves x = Due.told("topic x;" + Samples.books(9) + "book j x 9;reader p odds 0 wants x 9;reader q odds 0;"
        + "law reads*1000+number*10+old+weight;");
    Due.is("the first number", x.key(0, 0), 0);
    Due.is("the last number", x.key(0, 9), 90);
    for (int i = 0; i < 99; i++) x.read(0, 9);
    Due.is("read 99 times", x.key(0, 9), 99090);
    Due.is("not by another one", x.key(1, 9), 90);
    Due.is("not another book", x.key(0, 8), 80);
  }

  // "bend (old, what it was, without; weight, the BOOK's of that TOPIC; reads; all others are 0)".
  private static void wordsInBend() {
    String people = "topic x;topic y;topic z;book c;book d;book a x 2 y 5;reader p odds 0 wants x 3 wants y 1 ought x 9;mood 9;";
    int[][] due = {{3, 1, 0}, {2, 5, 0}, {1, 1, 1}, {0, 0, 0}, {5, 6, 0}};
    String[] bends = {"old", "weight", "reads", "want+ought+number", "old+weight"};
    for (int i = 0; i < bends.length; i++) {
      WantShelves x = Due.told(people + "bend " + bends[i] + ";");
      x.mood(0, 0);
      x.read(0, 2);
      for (int t = 0; t < 3; t++) Due.is("bend " + bends[i] + ", topic " + t, x.wants(0, t), due[i][t]);
    }
  }

  // "ints, wrapping".
  private static void wrappingInts() {
    Due.is("the least int", law(LEAST_INT), LEAST);
    Due.is("one less wraps", law(LEAST_INT + "-1"), GREATEST);
    Due.is("one more wraps", law(LEAST_INT + "-1+1"), LEAST);
    Due.is("twice the least", law(LEAST_INT + "*2"), 0);
    Due.is("0 less the least", law("0-" + LEAST_INT), LEAST);
    Due.is("the greatest times itself", law("(" + LEAST_INT + "-1)*(" + LEAST_INT + "-1)"), 1);
    Due.is("five factors", law("9999*9999*9999*9999*9999"), 9999 * 9999 * 9999 * 9999 * 9999);
    Due.is("the last that does not wrap", law("9999*9999*21+9999*4809+6055"), 9999 * 9999 * 21 + 9999 * 4809 + 6055);
  }

  // "/ cut, % its rest, both by 0: 0".
  private static void divisions() {
    Object[][] rows = {{"7/2", 3}, {"(0-7)/2", -3}, {"7/(0-2)", -3}, {"(0-7)/(0-2)", 3}, {"1/2", 0}, {"(0-1)/2", 0},
      {"7%2", 1}, {"(0-7)%2", -1}, {"7%(0-2)", 1}, {"(0-7)%(0-2)", -1}, {"0/5", 0}, {"0%5", 0}, {"5/5", 1}, {"5%5", 0},
      {"5/0", 0}, {"5%0", 0}, {"0/0", 0}, {"0%0", 0}, {"(0-5)/0", 0}, {"(0-5)%0", 0}, {"5/(3-3)", 0}, {"1+5/0", 1},
      {"5/0*3+2", 2}, {LEAST_INT + "/(0-1)", LEAST}, {LEAST_INT + "%(0-1)", 0}, {LEAST_INT + "/0", 0},
      {LEAST_INT + "%0", 0}, {LEAST_INT + "/2", LEAST / 2}, {LEAST_INT + "%9999", LEAST % 9999}};
    for (Object[] row : rows) Due.is("law " + row[0], law((String) row[0]), (Integer) row[1]);
  }

  // "relations, and, or, not are 1 or 0, of what is not 0".
  private static void relations() {
    Object[][] rows = {{"2<2", 0}, {"2>2", 0}, {"2=2", 1}, {"1<2", 1}, {"2<1", 0}, {"1>2", 0}, {"2>1", 1}, {"1=2", 0},
      {LEAST_INT + "<1", 1}, {LEAST_INT + ">1", 0}, {"1>" + LEAST_INT, 1}, {LEAST_INT + "-1>" + LEAST_INT, 1},
      {"not 0", 1}, {"not 1", 0}, {"not 7", 0}, {"not (0-7)", 0}, {"not " + LEAST_INT, 0}, {"7 and 7", 1}, {"7 and 0", 0},
      {"0 and 7", 0}, {"(0-1) and " + LEAST_INT, 1}, {"0 or 0", 0}, {"0 or 7", 1}, {"(0-1) or 0", 1}, {"7", 7},
      {"(0-7)", -7}, {"1 or 1/0", 1}, {"0 and 1/0", 0}, {"2 or 0 and 0", 1}, {"not 0 or 1", 1}, {"not 2<1", 1},
      {"(7 and 7)+(7 or 0)+(1<2)", 3}};
    for (Object[] row : rows) Due.is("law " + row[0], law((String) row[0]), (Integer) row[1]);
  }

  // "the greatest KEY first", by ints, not by what their difference wraps to.
  private static void greatestKeyFirst() {
    String four = Samples.books(4) + "reader p odds 0;reader q odds 0;";
    // KEYS: -1, the greatest, -1, the greatest.
    orders("least and greatest", Due.told(four + "law number*" + LEAST_INT + "-1;"), 1, 1, 3, 0, 2);
    // KEYS: 0, the least, 0, the least.
    orders("0 and the least", Due.told(four + "law number*" + LEAST_INT + ";"), 1, 0, 2, 1, 3);
    orders("by turns", Due.told(four + "law number*" + LEAST_INT + "-1;quarrel turns;"), 3, 1, 3, 0, 2);
    orders("the greater numbers", Due.told(four + "law number;"), 1, 3, 2, 1, 0);
  }

  // "of like ones by number".
  private static void likeKeysByNumber() {
    String ten = Samples.books(10) + "reader p odds 0;reader q odds 0;law 7;quarrel ";
    for (String word : new String[] {"sum", "least", "most", "turns"}) {
      WantShelves x = Due.told(ten + word + ";");
      for (int party = 0; party < 4; party++) orders("all alike, " + word, x, party, 0, 1, 2, 3, 4, 5, 6, 7, 8, 9);
    }
    orders("two and two alike", Due.told(Samples.books(4) + "reader p odds 0;law number/2;"), 1, 2, 3, 0, 1);
  }

  // "BOOKS that are not OUT": none of them.
  private static void allOut() {
    for (String word : new String[] {"sum", "least", "most", "turns"}) {
      WantShelves x = Due.told(Samples.TWO + "quarrel " + word + ";");
      for (int b = 0; b < 3; b++) x.out(b);
      for (int party = 0; party < 4; party++) {
        Due.is("all out, " + word + ": book(" + party + ", 0)", x.book(party, 0), NONE);
        Due.is("all out, " + word + ": place(" + party + ", 0)", x.place(party, 0), NONE);
      }
      Due.is("all out: steps(0)", x.steps(0), NONE);
      Due.is("all out: key(0, 0)", x.key(0, 0), 6);
      Due.is("all out: unlike(0, 1)", x.unlike(0, 1), 0);
      Due.is("all out: was(0)", x.was(0), 4);
      Due.is("all out: errand(0, 1)", x.errand(0, 1), 0);
      x.out(2);
      for (int party = 0; party < 4; party++) orders("one is back, " + word, x, party, 2);
    }
  }

  // "Of nobody: by number."
  private static void partyOfNobody() {
    for (String word : new String[] {"sum", "least", "most", "turns"}) {
      WantShelves x = Due.told(Samples.full("quarrel " + word + ";"));
      orders("nobody, " + word, x, 0, 0, 1, 2, 3, 4, 5, 6, 7, 8, 9);
      x.out(0);
      x.out(9);
      x.out(4);
      orders("nobody, three out, " + word, x, 0, 1, 2, 3, 5, 6, 7, 8);
    }
    orders("no readers", Due.told(Samples.books(3) + "quarrel turns;law 0-number;"), 0, 0, 1, 2);
    orders("no books", Due.told("reader p odds 0;quarrel turns;"), 1);
  }

  private static void partyOfOne() {
    for (String word : new String[] {"sum", "least", "most", "turns"}) {
      WantShelves x = Due.told(Samples.full("quarrel " + word + ";"));
      orders("the first alone, " + word, x, 1, 0, 1, 2, 3, 4, 5, 6, 7, 8, 9);
      orders("the second alone, " + word, x, 2, 9, 8, 7, 6, 5, 4, 3, 2, 1, 0);
      orders("the last alone, " + word, x, 32, 0, 1, 2, 3, 4, 5, 6, 7, 8, 9);
    }
  }

  // "by what its KEYS are together (wrapping), the least, the greatest of them".
  private static void quarrelsWrapOrNot() {
    // Of BOOK 1 each KEY is 2 to the 30th, of BOOK 0 it is 0.
    String base = "book a;book b;reader p odds 0;reader q odds 0;reader r odds 0;law number*8192*8192*16;quarrel ";
    orders("one does not wrap", Due.told(base + "sum;"), 1, 1, 0);
    orders("two wrap to the least", Due.told(base + "sum;"), 3, 0, 1);
    orders("three are below 0", Due.told(base + "sum;"), 7, 0, 1);
    orders("the least of them does not wrap", Due.told(base + "least;"), 7, 1, 0);
    orders("the greatest of them does not wrap", Due.told(base + "most;"), 7, 1, 0);
    // KEYS of p are 0, the least int; of q 1, 1: together 1, the least and one.
    String apart = "topic x;book a;book b x 1;reader p odds 0 wants x 1;reader q odds 0;law want*" + LEAST_INT + "+(want=0);quarrel ";
    orders("least of all", Due.told(apart + "least;"), 3, 0, 1);
    orders("most of all", Due.told(apart + "most;"), 3, 0, 1);
    // KEYS of p: 5 4 3 0, of q: 0 3 3 9: together 5 7 6 9, the least 0 3 3 0, the greatest 5 4 3 9.
    String two = "topic x;topic y;book a x 5;book b x 4 y 3;book c x 3 y 3;book d y 9;reader p odds 1 wants x 1;reader q odds 1 wants y 1;";
    orders("together", Due.told(two), 3, 3, 1, 2, 0);
    orders("the least of them", Due.told(two + "quarrel least;"), 3, 1, 2, 0, 3);
    orders("the greatest of them", Due.told(two + "quarrel most;"), 3, 3, 0, 1, 2);
    // Four times 2 to the 30th is 0 again: like BOOK 0.
    String six = "book a;book b;reader p odds 0;reader q odds 0;reader r odds 0;reader s odds 0;law number*8192*8192*16;";
    orders("four wrap to 0", Due.told(six), 15, 0, 1);
    WantShelves x = Due.told(six + "reader t odds 0;reader u odds 0;");
    orders("five wrap above 0", x, 31, 1, 0);
    orders("six wrap to the least", x, 63, 0, 1);
  }

  // "turns: by number, round and round, each lays the first BOOK of his ORDER that is not laid".
  private static void turnsRoundAndRound() {
    WantShelves x = Due.told(Samples.full("quarrel turns;"));
    orders("p, q", x, 3, 0, 9, 1, 8, 2, 7, 3, 6, 4, 5);
    // p 0, q 9, r 4, l 5, n 8, o 1, p 2, q 7, r 3, l 6.
    orders("all six", x, 63, 0, 9, 4, 5, 8, 1, 2, 7, 3, 6);
    orders("q, n", x, 18, 9, 8, 7, 6, 5, 4, 3, 2, 1, 0);
    for (int b = 2; b < 10; b++) x.out(b);
    orders("two books, six readers", x, 63, 0, 1);
    orders("two books, q and p", x, 3, 0, 1);
    orders("two books, q and n", x, 18, 1, 0);
    x.out(0);
    orders("one book, six readers", x, 63, 1);
  }

  // "STEPS to place p (from 0): p + 1 + 2 * (p / shelf, cut)".
  private static void stepsByShelf() {
    int[][] due = {{1, 4, 7, 10, 13, 16, 19, 22, 25, 28}, {1, 2, 5, 6, 9, 10, 13, 14, 17, 18},
      {1, 2, 3, 6, 7, 8, 11, 12, 13, 16}, {1, 2, 3, 4, 5, 6, 7, 8, 9, 12}};
    int[] shelves = {1, 2, 3, 9};
    for (int i = 0; i < shelves.length; i++) {
      WantShelves x = Due.told(Samples.books(10) + "shelf " + shelves[i] + ";");
      for (int b = 0; b < 10; b++) Due.is("shelf " + shelves[i] + ", place " + b, x.steps(b), due[i][b]);
    }
  }

  // "In earnest there are wants (as told), MOODS (none at first), who is IN (nobody), .. OUT (none), how often each was read."
  private static void atFirst() {
    WantShelves x = Due.told(Samples.full(""));
    for (int r = 0; r < 6; r++) {
      Due.is("mood at first, " + r, x.reader(r, 1), NONE);
      Due.is("in at first, " + r, x.reader(r, 2), 0);
      Due.is("read at first, " + r, x.reader(r, 3), 0);
      for (int t = 0; t < 4; t++) {
        int told = r == t ? 1 : r == 4 && t == 0 || r == 5 && t == 1 ? -1 : 0;
        Due.is("want at first, " + r + " " + t, x.wants(r, t), told);
      }
    }
    Due.is("in at first", x.about(3), 0);
    Due.is("out at first", x.about(4), 0);
  }

  // "-9 at least, 9 at most".
  private static void bentWantsAreBounded() {
    Object[][] rows = {{"8", 8}, {"9", 9}, {"10", 9}, {"9999", 9}, {"0-8", -8}, {"0-9", -9}, {"0-10", -9}, {"0-9999", -9},
      {LEAST_INT, -9}, {LEAST_INT + "-1", 9}, {"9999*9999*30", -9}, {"9999*9999*21", 9}, {"old*2", 8}, {"old*3", 9},
      {"old-13", -9}, {"old-14", -9}};
    for (Object[] row : rows) {
      WantShelves x = Due.told("topic x;topic y;book a;reader p odds 0 wants x 4 wants y 4;reader q odds 0 wants y 5;bend " + row[0] + ";");
      x.read(0, 0);
      Due.is("bend " + row[0], x.wants(0, 0), (Integer) row[1]);
      Due.is("bend " + row[0] + ", the last topic", x.wants(0, 1), (Integer) row[1]);
      Due.is("another one's are as they were", x.wants(1, 1), 5);
    }
  }

  private static void undoNone() {
    WantShelves x = Due.told(Samples.TWO);
    Due.is("no act: undo()", x.undo(), false);
    Due.is("no act: redo()", x.redo(), false);
    Due.is("no act: undone", x.about(7), 0);
    x.comes(0);
    Due.is("nothing taken back: redo()", x.redo(), false);
    Due.is("one act: undo()", x.undo(), true);
    Due.is("one act: undo() again", x.undo(), false);
    Due.is("one act: redo()", x.redo(), true);
    Due.is("one act: redo() again", x.redo(), false);
    Due.is("he is in", x.about(3), 1);
  }

  // "REDO does that again which was taken back last (till another ACT)".
  private static void redoTillAnotherAct() {
    for (int sort = 0; sort < 4; sort++) {
      WantShelves x = Due.told(Samples.TWO);
      x.comes(0);
      x.comes(1);
      x.undo();
      x.undo();
      Due.is("two can be redone", x.about(7), 2);
      if (sort == 0) x.comes(1);
      if (sort == 1) x.mood(0, 1);
      if (sort == 2) x.out(0);
      if (sort == 3) x.read(0, 0);
      Due.is("another act " + sort + ": redone", x.about(7), 0);
      Due.is("another act " + sort + ": undone", x.about(6), 1);
      Due.is("another act " + sort + ": redo()", x.redo(), false);
      Due.is("another act " + sort + ": undo()", x.undo(), true);
      Due.is("another act " + sort + ": undo() again", x.undo(), false);
    }
    WantShelves y = Due.told(Samples.TWO);
    y.comes(0);
    y.undo();
    y.send(0, 0);
    y.look(0, 0, 1);
    y.later(1);
    y.left(0);
    y.one();
    y.image(0);
    y.end(0);
    Due.is("what is no act leaves it", y.redo(), true);
  }

  /** Each ACT taken back and done again changes what it is about, and nothing else. */
  private static void eachActAlone() {
    for (int sort = 0; sort < 4; sort++) {
      WantShelves x = Due.told(Samples.TWO);
      x.mood(0, 1);
      x.mood(1, 1);
      x.comes(1);
      x.out(1);
      x.read(1, 2);
      int[] before = {2, 2, 1, 1, 1, 2, -1, 0, 3};
      shows("before act " + sort, x, before);
      int[] then = before.clone();
      if (sort == 0) then[0] = x.comes(0) + 2;
      if (sort == 1) then[2] = x.mood(0, 0) - 1;
      if (sort == 2) then[1] = x.out(0) + 2;
      if (sort == 3) {
        // bend old+weight-1: a has 3 of x, nothing of y.
        then[4] = x.read(0, 0) + 1;
        then[5] = 4;
        then[6] = -2;
      }
      shows("act " + sort, x, then);
      for (int i = 0; i < 2; i++) {
        x.undo();
        shows("act " + sort + " taken back", x, before);
        x.redo();
        shows("act " + sort + " done again", x, then);
      }
    }
  }

  /** IN, OUT, both MOODS, how often there was reading, all wants. */
  private static void shows(String when, WantShelves x, int[] due) {
    int[] is = {x.about(3), x.about(4), x.reader(0, 1), x.reader(1, 1), x.about(5), x.wants(0, 0), x.wants(0, 1),
      x.wants(1, 0), x.wants(1, 1)};
    for (int i = 0; i < is.length; i++) Due.is(when + ", number " + i, is[i], due[i]);
  }

  // "40 at most are kept, the oldest go".
  private static void oldestActsGo() {
    WantShelves x = Due.told(Samples.TWO);
    x.comes(0);
    for (int i = 0; i < 39; i++) x.mood(1, i % 2);
    Due.is("40 acts", x.about(6), 40);
    for (int i = 0; i < 40; i++) x.undo();
    Due.is("the first is among them", x.about(3), 0);
    for (int i = 0; i < 40; i++) x.redo();
    Due.is("all are done again", x.about(6), 40);
    x.out(2);
    Due.is("the 41st: still 40", x.about(6), 40);
    for (int i = 0; i < 40; i++) Due.is("undo " + i, x.undo(), true);
    Due.is("the oldest is not among them", x.undo(), false);
    Due.is("he stays in", x.about(3), 1);
    Due.is("40 can be redone", x.about(7), 40);
    x.comes(1);
    Due.is("another act", x.about(6), 1);
    Due.is("none can be redone", x.about(7), 0);
    Due.is("who is in", x.about(3), 3);
    x.undo();
    Due.is("who is in then", x.about(3), 1);
  }

  /** Of all sorts, more than are kept: each way back and forth goes by the same states. */
  private static void actsOfAllSorts() {
    WantShelves x = Due.told("topic x;book a x 1;book b;reader p odds 0;reader q odds 0 wants x 3;bend old+reads%3-1;");
    int[] was = new int[45];
    for (int i = 0; i < 44; i++) {
      if (i % 2 == 0) was[i] = digest(x);
      if (i % 5 == 0) x.comes(i / 5 % 2);
      if (i % 5 == 1) x.mood(i / 5 % 2, i / 10 % 2 - 1);
      if (i % 5 == 2) x.out(i / 5 % 2);
      if (i % 5 > 2) x.read(i / 5 % 2, i % 2);
    }
    was[44] = digest(x);
    for (int i = 43; i >= 4; i--) {
      x.undo();
      if (i % 2 == 0) Due.is("back to " + i, digest(x), was[i]);
    }
    Due.is("no more", x.undo(), false);
    for (int i = 5; i <= 44; i++) {
      x.redo();
      if (i % 2 == 0) Due.is("forth to " + i, digest(x), was[i]);
    }
    Due.is("no more again", x.redo(), false);
  }

  private static int digest(WantShelves x) {
    return (((x.about(3) * 4 + x.about(4)) * 4 + x.reader(0, 1) + 1) * 100 + x.about(5)) * 20 + x.wants(1, 0) + 9;
  }

  // "UNLIKE: twos of BOOKS (not OUT) that two READERS have in unlike order."
  private static void unlikeTwos() {
    WantShelves x = Due.told(Samples.full(""));
    Due.is("all twos of ten", x.unlike(0, 1), 45);
    Due.lies("all twos of ten", x, 0, 1);
    Due.is("no two", x.unlike(0, 5), 0);
    Due.lies("no two", x);
    Due.is("the last reader with himself", x.unlike(5, 5), 0);
    // r has BOOK 4 ahead of 0 .. 3.
    Due.is("four twos", x.unlike(0, 2), 4);
    Due.lies("four twos", x, 0, 4);
    for (int b = 0; b < 8; b++) x.out(b);
    Due.is("two are left", x.unlike(1, 0), 1);
    Due.lies("two are left", x, 8, 9);
    x.out(8);
    Due.is("one is left", x.unlike(1, 0), 0);
    Due.lies("one is left", x);
  }

  // "SEND for a BOOK: the PARTY (not nobody) for which STEPS to it are fewest".
  private static void sendNotNobody() {
    WantShelves x = Due.told(Samples.books(10) + "reader p odds 0;law number;");
    Due.is("nobody would have it first", x.place(0, 0), 0);
    Due.is("steps", x.send(0, 0), 12);
    Due.is("who", x.send(0, 1), 1);
    Due.is("the first of his", x.send(9, 0), 1);
  }

  // "of like ones of fewest READERS, of these the least set".
  private static void sendLikeOnes() {
    WantShelves x = Due.told(Samples.full(""));
    Due.is("the least of two that are alone", x.send(0, 1), 1);
    Due.is("alone rather than with others", x.send(9, 1), 2);
    Due.is("another one alone", x.send(5, 1), 8);
    // The last alone is fewer than the first two together.
    WantShelves y = Due.told("topic x;topic y;book a;book b x 1 y 1;book c x 2;book d y 2;"
        + "reader p odds 0 wants x 2;reader q odds 0 wants y 2;reader r odds 0 wants x 1 wants y 1;law want+(number=1);");
    // p: 0 3 4 0, q: 0 3 0 4, together 0 6 4 4 (b first); r: 0 3 2 2 (b first, alone).
    Due.is("together they have it first", y.place(3, 1), 0);
    Due.is("one alone is fewer", y.send(1, 1), 4);
    Due.is("steps", y.send(1, 0), 1);
    WantShelves none = Due.told(Samples.books(2) + "reader p odds 0;reader q odds 0;reader r odds 0;");
    Due.is("all alike: the least set", none.send(1, 1), 1);
    Due.is("all alike: steps", none.send(1, 0), 2);
  }

  // "THINK: the MOOD of a READER (none first, then by TOPICS) .. of like ones the first."
  private static void thinkNoneFirst() {
    WantShelves x = Due.told(Samples.full("mood 9;"));
    Due.is("none is as good", x.think(0, 0, 1), NONE);
    Due.is("none is as good: steps", x.think(0, 0, 0), 1);
    Due.is("the last topic", x.think(0, 5, 1), 3);
    Due.is("the last topic: steps", x.think(0, 5, 0), 1);
    Due.is("the second topic", x.think(0, 9, 1), 1);
    x.mood(0, 3);
    Due.is("another mood now", x.think(0, 0, 1), NONE);
    Due.is("another mood now: steps", x.think(0, 0, 0), 1);
    WantShelves y = Due.told(Samples.books(2) + "reader p odds 0;");
    Due.is("no topics", y.think(0, 1, 1), NONE);
    Due.is("no topics: steps", y.think(0, 1, 0), 2);
    WantShelves z = Due.told("topic x;topic y;book a;book b x 1 y 1;reader p odds 0;");
    Due.is("two topics are as good", z.think(0, 1, 1), 0);
    WantShelves nil = Due.told("topic x;book a;book b x 1;reader p odds 0;mood 0;");
    Due.is("a mood of 0", nil.think(0, 1, 1), NONE);
  }

  // "ERRAND .. k visits (1 .. 3) at most: each visit is of a PARTY (not nobody)".
  private static void errandAtMost() {
    WantShelves x = Due.told(Samples.TWO);
    for (int k = 1; k <= 3; k++) {
      Due.is("one book, " + k + " visits", x.errand(1, k), 2);
      Due.is("no books, " + k + " visits", x.errand(0, k), 0);
    }
    // Nobody would have BOOK 0 first, the only READER has it last: 10 + 2 STEPS, twice.
    WantShelves y = Due.told(Samples.books(10) + "reader p odds 0;law number;");
    Due.is("not nobody", y.errand(1, 3), 24);
    Due.is("the first is no dearer with the last", y.errand(513, 3), 24);
    WantShelves z = Due.told("reader p odds 0;");
    Due.is("no books at all", z.errand(0, 1), 0);
    Due.is("no books at all: one that is not there", z.errand(1, 1), NONE);
  }

  private static void errandOfTen() {
    WantShelves x = Due.told(Samples.full(""));
    Due.is("all ten, one visit", x.errand(1023, 1), 24);
    Due.is("all ten, two visits", x.errand(1023, 2), 20);
    Due.is("all ten, three visits", x.errand(1023, 3), 20);
    // The first and the last, and one in the middle: p, q and r have one of them first.
    Due.is("three far ones, three visits", x.errand(1 | 512 | 16, 3), 6);
    // 0 and 4 are at places 1 and 0 for r: 4 STEPS with him, 2 with q.
    Due.is("three far ones, two visits", x.errand(1 | 512 | 16, 2), 6);
    // For each PARTY 0 or 9 is the last: KEYS go up or down with i, or are alike, but for 4 and 5 going ahead.
    Due.is("three far ones, one visit", x.errand(1 | 512 | 16, 1), 24);
    // Each of three has one of the last three BOOKS first; STEPS to places 0 to 2 are 1, 4, 7.
    WantShelves three = Due.told("topic x;topic y;topic z;book n;book o;book a x 1;book b y 1;book c z 1;"
        + "reader p odds 1 wants x 1;reader q odds 1 wants y 1;reader r odds 1 wants z 1;shelf 1;");
    int[][] due = {{0, 0, 0}, {2, 2, 2}, {2, 2, 2}, {8, 4, 4}, {2, 2, 2}, {8, 4, 4}, {8, 4, 4}, {14, 10, 6}};
    for (int set = 0; set < 8; set++) {
      for (int k = 1; k <= 3; k++) Due.is("errand of " + set + " of three, " + k, three.errand(set << 2, k), due[set][k - 1]);
    }
    Due.is("one more than there are", x.errand(1024, 1), NONE);
    x.out(9);
    Due.is("one is out", x.errand(1023, 3), NONE);
    Due.is("the others", x.errand(511, 1), 22);
  }

  // "LEADS .. which BOOK at the n-th time (1 .. 60)".
  private static void leadsOneToSixty() {
    // BOOK b is laid aside after each reading for as long as all others were not read as often.
    WantShelves x = Due.told(Samples.books(10) + "reader p odds 0;law 0-reads;");
    for (int n = 1; n <= 60; n++) Due.is("leads(0, " + n + ")", x.leads(0, n), (n - 1) % 10);
    Due.is("leads(0, 0)", x.leads(0, 0), NONE);
    Due.is("leads(0, 61)", x.leads(0, 61), NONE);
    Due.is("nothing was read", x.about(5), 0);
    // x goes down from 9 by 1 with each reading of a, so that b comes when it is below -9 + 9.
    WantShelves y = Due.told("topic x;book a x 1;book b;reader p odds 0 wants x 9;bend old-weight;");
    Due.is("the tenth time", y.leads(0, 10), 0);
    Due.is("the eleventh time", y.leads(0, 11), 1);
    Due.is("the last time", y.leads(0, 60), 1);
  }

  private static void leadsBeyondReading() {
    WantShelves x = Due.told("book a;book b;reader p odds 0;law (number=0)*(reads<100)*2+number;");
    for (int i = 0; i < 99; i++) x.read(0, 0);
    Due.is("read no more in earnest", x.read(0, 0), NONE);
    Due.is("the hundredth reading", x.leads(0, 1), 0);
    Due.is("behind it", x.leads(0, 2), 1);
  }

  // "ROWS of wants are of all TOPICS, each -m .. m (m 1, 2), ordered by TOPIC 0, then the next ones."
  private static void rowsFirstAndHowMany() {
    String[] topics = {"", "topic s;", "topic s;topic t;", "topic s;topic t;topic u;", "topic s;topic t;topic u;topic v;"};
    int[][] due = {{1, 1}, {3, 5}, {9, 25}, {27, 125}, {81, 625}};
    for (int t = 0; t <= 4; t++) {
      WantShelves x = Due.told(topics[t] + "book a;book b;reader p odds 0;");
      for (int m = 1; m <= 2; m++) {
        Due.is("rows of " + t + " topics, m " + m, x.fit(0, m, 0), due[t][m - 1]);
        Due.is("all have one order: hide, m " + m, x.hide(0, 0, 0, m), due[t][m - 1]);
        Due.is("as many lie there", x.about(13), t);
        for (int i = 0; i < t; i++) Due.is("the first row, topic " + i, x.lies(i), -m);
        Due.is("never first", x.hide(0, 1, 0, m), NONE);
      }
    }
    // s is of a, v is of b: of rows by which b is ahead the first has s least, then v just above it.
    WantShelves y = Due.told(topics[4] + "book a s 1;book b v 1;reader p odds 0;law want*(number=1)-(number=0)*want-(number=0)*9;");
    Due.is("how many", y.hide(0, 1, 0, 2) > 0, true);
    Due.lies("topic 0 counts most", y, -2, -2, -2, -2);
  }

  // "HIDE for a BOOK, places 0 .. p: of ROWS by which alone it stands there the one whose ORDER most ROWS have; .. the first".
  private static void hidePlaces() {
    // KEYS 0 .. by number; x lifts the last one alone.
    WantShelves x = Due.told("topic x;" + Samples.books(9) + "book j x 1;reader p odds 0 wants x 9;law (want>1)*100-number;");
    Due.is("first by one row", x.hide(0, 9, 0, 2), 1);
    Due.lies("first by one row", x, 2);
    Due.is("not last by it", x.hide(0, 9, 8, 2), 1);
    Due.is("anywhere", x.hide(0, 9, 9, 2), 4);
    Due.lies("anywhere", x, -2);
    Due.is("no such row", x.hide(0, 9, 0, 1), NONE);
    Due.is("no such row at 8", x.hide(0, 9, 8, 1), NONE);
    Due.is("at the last place", x.hide(0, 9, 9, 1), 3);
    Due.is("one behind the first: no", x.hide(0, 1, 0, 2), NONE);
    Due.is("one behind the first: at 1", x.hide(0, 1, 1, 2), 4);
    WantShelves y = Due.told("topic x;book a;reader p odds 0;");
    Due.is("one book, p 9", y.hide(0, 0, 9, 1), 3);
    Due.is("one book, p 9 again", y.hide(0, 0, 9, 1), 3);
    Due.is("one book, p 0, m 2", y.hide(0, 0, 0, 2), 5);
    Due.is("one book, p 10", y.hide(0, 0, 10, 1), NONE);
    // Two rows have a, b; two have b, a; 0 is a tie that a wins for m 1: -1 has b, 0 and 1 have a.
    WantShelves z = Due.told("topic x;book a x 1;book b;reader p odds 0;law want*2-(number=0);");
    // KEYS of a: -5 -3 -1 1 3; b is ahead by three rows, a by two.
    Due.is("most rows", z.hide(0, 0, 1, 2), 3);
    Due.lies("most rows", z, -2);
    Due.is("a first", z.hide(0, 0, 0, 2), 2);
    Due.lies("a first", z, 1);
    // KEYS of a: -4 -2 0 2 4, of b 1, of c -1: b c a by two ROWS, b a c by one, a b c by two; of like ones the first.
    WantShelves tie = Due.told("topic x;book a x 1;book b;book c;reader p odds 0;law want*2+(number=1)-(number=2);");
    Due.is("like ones", tie.hide(0, 1, 9, 2), 2);
    Due.lies("like ones", tie, -2);
    Due.is("like ones, b not first", tie.hide(0, 0, 1, 2), 2);
    Due.lies("like ones, b not first", tie, 1);
    // Three ROWS, three ORDERS.
    Due.is("like ones, one each", tie.hide(0, 0, 2, 1), 1);
    Due.lies("like ones, one each", tie, -1);
    Due.is("like ones, two of three", tie.hide(0, 0, 1, 1), 1);
    Due.lies("like ones, two of three", tie, 0);
    // BOOK 0 never comes first, whatever was asked before.
    WantShelves never = Due.told("topic x;book a;book b;reader p odds 0;law number;");
    Due.is("never first", never.hide(0, 0, 0, 2), NONE);
    Due.is("always second", never.hide(0, 0, 1, 2), 5);
    Due.is("never first then", never.hide(0, 0, 0, 1), NONE);
    Due.is("always second by fewer", never.hide(0, 0, 1, 1), 3);
  }

  // "by how many STEPS fewer than as he is (0, if by none)".
  private static void pretendNone() {
    WantShelves x = Due.told(Samples.TWO);
    // q's BOOK is at place 1 as he is; by all ROWS up to 1 it is at place 2.
    Due.is("by more, not fewer", x.pretend(1, 0, 1), 0);
    Due.lies("by more, not fewer", x);
    Due.is("first already", x.pretend(0, 1, 2), 0);
    Due.lies("first already", x);
    WantShelves y = Due.told(Samples.books(2) + "reader p odds 0;reader q odds 0;");
    Due.is("no topics", y.pretend(0, 1, 2), 0);
    Due.lies("no topics", y);
    WantShelves z = Due.told(Samples.full("shelf 1;"));
    // q's BOOK is the last but for him: with p KEYS are 9 each, so it stands at place 9; 28 STEPS.
    Due.is("all alike with another one", z.place(3, 9), 9);
    Due.is("from the last to the first", z.pretend(1, 0, 2), 27);
    // By s -2 and t 0 KEYS together are i - 9, the middle ones less by u and v.
    Due.lies("from the last to the first", z, -2, 0, -2, -2);
  }

  // "by a ROW in place of his wants, without MOODS"; "his BOOK is the first of his ORDER (as he is)".
  private static void pretendIsOfWantsAlone() {
    // By his MOOD p has b first (KEYS 0 1); with q (KEYS 1 0) both are 1, and a is ahead by its number.
    WantShelves x = Due.told("topic x;topic y;book a y 1;book b x 1;reader p odds 0 wants x -3;reader q odds 0 wants y 1;mood 4;");
    x.mood(0, 0);
    Due.is("as he is b is first", x.book(1, 0), 1);
    Due.is("together a is first", x.book(3, 0), 0);
    Due.is("m 1", x.pretend(0, 1, 1), 1);
    // b has x, a has 1 + y: the first ROW with x > 1 + y.
    Due.lies("m 1", x, 1, -1);
  }

  // "of like ones the first", where none is the first place.
  private static void pretendLikeOnes() {
    // c is p's; whatever he pretends, q has a first by far; c comes second if x > 0 in his ROW, y does not matter.
    WantShelves x = Due.told("topic x;topic y;topic z;book a z 9;book b;book c x 1;reader p odds 0 wants x 1 wants z -9;"
        + "reader q odds 0 wants x -2 wants z 9;");
    // As he is: a 0, b 0, c -1 together. By a ROW: a 81 + 9z, c x - 2.
    Due.is("third as he is", x.place(3, 2), 2);
    Due.is("m 1: none is better", x.pretend(0, 1, 1), 0);
    Due.lies("m 1: none is better", x);
    WantShelves y = Due.told("topic x;topic y;topic z;book a z 9;book b;book c x 1;reader p odds 0 wants x 1;"
        + "reader q odds 0 wants x -1 wants z 9;");
    Due.is("m 2: third as he is", y.place(3, 2), 2);
    Due.is("m 2: second by x 2", y.pretend(0, 1, 2), 1);
    Due.lies("m 2: second by x 2", y, 2, -2, -2);
  }

  // "till a turn of both changes none": "after how many turns (the last one, too); NONE if 20 were not enough".
  private static void restTwentyTurns() {
    // Each outbids the other by the least ROW that does: p's bid for a is 5x + y, q's for b is 5z + w, each up to 12.
    String text = "topic x;topic y;topic z;topic w;book a x 5 y 1;book b z 5 w 1;reader p odds 0;reader q odds 0 wants z 1";
    WantShelves x = Due.told(text + " wants w 1;");
    Due.is("rests with the 20th turn", x.rest(0, 1, 2), 20);
    Due.lies("rests with the 20th turn", x, 2, 2, -2, -2, -2, -2, 2, 2);
    WantShelves y = Due.told(text + ";");
    y.one();
    Due.is("would rest with the 21st", y.rest(0, 1, 2), NONE);
    Due.lies("would rest with the 21st", y);
    WantShelves z = Due.told(text + " wants w 2;");
    Due.is("rests with the 19th", z.rest(0, 1, 2), 19);
    Due.is("nothing was done", z.wants(1, 3), 2);
  }

  private static void restNeverRests() {
    WantShelves x = Due.told("topic x;book a x 3;book b x 1;book c x 2;book d x 4;reader p odds 1 wants x -1;"
        + "reader q odds 1;law want%4;");
    Due.is("round and round", x.rest(0, 1, 2), NONE);
    Due.lies("round and round", x);
  }

  // "(as he was, if that is one of these; else the first)".
  private static void restAsHeWas() {
    WantShelves x = Due.told("topic x;topic y;book a;book b;reader p odds 0 wants x 7 wants y -9;reader q odds 0 wants x 9;");
    Due.is("all is alike", x.rest(0, 1, 1), 1);
    Due.lies("all is alike", x, 7, -9, 9, 0);
    Due.is("the second one first", x.rest(1, 0, 2), 1);
    Due.lies("the second one first", x, 9, 0, 7, -9);
    // KEYS are x, 0, 2x: a is first if both x are 0 together, c if they are above 0, else b.
    String three = "topic x;book a x 1;book b;book c x 2;";
    // p (a) takes -1, q (c) can't help it and stays as he was, not as he tried.
    WantShelves stays = Due.told(three + "reader p odds 1;reader q odds 1 wants x 1;");
    Due.is("one takes a row, the other stays", stays.rest(0, 1, 1), 2);
    Due.lies("one takes a row, the other stays", stays, -1, 1);
    // q (a) takes -1; p (c) takes 2, q -2; then p can't help it and stays by that ROW.
    WantShelves later = Due.told(three + "reader p odds 1 wants x 1;reader q odds 1;");
    Due.is("both take rows, then stay by them", later.rest(0, 1, 2), 3);
    Due.lies("both take rows, then stay by them", later, 2, -2);
    WantShelves y = Due.told(Samples.books(1) + "reader p odds 0;reader q odds 0;");
    Due.is("no topics", y.rest(0, 1, 1), 1);
    Due.lies("no topics", y);
  }

  // "LEFT: a row of BOOKS told, each once. WAS IN: PARTIES (nobody, too) whose ORDER begins so."
  private static void leftAndNobody() {
    WantShelves x = Due.told(Samples.full("quarrel turns;"));
    Due.is("nothing left: all parties", x.was(0), 64);
    Due.is("nothing left: in all", x.was(1), 0);
    Due.is("nothing left: in some", x.was(2), 63);
    for (int b = 0; b < 10; b++) Due.is("left(" + b + ")", x.left(b), b + 1);
    // By number: nobody, p, o, p and o.
    Due.is("ten left: parties", x.was(0), 4);
    Due.is("ten left: in all", x.was(1), 0);
    Due.is("ten left: in some", x.was(2), 33);
    for (int b = 0; b < 10; b++) Due.is("left(" + b + ") again", x.left(b), NONE);
    Due.is("hush()", x.hush(), 10);
    x.left(9);
    x.left(0);
    x.left(8);
    x.left(1);
    x.left(7);
    x.left(2);
    // q and o by turns, or n and o.
    Due.is("two by turns: parties", x.was(0), 2);
    Due.is("two by turns: in all", x.was(1), 32);
    Due.is("two by turns: in some", x.was(2), 50);
    WantShelves y = Due.told(Samples.books(2));
    Due.is("no readers: nobody", y.was(0), 1);
    y.left(1);
    Due.is("no readers: not so", y.was(0), 0);
    Due.is("no readers: in all of none", y.was(1), 0);
    Due.is("no readers: in some of none", y.was(2), 0);
  }

  // "ONE: all BOOKS that are not OUT in one order for all .. of like ones the first".
  private static void oneForAll() {
    WantShelves x = Due.told(Samples.full(""));
    // 0 is walked to 199 times, 4 and 5 each 50 times, 9 once.
    Due.is("ten books", x.one(), 199 + 50 * 2 + 50 * 3 + 4);
    Due.lies("ten books", x, 0, 4, 5, 9, 1, 2, 3, 6, 7, 8);
    for (int b = 1; b < 10; b++) x.out(b);
    Due.is("one is left", x.one(), 300);
    Due.lies("one is left", x, 0);
    x.out(0);
    Due.is("all are out", x.one(), 0);
    Due.lies("all are out", x);
    WantShelves y = Due.told(Samples.books(10) + "reader p odds 0;law number;");
    Due.is("nobody walks", y.one(), 0);
    Due.lies("nobody walks", y, 0, 1, 2, 3, 4, 5, 6, 7, 8, 9);
    WantShelves z = Due.told(Samples.books(10) + "reader p odds 1;law number;");
    Due.is("one walks once", z.one(), 1);
    Due.lies("one walks once", z, 9, 0, 1, 2, 3, 4, 5, 6, 7, 8);
  }

  // "the odds that a BOOK is within s STEPS".
  private static void crowdWithin() {
    WantShelves x = Due.told(Samples.books(10) + "reader p odds 30;law number;");
    // Place 9 (12 STEPS) for p, 30 of 100; place 0 for nobody, 70 of 100.
    int[][] due = {{LEAST, 0, 1}, {-1, 0, 1}, {0, 0, 1}, {1, 7, 10}, {11, 7, 10}, {12, 1, 1}, {13, 1, 1}, {GREATEST, 1, 1}};
    for (int[] row : due) {
      Due.is("crowd(0, " + row[0] + ", 0)", x.crowd(0, row[0], 0), row[1]);
      Due.is("crowd(0, " + row[0] + ", 1)", x.crowd(0, row[0], 1), row[2]);
    }
    WantShelves sure = Due.told("book a;book b;reader p odds 100;law number;");
    Due.is("odds of 100", sure.crowd(1, 1, 0), 1);
    Due.is("odds of 100: the lower part", sure.crowd(1, 1, 1), 1);
    Due.is("odds of 100: the other book", sure.crowd(0, 1, 0), 0);
    Due.is("odds of 100: the other book, the lower part", sure.crowd(0, 1, 1), 1);
    WantShelves never = Due.told("book a;book b;reader p odds 0;law number;");
    Due.is("odds of 0", never.crowd(1, 1, 0), 0);
    Due.is("odds of 0: the other book", never.crowd(0, 1, 0), 1);
    WantShelves nobody = Due.told("book a;book b;");
    Due.is("no readers", nobody.crowd(1, 1, 0), 0);
    Due.is("no readers: the lower part", nobody.crowd(1, 1, 1), 1);
    Due.is("no readers: two steps", nobody.crowd(1, 2, 0), 1);
  }

  private static void crowdInLowestTerms() {
    StringBuilder six = new StringBuilder("book a;book b;law number;");
    for (int i = 0; i < 6; i++) six.append("reader ").append((char) ('a' + i)).append(" odds 50;");
    WantShelves x = Due.told(six.toString());
    Due.is("a half, six times", x.crowd(0, 1, 0), 1);
    Due.is("a half, six times: the lower part", x.crowd(0, 1, 1), 64);
    Due.is("all but that", x.crowd(1, 1, 0), 63);
    Due.is("all but that: the lower part", x.crowd(1, 1, 1), 64);
    WantShelves y = Due.told(six.toString().replace("50", "99"));
    Due.is("one of 100, six times", y.crowd(0, 1, 0), 1);
    Due.is("one of 100, six times: the lower part", y.crowd(0, 1, 1), 1000000000000L);
    Due.is("all but that one", y.crowd(1, 1, 0), 999999999999L);
    Due.is("all but that one: the lower part", y.crowd(1, 1, 1), 1000000000000L);
  }

  // "LOOKS, 30 at most, are TOLD at a TIME (0 at first, goes on)".
  private static void thirtyLooks() {
    WantShelves x = Due.told(Samples.TWO);
    Due.is("the time at first", x.about(10), 0);
    for (int i = 0; i < 30; i++) Due.is("look " + i, x.look(i % 2, 0, 1 + i % 2), i);
    Due.is("look 30", x.look(0, 0, 1), NONE);
    Due.is("30 looks", x.about(8), 30);
    Due.is("untell(29)", x.untell(29), true);
    Due.is("untell(30)", x.untell(30), false);
    Due.is("one that is untold makes no room", x.look(0, 0, 1), NONE);
    Due.is("30 looks still", x.about(8), 30);
  }

  // "those count that were TOLD at k or before, not UNTOLD at k or before".
  private static void knownAtTimes() {
    WantShelves x = Due.told("topic x;book a x 1;book b;reader p odds 0;");
    x.later(10);
    x.look(0, 1, 0);
    x.later(10);
    x.untell(0);
    x.look(0, 0, 1);
    x.later(10);
    x.look(0, 1, 0);
    x.untell(2);
    // b ahead of a: -1 alone; a ahead of b: 0 and 1.
    int[][] due = {{LEAST, 3}, {-1, 3}, {0, 3}, {9, 3}, {10, 1}, {19, 1}, {20, 2}, {29, 2}, {30, 2}, {31, 2}, {GREATEST, 2}};
    for (int[] row : due) Due.is("fit(0, 1, " + row[0] + ")", x.fit(0, 1, row[0]), row[1]);
    Due.is("the most at 19", x.sure(0, 0, true, 1, 19), -1);
    Due.is("the least at 20", x.sure(0, 0, false, 1, 20), 0);
    Due.is("left at 9", x.ask(0, 1, 1, 9), 2);
    Due.is("left at 10", x.ask(0, 1, 1, 10), 1);
  }

  // "(in place of his, without MOODS; reads as they are) .. (by KEYS, of like ones by number; OUT or not)".
  private static void fitByNumberOutOrNot() {
    WantShelves x = Due.told("topic x;book a x 1;book b x 1;book c;reader p odds 0 wants x 9;reader q odds 0;mood 9;law want-reads;");
    x.look(0, 1, 0);
    Due.is("like ones by number: none has b ahead of a", x.fit(0, 2, 0), 0);
    x.read(0, 0);
    Due.is("reads as they are: all have", x.fit(0, 2, 0), 5);
    x.out(0);
    x.out(1);
    x.mood(0, 0);
    x.look(0, 2, 1);
    Due.is("out, and without the mood", x.fit(0, 2, 0), 2);
    Due.is("another reader's looks do not count", x.fit(1, 2, 0), 5);
    x.look(0, 1, 2);
    Due.is("both ways: none", x.fit(0, 2, 0), 0);
  }

  private static void sureAtTheEnds() {
    WantShelves x = Due.told("topic x;topic y;book a x 1;book b;reader p odds 0;");
    for (int m = 1; m <= 2; m++) {
      Due.is("the least, m " + m, x.sure(0, 1, false, m, 0), -m);
      Due.is("the most, m " + m, x.sure(0, 1, true, m, 0), m);
    }
    x.look(0, 1, 0);
    Due.is("x is below 0", x.sure(0, 0, true, 2, 0), -1);
    Due.is("how far below", x.sure(0, 0, false, 2, 0), -2);
    x.look(0, 0, 1);
    Due.is("no row: the least", x.sure(0, 0, false, 2, 0), GAP);
    Due.is("no row: the most", x.sure(0, 1, true, 2, 0), GAP);
    Due.is("before anything is known", x.sure(0, 0, true, 2, -1), 2);
  }

  // "ASK: the two BOOKS (the first less; the first counts most) .. of like ones the first."
  private static void askTwoBooks() {
    WantShelves x = Due.told("topic x;book a;book b x 1;reader p odds 0;");
    Due.is("two books", x.ask(0, 2, 0, 0), 1);
    // b is ahead by 1 and 2.
    Due.is("two books: left", x.ask(0, 2, 1, 0), 3);
    x.look(0, 1, 0);
    Due.is("known already: all that fit are left", x.ask(0, 2, 1, 0), 2);
    x.look(0, 0, 1);
    Due.is("no row fits", x.ask(0, 2, 0, 0), NONE);
    Due.is("no row fits: left", x.ask(0, 2, 1, 0), NONE);
    Due.is("one book", Due.told("topic x;book a;reader p odds 0;").ask(0, 2, 0, 0), NONE);
    Due.is("no books", Due.told("topic x;reader p odds 0;").ask(0, 2, 1, 0), NONE);
    WantShelves alike = Due.told(Samples.books(10) + "reader p odds 0;");
    Due.is("all alike: the first two", alike.ask(0, 1, 0, 0), 1);
    Due.is("all alike: left", alike.ask(0, 1, 1, 0), 1);
    // Only 8 and 9 change their order by x: 2 and 3 of 5.
    WantShelves last = Due.told("topic x;" + Samples.books(9) + "book j x 1;reader p odds 0;law (number=9)*(want>0)*3-number*2;");
    Due.is("the last two", last.ask(0, 2, 0, 0), 89);
    Due.is("the last two: left", last.ask(0, 2, 1, 0), 3);
    last.out(8);
    last.out(9);
    Due.is("the last two, out", last.ask(0, 2, 0, 0), 89);
    // Ten BOOKS, 625 ROWS. 0 is ahead of 1, 2, 3 if s >= t, by 375; of 4 if 4s - 4t >= 9u, by 5 * (25 + 22 + 15 + 3).
    WantShelves full = Due.told(Samples.full(""));
    Due.is("all that can be", full.ask(0, 2, 0, 0), 4);
    Due.is("all that can be: left", full.ask(0, 2, 1, 0), 325);
    // Two BOOKS behind ten: nothing of the ten is asked for.
    Due.feed(full, "topic x;book a x 1;book b;reader p odds 0;law 0-number*9;");
    full.library();
    Due.is("two behind ten", full.ask(0, 2, 0, 0), 1);
    Due.is("two behind ten: left", full.ask(0, 2, 1, 0), 5);
  }
}
