import java.util.function.ToLongFunction;

/** The promises one by one: what each says of arguments that can't be, of nothing, of what is full, and of what then stays. */
public final class CallBoundaryTests {
  private static final int NONE = WantShelves.NONE;
  private static final int GAP = WantShelves.GAP;
  private static final int LEAST = Integer.MIN_VALUE;
  private static final int GREATEST = Integer.MAX_VALUE;
  /** Numbers that are no READER, BOOK, TOPIC of Samples.TWO, nor anything near. */
  private static final int[] FAR = {LEAST, -1000000, -64, -10, -3, 10, 32, 64, 1024, 65536, 1 << 30, GREATEST};

  public static void main(String[] args) {
    p1NewObject();
    p2Feed();
    p3End();
    p4Library();
    p4LibraryWithAFault();
    p5Fault();
    p6Weight();
    p7Wants();
    p8Reader();
    p9Key();
    p10Place();
    p11Book();
    p12Steps();
    p13Comes();
    p14Mood();
    p15Out();
    p16Read();
    p17Undo();
    p18Redo();
    p19Unlike();
    p20Send();
    p21Think();
    p22Errand();
    p23Leads();
    p24Hide();
    p25Pretend();
    p26Rest();
    p27Left();
    p28Hush();
    p29Was();
    p30One();
    p31Crowd();
    p32Lies();
    p33Look();
    p34Untell();
    p35Later();
    p36Fit();
    p37Sure();
    p38Ask();
    p39Image();
    p40Back();
    p41About();
    Due.close();
  }

  /** Something of everything: ACTS done and taken back, BOXES, LOOKS, BOOKS left, what lies there, bytes on the TAPE. */
  private static WantShelves busy() {
    WantShelves x = Due.told(Samples.TWO);
    x.later(1);
    x.look(0, 0, 1);
    x.later(1);
    x.look(1, 0, 2);
    x.later(1);
    x.untell(0);
    x.comes(0);
    x.image(0);
    x.mood(1, 1);
    x.out(2);
    x.read(0, 0);
    x.read(1, 1);
    x.image(2);
    x.comes(1);
    x.undo();
    x.undo();
    x.left(0);
    x.one();
    Due.feed(x, "topic q;book r q 7;;");
    return x;
  }

  /** As busy, with nothing lying there. */
  private static WantShelves busyBare() {
    WantShelves x = busy();
    x.unlike(0, 0);
    return x;
  }

  private static void same(String call, WantShelves x, WantShelves other) {
    String got = Portrait.of(x);
    String want = Portrait.of(other);
    Due.is(call + " leaves all as it was", got.equals(want), true);
    if (got.equals(want)) return;
    String[] gots = got.split("\n");
    String[] wants = want.split("\n");
    for (int i = 0; i < Math.min(gots.length, wants.length); i++) {
      if (!gots[i].equals(wants[i])) {
        System.out.println("  row " + i + " has " + gots[i] + ", due is " + wants[i]);
        return;
      }
    }
  }

  private static void sameButFault(String call, WantShelves x, WantShelves other) {
    String first = "fault: .*\n";
    Due.is(call + " leaves all as it was", Portrait.of(x).replaceFirst(first, "").equals(Portrait.of(other).replaceFirst(first, "")), true);
  }

  /** A call that answers so, and after which all stays. */
  private static void refused(String call, ToLongFunction<WantShelves> of, long due) {
    WantShelves x = busy();
    Due.is(call, of.applyAsLong(x), due);
    same(call, x, busy());
  }

  /** A call that answers so, behind which nothing lies there, and all else stays. */
  private static void refusedBare(String call, ToLongFunction<WantShelves> of, long due) {
    WantShelves x = busy();
    Due.is(call, of.applyAsLong(x), due);
    Due.is(call + ": what lies there", x.about(13), 0);
    Due.is(call + ": lies(0)", x.lies(0), GAP);
    same(call, x, busyBare());
  }

  private static void p1NewObject() {
    WantShelves x = new WantShelves();
    Due.is("new: weight", x.weight(0, 0), NONE);
    Due.is("new: wants", x.wants(0, 0), GAP);
    Due.is("new: reader", x.reader(0, 0), -2);
    Due.is("new: key", x.key(0, 0), GAP);
    Due.is("new: place", x.place(0, 0), NONE);
    Due.is("new: book", x.book(0, 0), NONE);
    Due.is("new: steps", x.steps(0), NONE);
    Due.is("new: comes", x.comes(0), NONE);
    Due.is("new: mood", x.mood(0, NONE), -2);
    Due.is("new: out", x.out(0), NONE);
    Due.is("new: read", x.read(0, 0), NONE);
    Due.is("new: unlike", x.unlike(0, 0), NONE);
    Due.is("new: send", x.send(0, 0), NONE);
    Due.is("new: think", x.think(0, 0, 0), -2);
    Due.is("new: errand", x.errand(0, 1), NONE);
    Due.is("new: leads", x.leads(0, 1), NONE);
    Due.is("new: hide", x.hide(0, 0, 0, 1), NONE);
    Due.is("new: pretend", x.pretend(0, 1, 1), NONE);
    Due.is("new: rest", x.rest(0, 1, 1), -2);
    Due.is("new: left", x.left(0), NONE);
    Due.is("new: hush", x.hush(), 0);
    Due.is("new: crowd", x.crowd(0, 1, 0), NONE);
    Due.is("new: lies", x.lies(0), GAP);
    Due.is("new: look", x.look(0, 0, 1), NONE);
    Due.is("new: untell", x.untell(0), false);
    Due.is("new: fit", x.fit(0, 1, 0), NONE);
    Due.is("new: sure", x.sure(0, 0, true, 1, 0), GAP);
    Due.is("new: ask", x.ask(0, 1, 0, 0), NONE);
    Due.is("new: back", x.back(0), NONE);
    Due.is("new: image", x.image(0), 0);
    Due.is("new: back to it", x.back(0), 0);
    Due.is("new: end(0)", x.end(0), 0);
    same("nothing that can't be", x, imaged());
  }

  private static WantShelves imaged() {
    WantShelves x = new WantShelves();
    x.image(0);
    return x;
  }

  // "how many there are; NONE, and nothing comes, if there would be more than 1,600".
  private static void p2Feed() {
    WantShelves x = new WantShelves();
    for (int i = 1; i < 80; i++) Due.is("feed " + i, x.feed(0x20202020, 0x20202020, 0x0A0A0A0A, 0x20202020, 0x20202020), 20 * i);
    // "book", " a;b", "ook ", "b;bo", "ok c": the highest byte of each number first.
    Due.is("feed 80", x.feed(0x626F6F6B, 0x20613B62, 0x6F6F6B20, 0x623B626F, 0x6F6B2063), 1600);
    Due.is("feed 81", x.feed(0x3B202020, 0x20202020, 0x20202020, 0x20202020, 0x20202020), NONE);
    Due.is("still full", x.about(11), 1600);
    Due.is("nothing came: the last line is open", x.library(), NONE);
    Due.is("nothing came: fault(1)", x.fault(1), 1600);
    WantShelves y = new WantShelves();
    for (int i = 1; i <= 80; i++) y.feed(0x20202020, 0x20202020, 0x20202020, 0x20202020, 0x20202020);
    for (int n = 1600; n > 1580; n--) {
      y.end(n);
      Due.is("feed at " + n, y.feed(LEAST, GREATEST, -1, 0, 1), NONE);
      Due.is("bytes at " + n, y.about(11), n);
    }
    y.end(1580);
    Due.is("feed at 1580", y.feed(LEAST, GREATEST, -1, 0, 1), 1600);
    Due.is("a byte of 128 is no token", y.library(), NONE);
    Due.is("a byte of 128: fault(0)", y.fault(0), 1);
    Due.is("a byte of 128: fault(1)", y.fault(1), 1580);
    WantShelves full = busy();
    full.end(0);
    for (int i = 0; i < 80; i++) full.feed(0, 0, 0, 0, 0);
    WantShelves fed = busy();
    fed.end(0);
    for (int i = 0; i < 80; i++) fed.feed(0, 0, 0, 0, 0);
    Due.is("feed when full", fed.feed(1, 2, 3, 4, 5), NONE);
    same("feed when full", fed, full);
  }

  // "n; NONE, doing nothing, if it has not so many, or n is below 0".
  private static void p3End() {
    refused("end(21)", x -> x.end(21), NONE);
    refused("end(-1)", x -> x.end(-1), NONE);
    for (int n : FAR) if (n < 0 || n > 20) refused("end(" + n + ")", x -> x.end(n), NONE);
    refused("end(20)", x -> x.end(20), 20);
    WantShelves x = busy();
    Due.is("end(19)", x.end(19), 19);
    Due.is("end(20) then", x.end(20), NONE);
    Due.is("end(19) again", x.end(19), 19);
    Due.is("the first 19 are a library", x.library(), 1);
    Due.is("its weight", x.weight(0, 0), 7);
    WantShelves y = busy();
    Due.is("end(0)", y.end(0), 0);
    Due.is("end(1) then", y.end(1), NONE);
    Due.is("bytes then", y.about(11), 0);
    Due.is("an empty library", y.library(), 0);
  }

  // "(all as told, no ACTS are kept, nothing is LEFT, LOOKS are none, nothing lies there, BOXES are empty then; the TIME stays)".
  private static void p4Library() {
    WantShelves x = busy();
    x.end(0);
    Due.feed(x, Samples.TWO);
    Due.is("library() again", x.library(), 3);
    WantShelves y = Due.told(Samples.TWO);
    y.later(3);
    same("library() again", x, y);
    WantShelves empty = busy();
    empty.end(0);
    Due.is("library() of nothing", empty.library(), 0);
    for (int what = 0; what < 15; what++) Due.is("library() of nothing: about(" + what + ")", empty.about(what), what == 10 ? 3 : 0);
    for (int box = 0; box < 3; box++) Due.is("library() of nothing: back(" + box + ")", empty.back(box), NONE);
    Due.is("library() of nothing: undo()", empty.undo(), false);
    Due.is("library() of nothing: redo()", empty.redo(), false);
    // A smaller one behind a full one: nothing of that is left.
    WantShelves small = Due.told(Samples.full("law want+1;bend old+1;quarrel turns;shelf 1;mood 9;"));
    for (int r = 0; r < 6; r++) small.comes(r);
    for (int b = 0; b < 10; b++) small.out(b);
    for (int r = 0; r < 6; r++) small.mood(r, 3);
    for (int b = 0; b < 10; b++) small.read(5, b);
    Due.feed(small, "topic x;book a x 1;book b;reader p odds 1;");
    Due.is("a smaller one", small.library(), 2);
    same("a smaller one", small, Due.told("topic x;book a x 1;book b;reader p odds 1;"));
    // And a greater one behind that has nothing of the first one either.
    WantShelves great = Due.told(Samples.full("law want+1;"));
    great.read(5, 9);
    great.mood(5, 3);
    great.library();
    Due.feed(great, Samples.full(""));
    Due.is("a full one again", great.library(), 10);
    Due.is("its reads", great.about(5), 0);
    Due.is("its mood", great.reader(5, 1), NONE);
    Due.is("its law", great.key(0, 9), 0);
    Due.is("its units", great.about(12), 0);
  }

  // "NONE: a FAULT (all stays)"; the TAPE is empty then, too.
  private static void p4LibraryWithAFault() {
    String[] texts = {"$", "topic", "topic x;topic x;", "shelf 0;", "book a x 1;", Samples.full("") + "topic q;",
      Samples.TWO + "law 1;bend 1;", "law want*9;quarrel turns;shelf 9;mood 9;bend 1;book a;reader p odds 9;topic z;?"};
    for (String text : texts) {
      WantShelves x = busy();
      x.end(0);
      Due.feed(x, text);
      Due.is("library() of " + text, x.library(), NONE);
      Due.is("bytes then", x.about(11), 0);
      WantShelves y = busy();
      y.end(0);
      sameButFault("library() of " + text, x, y);
    }
    nothingOfAFaultyText();
  }

  /** What a text told ahead of its FAULT is not told by the next one, nor what the LIBRARY before the latest one told. */
  private static void nothingOfAFaultyText() {
    String much = Samples.full("reader z odds 7;").replace("wants", "ought").replace("-", "");
    String bare = "topic s;topic t;topic u;topic v;" + Samples.books(10) + "reader p odds 1;reader q odds 1;law want+ought*100;";
    String[] texts = {much, Samples.full("law 9;bend 0-9;quarrel most;shelf 1;mood 9;?"), Samples.full("law 9;bend 0-9;quarrel most;shelf 1;mood 9;"),
      "topic s;book a s 9;reader p odds 9 wants s 9 ought s 9;law 1;bend 1;quarrel least;shelf 9;mood 0;",
      "law not 1;bend not 1;", "law not(want+ought*100)+1-2*3;bend not(old+1)"};
    for (String text : texts) {
      WantShelves x = new WantShelves();
      Due.feed(x, text);
      x.library();
      x.library();
      Due.feed(x, bare);
      Due.is("a bare one behind another", x.library(), 10);
      for (int t = 0; t < 4; t++) {
        for (int b = 0; b < 10; b++) Due.is("its weight " + b + " " + t, x.weight(b, t), 0);
        for (int r = 0; r < 2; r++) Due.is("its want " + r + " " + t, x.wants(r, t), 0);
      }
      Due.is("its odds", x.reader(0, 0), 1);
      Due.is("its quarrel", x.about(14), 0);
      Due.is("its units", x.about(12), 3);
      Due.is("its shelf", x.steps(9), 12);
      x.read(0, 0);
      Due.is("its bend", x.wants(0, 0), 0);
      String weighed = "topic s;book a s 1;reader p odds 1 wants s 1;";
      Due.feed(x, text);
      x.library();
      x.library();
      Due.feed(x, weighed);
      Due.is("a weighed one behind another", x.library(), 1);
      Due.is("its law", x.key(0, 0), 1);
      x.mood(0, 0);
      Due.is("its mood", x.key(0, 0), 4);
      Due.feed(x, text);
      x.library();
      x.library();
      Due.feed(x, weighed.replace(" wants s 1", "") + "law ought;");
      x.library();
      Due.is("its ought", x.key(0, 0), 0);
    }
  }

  // "Of the latest library() what 0: its FAULT (0), 1: its place (NONE). NONE for another what."
  private static void p5Fault() {
    WantShelves x = new WantShelves();
    Due.is("before any: fault(0)", x.fault(0), 0);
    Due.is("before any: fault(1)", x.fault(1), NONE);
    for (int what : new int[] {LEAST, -2, -1, 2, 3, GREATEST}) Due.is("before any: fault(" + what + ")", x.fault(what), NONE);
    Due.feed(x, "topic x;book a x 10;");
    x.library();
    Due.is("a fault: fault(0)", x.fault(0), 4);
    Due.is("a fault: fault(1)", x.fault(1), 17);
    for (int what : new int[] {LEAST, -2, -1, 2, 3, GREATEST}) Due.is("a fault: fault(" + what + ")", x.fault(what), NONE);
    x.feed(0, 0, 0, 0, 0);
    x.end(0);
    Due.is("what is fed later leaves it", x.fault(0), 4);
    Due.feed(x, "$");
    x.library();
    Due.is("the latest: fault(0)", x.fault(0), 1);
    Due.is("the latest: fault(1)", x.fault(1), 0);
    x.library();
    Due.is("a sound one: fault(0)", x.fault(0), 0);
    Due.is("a sound one: fault(1)", x.fault(1), NONE);
  }

  private static int[] and(int... near) {
    int[] all = java.util.Arrays.copyOf(FAR, FAR.length + near.length);
    System.arraycopy(near, 0, all, FAR.length, near.length);
    return all;
  }

  // "NONE if one can't be".
  private static void p6Weight() {
    WantShelves x = Due.told(Samples.TWO);
    for (int b : and(-1, 3)) Due.is("weight(" + b + ", 0)", x.weight(b, 0), NONE);
    for (int t : and(-1, 2, 3)) Due.is("weight(0, " + t + ")", x.weight(0, t), NONE);
    Due.is("weight(2, 1)", x.weight(2, 1), 1);
    Due.is("weight(0, 0)", x.weight(0, 0), 3);
    WantShelves full = Due.told(Samples.full(""));
    Due.is("the last of the last", full.weight(9, 3), 0);
    Due.is("the last but one", full.weight(9, 1), 9);
    Due.is("one more book", full.weight(10, 0), NONE);
    Due.is("one more topic", full.weight(0, 4), NONE);
  }

  // "GAP if one can't be"; "(without MOOD)".
  private static void p7Wants() {
    WantShelves x = Due.told(Samples.TWO);
    for (int r : and(-1, 2)) Due.is("wants(" + r + ", 0)", x.wants(r, 0), GAP);
    for (int t : and(-1, 2, 3)) Due.is("wants(0, " + t + ")", x.wants(0, t), GAP);
    x.mood(1, 1);
    Due.is("wants(1, 1) with a mood", x.wants(1, 1), 3);
    WantShelves full = Due.told(Samples.full(""));
    Due.is("the last reader", full.wants(5, 1), -1);
    Due.is("one more reader", full.wants(6, 0), GAP);
    Due.is("one more topic", full.wants(0, 4), GAP);
  }

  // "-2 if there is none such, or for another what".
  private static void p8Reader() {
    WantShelves x = busy();
    for (int r : and(-1, 2)) for (int what = 0; what < 4; what++) Due.is("reader(" + r + ", " + what + ")", x.reader(r, what), -2);
    for (int what : and(-1, 4)) Due.is("reader(0, " + what + ")", x.reader(0, what), -2);
    Due.is("one who is in", x.reader(0, 2), 1);
    Due.is("one who is not", x.reader(1, 2), 0);
    x.comes(0);
    x.comes(1);
    Due.is("one who went", x.reader(0, 2), 0);
    Due.is("one who came", x.reader(1, 2), 1);
    Due.is("no mood is NONE", x.reader(0, 1), NONE);
    Due.is("a mood of the last topic", x.reader(1, 1), 1);
    Due.is("one more reader", Due.told(Samples.full("")).reader(6, 0), -2);
    Due.is("the last reader", Due.told(Samples.full("")).reader(5, 0), 99);
  }

  // "GAP if one can't be".
  private static void p9Key() {
    WantShelves x = Due.told(Samples.TWO);
    for (int r : and(-1, 2)) Due.is("key(" + r + ", 0)", x.key(r, 0), GAP);
    for (int b : and(-1, 3)) Due.is("key(0, " + b + ")", x.key(0, b), GAP);
    x.out(2);
    Due.is("key of one that is out", x.key(1, 2), 3);
    Due.is("a key that is GAP", Due.told("book a;reader p odds 0;law 0-1000*1000;").key(0, 0), -1000000);
  }

  // "NONE if one can't be, or it is OUT".
  private static void p10Place() {
    WantShelves x = Due.told(Samples.TWO);
    for (int p : and(-1, 4, 5)) Due.is("place(" + p + ", 0)", x.place(p, 0), NONE);
    for (int b : and(-1, 3)) Due.is("place(3, " + b + ")", x.place(3, b), NONE);
    x.out(1);
    for (int p = 0; p < 4; p++) Due.is("place(" + p + ", 1), out", x.place(p, 1), NONE);
    x.out(1);
    Due.is("it is back", x.place(2, 1), 0);
    WantShelves full = Due.told(Samples.full(""));
    Due.is("all readers", full.place(63, 9) >= 0, true);
    Due.is("one more reader", full.place(64, 0), NONE);
    Due.is("the last place", full.place(1, 9), 9);
    Due.is("no readers: a party of one", Due.told("book a;").place(1, 0), NONE);
    Due.is("no readers: nobody", Due.told("book a;").place(0, 0), 0);
  }

  // "NONE if there is none, or one can't be".
  private static void p11Book() {
    WantShelves x = Due.told(Samples.TWO);
    for (int p : and(-1, 4, 5)) Due.is("book(" + p + ", 0)", x.book(p, 0), NONE);
    for (int p : and(-1, 3)) Due.is("book(3, " + p + ")", x.book(3, p), NONE);
    x.out(0);
    Due.is("the last place with one out", x.book(1, 1), 1);
    Due.is("no place more", x.book(1, 2), NONE);
    WantShelves full = Due.told(Samples.full(""));
    Due.is("the last place", full.book(0, 9), 9);
    Due.is("behind the last place", full.book(0, 10), NONE);
    Due.is("one more reader", full.book(64, 0), NONE);
  }

  // "NONE if there is none such, or it is OUT".
  private static void p12Steps() {
    WantShelves x = busy();
    for (int b : and(-1, 3)) Due.is("steps(" + b + ")", x.steps(b), NONE);
    Due.is("steps(2), out", x.steps(2), NONE);
    Due.is("steps(0)", x.steps(0), 1);
    x.out(2);
    Due.is("steps(2), back", x.steps(2), 2);
    WantShelves nobody = Due.told(Samples.books(10));
    Due.is("nobody in: the last", nobody.steps(9), 12);
    Due.is("nobody in: one more", nobody.steps(10), NONE);
  }

  // "NONE, doing nothing, if there is none such".
  private static void p13Comes() {
    for (int r : and(-1, 2)) refused("comes(" + r + ")", x -> x.comes(r), NONE);
    WantShelves full = Due.told(Samples.full(""));
    Due.is("the last reader", full.comes(5), 1);
    Due.is("one more", full.comes(6), NONE);
    Due.is("who is in", full.about(3), 32);
    Due.is("the last reader goes", full.comes(5), 0);
    Due.is("who is in then", full.about(3), 0);
    for (int r = 0; r < 6; r++) full.comes(r);
    Due.is("all are in", full.about(3), 63);
  }

  // "the TOPIC that it was for (NONE); -2, doing nothing, if one can't be".
  private static void p14Mood() {
    for (int r : and(-1, 2)) refused("mood(" + r + ", 0)", x -> x.mood(r, 0), -2);
    refused("mood(2, NONE)", x -> x.mood(2, NONE), -2);
    for (int t : and(-2, 2, 3, 4)) refused("mood(0, " + t + ")", x -> x.mood(0, t), -2);
    WantShelves full = Due.told(Samples.full(""));
    Due.is("the last topic", full.mood(5, 3), NONE);
    Due.is("one more topic", full.mood(5, 4), -2);
    Due.is("none again", full.mood(5, NONE), 3);
    Due.is("none, from none", full.mood(5, NONE), NONE);
    Due.is("acts", full.about(6), 3);
    WantShelves bare = Due.told("book a;reader p odds 0;");
    Due.is("no topics: 0", bare.mood(0, 0), -2);
    Due.is("no topics: none", bare.mood(0, NONE), NONE);
  }

  // "1 if it is OUT then, else 0; NONE, doing nothing, if there is none such".
  private static void p15Out() {
    for (int b : and(-1, 3)) refused("out(" + b + ")", x -> x.out(b), NONE);
    WantShelves full = Due.told(Samples.full(""));
    for (int b = 0; b < 10; b++) Due.is("out(" + b + ")", full.out(b), 1);
    Due.is("out(10)", full.out(10), NONE);
    Due.is("all are out", full.about(4), 1023);
    for (int b = 0; b < 10; b++) Due.is("out(" + b + ") again", full.out(b), 0);
    Due.is("none is out", full.about(4), 0);
  }

  // "A READER reads a BOOK (OUT or not) .. NONE, doing nothing, if one can't be, or he did 99 times".
  private static void p16Read() {
    for (int r : and(-1, 2)) refused("read(" + r + ", 0)", x -> x.read(r, 0), NONE);
    for (int b : and(-1, 3)) refused("read(0, " + b + ")", x -> x.read(0, b), NONE);
    WantShelves x = Due.told(Samples.full("bend old-1;"));
    x.out(9);
    for (int i = 1; i <= 99; i++) Due.is("reading " + i, x.read(5, 9), i);
    x.undo();
    Due.is("one taken back: again", x.read(5, 9), 99);
    x.undo();
    x.redo();
    x.comes(0);
    x.undo();
    Due.is("99 times", x.read(5, 9), NONE);
    Due.is("it is no act: redone", x.about(7), 1);
    Due.is("it is no act: undone", x.about(6), 39);
    Due.is("nothing is done: how often", x.reader(5, 3), 99);
    Due.is("nothing is done: redo()", x.redo(), true);
    Due.is("another book", x.read(5, 8), 1);
    Due.is("another reader", x.read(4, 9), 1);
    Due.is("how often there was reading", x.about(5), 101);
    WantShelves y = Due.told("topic x;book a;reader p odds 0 wants x 9;bend old-(reads>98);");
    for (int i = 0; i < 99; i++) y.read(0, 0);
    Due.is("bent by the 99th reading", y.wants(0, 0), 8);
    y.read(0, 0);
    Due.is("and not by one more", y.wants(0, 0), 8);
  }

  // "true; false if there is none".
  private static void p17Undo() {
    WantShelves x = Due.told(Samples.TWO);
    Due.is("no act", x.undo(), false);
    same("undo() of none", x, Due.told(Samples.TWO));
    WantShelves y = busy();
    for (int i = 0; i < 4; i++) Due.is("undo " + i, y.undo(), true);
    Due.is("undo 4", y.undo(), false);
    Due.is("still 6 to redo", y.about(7), 6);
    WantShelves z = busy();
    z.back(2);
    Due.is("behind back()", z.undo(), false);
  }

  private static void p18Redo() {
    WantShelves x = Due.told(Samples.TWO);
    x.comes(0);
    Due.is("nothing was taken back", x.redo(), false);
    WantShelves like = Due.told(Samples.TWO);
    like.comes(0);
    same("redo() of none", x, like);
    WantShelves y = busy();
    Due.is("redo 0", y.redo(), true);
    Due.is("redo 1", y.redo(), true);
    Due.is("redo 2", y.redo(), false);
    Due.is("6 to undo", y.about(6), 6);
    WantShelves z = busy();
    z.back(2);
    Due.is("behind back()", z.redo(), false);
  }

  // "NONE if one can't be. .. (behind 0, NONE: nothing)".
  private static void p19Unlike() {
    for (int r : and(-1, 2)) {
      refusedBare("unlike(" + r + ", 0)", x -> x.unlike(r, 0), NONE);
      refusedBare("unlike(0, " + r + ")", x -> x.unlike(0, r), NONE);
    }
    refusedBare("unlike(2, 2)", x -> x.unlike(2, 2), NONE);
    refusedBare("unlike(0, 0)", x -> x.unlike(0, 0), 0);
    WantShelves x = Due.told(Samples.TWO);
    x.unlike(1, 0);
    Due.lies("unlike(1, 0)", x, 0, 1);
  }

  // "NONE if one can't be, the BOOK is OUT, or there are no READERS".
  private static void p20Send() {
    for (int b : and(-1, 3)) refused("send(" + b + ", 0)", x -> x.send(b, 0), NONE);
    for (int what : and(-1, 2)) refused("send(0, " + what + ")", x -> x.send(0, what), NONE);
    refused("send(2, 0), out", x -> x.send(2, 0), NONE);
    refused("send(2, 1), out", x -> x.send(2, 1), NONE);
    refused("send(1, 0)", x -> x.send(1, 0), 1);
    Due.is("no readers: steps", Due.told("book a;").send(0, 0), NONE);
    Due.is("no readers: who", Due.told("book a;").send(0, 1), NONE);
    Due.is("one reader", Due.told("book a;reader p odds 0;").send(0, 1), 1);
    WantShelves full = Due.told(Samples.full(""));
    Due.is("the last book", full.send(9, 0), 1);
    Due.is("one more", full.send(10, 0), NONE);
  }

  // "-2 if one can't be, or the BOOK is OUT".
  private static void p21Think() {
    for (int r : and(-1, 2)) refused("think(" + r + ", 0, 0)", x -> x.think(r, 0, 0), -2);
    for (int b : and(-1, 3)) refused("think(0, " + b + ", 0)", x -> x.think(0, b, 0), -2);
    for (int what : and(-1, 2)) refused("think(0, 0, " + what + ")", x -> x.think(0, 0, what), -2);
    refused("think(0, 2, 0), out", x -> x.think(0, 2, 0), -2);
    refused("think(0, 2, 1), out", x -> x.think(0, 2, 1), -2);
    refused("think(1, 1, 1)", x -> x.think(1, 1, 1), NONE);
    refused("think(0, 1, 1)", x -> x.think(0, 1, 1), NONE);
  }

  // "(0 for no BOOKS); NONE if one can't be, one is OUT, or there are no READERS".
  private static void p22Errand() {
    for (int set : new int[] {LEAST, -8, -1, 8, 9, 16, 1024, 65536, 1 << 30, GREATEST}) {
      refused("errand(" + set + ", 1)", x -> x.errand(set, 1), NONE);
    }
    for (int k : new int[] {LEAST, -1, 0, 4, 5, GREATEST}) {
      refused("errand(1, " + k + ")", x -> x.errand(1, k), NONE);
      refused("errand(0, " + k + ")", x -> x.errand(0, k), NONE);
    }
    refused("errand(4, 1), out", x -> x.errand(4, 1), NONE);
    refused("errand(7, 3), one out", x -> x.errand(7, 3), NONE);
    refused("errand(3, 3)", x -> x.errand(3, 3), 4);
    refused("errand(0, 3)", x -> x.errand(0, 3), 0);
    Due.is("all bits, none out", Due.told(Samples.TWO).errand(-1, 1), NONE);
    Due.is("the highest bit, none out", Due.told(Samples.TWO).errand(LEAST, 1), NONE);
    Due.is("the highest bit and a book", Due.told(Samples.TWO).errand(LEAST + 1, 1), NONE);
    Due.is("no readers", Due.told("book a;").errand(1, 1), NONE);
    Due.is("no readers, no books", Due.told("book a;").errand(0, 1), NONE);
  }

  // "NONE if one can't be, or all BOOKS are OUT".
  private static void p23Leads() {
    for (int r : and(-1, 2)) refused("leads(" + r + ", 1)", x -> x.leads(r, 1), NONE);
    for (int n : new int[] {LEAST, -1, 0, 61, 62, GREATEST}) refused("leads(0, " + n + ")", x -> x.leads(0, n), NONE);
    refused("leads(0, 60)", x -> x.leads(0, 60), 0);
    refused("leads(1, 1)", x -> x.leads(1, 1), 1);
    WantShelves x = Due.told(Samples.TWO);
    x.out(0);
    x.out(2);
    Due.is("one is left", x.leads(0, 60), 1);
    x.out(1);
    Due.is("all are out", x.leads(0, 1), NONE);
    Due.is("no books", Due.told("reader p odds 0;").leads(0, 1), NONE);
  }

  // "NONE if there is no such ROW, one can't be, or the BOOK is OUT. .. (behind NONE: nothing)".
  private static void p24Hide() {
    for (int r : and(-1, 2)) refusedBare("hide(" + r + ", 0, 0, 1)", x -> x.hide(r, 0, 0, 1), NONE);
    for (int b : and(-1, 3)) refusedBare("hide(0, " + b + ", 0, 1)", x -> x.hide(0, b, 0, 1), NONE);
    for (int p : new int[] {LEAST, -1, 10, 11, GREATEST}) refusedBare("hide(0, 0, " + p + ", 1)", x -> x.hide(0, 0, p, 1), NONE);
    for (int m : new int[] {LEAST, -2, -1, 0, 3, 4, GREATEST}) refusedBare("hide(0, 0, 0, " + m + ")", x -> x.hide(0, 0, 0, m), NONE);
    refusedBare("hide(0, 2, 9, 2), out", x -> x.hide(0, 2, 9, 2), NONE);
    WantShelves x = busy();
    // Of a and b alone: a is first if 3x >= 2y, by 5 of 9 ROWS.
    Due.is("hide(0, 0, 0, 1)", x.hide(0, 0, 0, 1), 5);
    Due.lies("hide(0, 0, 0, 1)", x, 0, -1);
    x.unlike(0, 0);
    same("hide(0, 0, 0, 1)", x, busyBare());
    Due.is("no such row", Due.told("book a;book b;reader p odds 0;").hide(0, 1, 0, 2), NONE);
  }

  // "NONE if one can't be (the same one, too), or all BOOKS are OUT. .. (behind 0, NONE: nothing)".
  private static void p25Pretend() {
    for (int r : and(-1, 2)) {
      refusedBare("pretend(" + r + ", 0, 1)", x -> x.pretend(r, 0, 1), NONE);
      refusedBare("pretend(0, " + r + ", 1)", x -> x.pretend(0, r, 1), NONE);
    }
    for (int m : new int[] {LEAST, -2, -1, 0, 3, 4, GREATEST}) refusedBare("pretend(0, 1, " + m + ")", x -> x.pretend(0, 1, m), NONE);
    refusedBare("pretend(0, 0, 1)", x -> x.pretend(0, 0, 1), NONE);
    refusedBare("pretend(1, 1, 2)", x -> x.pretend(1, 1, 2), NONE);
    WantShelves out = Due.told(Samples.TWO);
    out.one();
    for (int b = 0; b < 3; b++) out.out(b);
    Due.is("all are out", out.pretend(0, 1, 1), NONE);
    Due.lies("all are out", out);
    WantShelves x = Due.told(Samples.TWO);
    Due.is("pretend(1, 0, 2)", x.pretend(1, 0, 2), 1);
    Due.lies("pretend(1, 0, 2)", x, -2, 2);
    x.unlike(0, 0);
    same("pretend(1, 0, 2)", x, Due.told(Samples.TWO));
    Due.is("no books", Due.told("reader p odds 0;reader q odds 0;").pretend(0, 1, 1), NONE);
  }

  // "-2 if one can't be (the same one, too), or all BOOKS are OUT. .. (behind NONE, -2: nothing)".
  private static void p26Rest() {
    for (int r : and(-1, 2)) {
      refusedBare("rest(" + r + ", 0, 1)", x -> x.rest(r, 0, 1), -2);
      refusedBare("rest(0, " + r + ", 1)", x -> x.rest(0, r, 1), -2);
    }
    for (int m : new int[] {LEAST, -2, -1, 0, 3, 4, GREATEST}) refusedBare("rest(0, 1, " + m + ")", x -> x.rest(0, 1, m), -2);
    refusedBare("rest(0, 0, 1)", x -> x.rest(0, 0, 1), -2);
    refusedBare("rest(1, 1, 2)", x -> x.rest(1, 1, 2), -2);
    WantShelves out = Due.told(Samples.TWO);
    out.one();
    for (int b = 0; b < 3; b++) out.out(b);
    Due.is("all are out", out.rest(0, 1, 1), -2);
    Due.lies("all are out", out);
    WantShelves x = Due.told(Samples.TWO);
    Due.is("rest(0, 1, 2)", x.rest(0, 1, 2), 3);
    Due.lies("rest(0, 1, 2)", x, 2, -2, -2, 2);
    x.unlike(0, 0);
    same("rest(0, 1, 2)", x, Due.told(Samples.TWO));
    Due.is("no books", Due.told("reader p odds 0;reader q odds 0;").rest(0, 1, 1), -2);
  }

  // "NONE, doing nothing, if there is none such, it is OUT, or it is there already".
  private static void p27Left() {
    for (int b : and(-1, 3)) refused("left(" + b + ")", x -> x.left(b), NONE);
    refused("left(2), out", x -> x.left(2), NONE);
    refused("left(0), there already", x -> x.left(0), NONE);
    WantShelves x = busy();
    Due.is("left(1)", x.left(1), 2);
    Due.is("left(1) again", x.left(1), NONE);
    Due.is("left(0) still there", x.left(0), NONE);
    x.out(2);
    Due.is("left(2), back", x.left(2), 3);
    Due.is("all are left", x.about(9), 3);
    x.undo();
    Due.is("undo() does not take it", x.about(9), 3);
    x.back(0);
    Due.is("back() does not take it", x.about(9), 3);
  }

  private static void p28Hush() {
    WantShelves x = busy();
    Due.is("one was left", x.hush(), 1);
    Due.is("none was left", x.hush(), 0);
    Due.is("none is left", x.about(9), 0);
    Due.is("left(0) anew", x.left(0), 1);
    WantShelves full = Due.told(Samples.books(10));
    for (int b = 9; b >= 0; b--) full.left(b);
    Due.is("ten were left", full.hush(), 10);
    for (int b = 0; b < 10; b++) Due.is("left(" + b + ") anew", full.left(b), b + 1);
  }

  // "(0 without PARTIES); NONE for another what".
  private static void p29Was() {
    for (int what : and(-1, 3)) refused("was(" + what + ")", x -> x.was(what), NONE);
    WantShelves x = Due.told(Samples.TWO);
    x.left(2);
    for (int what = 0; what < 3; what++) Due.is("no party: was(" + what + ")", x.was(what), 0);
    x.hush();
    x.left(0);
    x.left(1);
    // By number, nobody and both together.
    Due.is("nobody and both: how many", x.was(0), 2);
    Due.is("nobody and both: in all", x.was(1), 0);
    Due.is("nobody and both: in some", x.was(2), 3);
    x.hush();
    x.left(0);
    x.left(2);
    Due.is("p alone: in all", x.was(1), 1);
    x.out(2);
    for (int what = 0; what < 3; what++) Due.is("one went out: was(" + what + ")", x.was(what), 0);
    x.out(2);
    Due.is("and came back", x.was(1), 1);
    x.left(1);
    Due.is("all are left", x.was(0), 1);
    x.out(1);
    Due.is("more are left than stand there", x.was(0), 0);
    x.out(0);
    x.out(2);
    Due.is("none stands there", x.was(0), 0);
    x.hush();
    Due.is("none stands there, none is left", x.was(0), 4);
  }

  private static void p30One() {
    WantShelves x = new WantShelves();
    Due.is("no books", x.one(), 0);
    Due.lies("no books", x);
    WantShelves y = busy();
    y.out(0);
    y.out(1);
    Due.is("all are out", y.one(), 0);
    Due.lies("all are out", y);
    WantShelves z = busyBare();
    Due.is("a and b", z.one(), 50 + 20 * 2);
    Due.lies("a and b", z, 0, 1);
    same("one()", z, busy());
  }

  // "NONE if one can't be, or the BOOK is OUT (s is any number)".
  private static void p31Crowd() {
    for (int b : and(-1, 3)) refused("crowd(" + b + ", 5, 0)", x -> x.crowd(b, 5, 0), NONE);
    for (int part : and(-1, 2)) refused("crowd(0, 5, " + part + ")", x -> x.crowd(0, 5, part), NONE);
    refused("crowd(2, 5, 0), out", x -> x.crowd(2, 5, 0), NONE);
    refused("crowd(2, 5, 1), out", x -> x.crowd(2, 5, 1), NONE);
    refused("crowd(0, 0, 0)", x -> x.crowd(0, 0, 0), 0);
    refused("crowd(0, 0, 1)", x -> x.crowd(0, 0, 1), 1);
    for (int s : FAR) {
      refused("crowd(0, " + s + ", 0)", x -> x.crowd(0, s, 0), s < 1 ? 0 : 1);
      refused("crowd(0, " + s + ", 1)", x -> x.crowd(0, s, 1), 1);
    }
  }

  // "GAP if there is none such".
  private static void p32Lies() {
    WantShelves x = busy();
    Due.is("the first", x.lies(0), 0);
    Due.is("the last", x.lies(1), 1);
    for (int i : and(-1, 2, 3)) Due.is("lies(" + i + ")", x.lies(i), GAP);
    WantShelves full = Due.told(Samples.full(""));
    full.one();
    Due.is("ten lie there: the last", full.lies(9), 8);
    Due.is("ten lie there: one more", full.lies(10), GAP);
    full.unlike(0, 1);
    Due.lies("two lie there", full, 0, 1);
    for (int i = 2; i < 10; i++) Due.is("what lay there is gone, " + i, full.lies(i), GAP);
  }

  // "its number; NONE, doing nothing, if one can't be (the same BOOK twice, too), or there are 30".
  private static void p33Look() {
    for (int r : and(-1, 2)) refused("look(" + r + ", 0, 1)", x -> x.look(r, 0, 1), NONE);
    for (int b : and(-1, 3)) {
      refused("look(0, " + b + ", 1)", x -> x.look(0, b, 1), NONE);
      refused("look(0, 1, " + b + ")", x -> x.look(0, 1, b), NONE);
      refused("look(0, " + b + ", " + b + ")", x -> x.look(0, b, b), NONE);
    }
    for (int b = 0; b < 3; b++) {
      int same = b;
      refused("look(0, " + b + ", " + b + ")", x -> x.look(0, same, same), NONE);
    }
    WantShelves x = busy();
    WantShelves y = busy();
    for (int i = 2; i < 30; i++) {
      Due.is("look " + i, x.look(0, 0, 1), i);
      y.look(0, 0, 1);
    }
    Due.is("look 30", x.look(0, 1, 0), NONE);
    same("look 30", x, y);
    Due.is("one that is out", busy().look(0, 2, 0), 2);
  }

  // "true; false if it is so already, or there is none such".
  private static void p34Untell() {
    refused("untell(0), so already", x -> x.untell(0) ? 1 : 0, 0);
    for (int i : and(-1, 2, 29, 30)) refused("untell(" + i + ")", x -> x.untell(i) ? 1 : 0, 0);
    WantShelves x = busy();
    x.later(4);
    Due.is("untell(0) at a later time", x.untell(0), false);
    Due.is("known as before", x.fit(0, 1, 3), 9);
    Due.is("untell(1)", x.untell(1), true);
    Due.is("untell(1) again", x.untell(1), false);
    Due.is("looks stay", x.about(8), 2);
    // q has a ahead of c if 3x >= x + y: by 5 of 9 ROWS.
    Due.is("known before", x.fit(1, 1, 6), 5);
    Due.is("known now", x.fit(1, 1, 7), 9);
  }

  // "So much later (0 .. 1000): the TIME; NONE, doing nothing, for another number, or if it would be above 100,000".
  private static void p35Later() {
    for (int by : new int[] {LEAST, -1000, -1, 1001, 100000, GREATEST}) refused("later(" + by + ")", x -> x.later(by), NONE);
    refused("later(0)", x -> x.later(0), 3);
    WantShelves x = Due.told(Samples.TWO);
    for (int i = 1; i <= 99; i++) x.later(1000);
    Due.is("later(999)", x.later(999), 99999);
    Due.is("later(2)", x.later(2), NONE);
    Due.is("the time then", x.about(10), 99999);
    Due.is("later(1)", x.later(1), 100000);
    Due.is("later(1) again", x.later(1), NONE);
    Due.is("later(1000)", x.later(1000), NONE);
    Due.is("later(0) at the last", x.later(0), 100000);
    x.look(0, 0, 1);
    Due.is("a look at the last time: before", x.fit(0, 1, 99999), 9);
    // a ahead of b: 3x >= 2y.
    Due.is("a look at the last time: then", x.fit(0, 1, 100000), 5);
    x.library();
    Due.is("the time stays with a library", x.about(10), 100000);
  }

  // "NONE if one can't be".
  private static void p36Fit() {
    for (int r : and(-1, 2)) refused("fit(" + r + ", 1, 0)", x -> x.fit(r, 1, 0), NONE);
    for (int m : new int[] {LEAST, -2, -1, 0, 3, 4, GREATEST}) refused("fit(0, " + m + ", 0)", x -> x.fit(0, m, 0), NONE);
    refused("fit(0, 1, 0)", x -> x.fit(0, 1, 0), 9);
    refused("fit(0, 2, 0)", x -> x.fit(0, 2, 0), 25);
    refused("fit(0, 1, 1)", x -> x.fit(0, 1, 1), 5);
    refused("fit(0, 1, 2)", x -> x.fit(0, 1, 2), 5);
    refused("fit(0, 1, 3)", x -> x.fit(0, 1, 3), 9);
    Due.is("no topics, no books", Due.told("reader p odds 0;").fit(0, 1, 0), 1);
  }

  // "GAP if no ROW FITS, or one can't be".
  private static void p37Sure() {
    for (int r : and(-1, 2)) refused("sure(" + r + ", ..)", x -> x.sure(r, 0, true, 1, 0), GAP);
    for (int t : and(-1, 2, 3)) refused("sure(0, " + t + ", ..)", x -> x.sure(0, t, false, 1, 0), GAP);
    for (int m : new int[] {LEAST, -2, -1, 0, 3, 4, GREATEST}) refused("sure(.., " + m + ", 0)", x -> x.sure(0, 0, true, m, 0), GAP);
    WantShelves x = busy();
    x.look(1, 2, 0);
    Due.is("no row fits: the least", x.sure(1, 0, false, 2, 3), GAP);
    Due.is("no row fits: the most", x.sure(1, 0, true, 2, 3), GAP);
    Due.is("a row fits for another one", x.sure(0, 0, true, 2, 3), 2);
    Due.is("a row fits earlier", x.sure(1, 0, false, 2, 2), -1);
    Due.is("no topics", Due.told("book a;reader p odds 0;").sure(0, 0, true, 1, 0), GAP);
  }

  // "NONE if no ROW FITS, with less than two BOOKS, or if one can't be".
  private static void p38Ask() {
    for (int r : and(-1, 2)) refused("ask(" + r + ", 1, 0, 0)", x -> x.ask(r, 1, 0, 0), NONE);
    for (int m : new int[] {LEAST, -2, -1, 0, 3, 4, GREATEST}) refused("ask(0, " + m + ", 0, 0)", x -> x.ask(0, m, 0, 0), NONE);
    for (int what : and(-1, 2)) refused("ask(0, 1, " + what + ", 0)", x -> x.ask(0, 1, what, 0), NONE);
    WantShelves x = busy();
    x.look(1, 2, 0);
    Due.is("no row fits: which", x.ask(1, 1, 0, 3), NONE);
    Due.is("no row fits: left", x.ask(1, 1, 1, 3), NONE);
    Due.is("for another one", x.ask(0, 1, 1, 3) > 0, true);
    Due.is("one book: which", Due.told("topic x;book a x 1;reader p odds 0;").ask(0, 1, 0, 0), NONE);
    Due.is("one book: left", Due.told("topic x;book a x 1;reader p odds 0;").ask(0, 1, 1, 0), NONE);
    Due.is("no books", Due.told("topic x;reader p odds 0;").ask(0, 1, 0, 0), NONE);
    Due.is("two books", Due.told("topic x;book a x 1;book b;reader p odds 0;").ask(0, 1, 0, 0), 1);
    Due.is("the last two can be", Due.told("topic x;" + Samples.books(9) + "book j x 1;reader p odds 0;law number+want*3;")
        .ask(0, 1, 0, 0) % 10, 9);
  }

  // "kept in a BOX 0 .. 2: how often there was reading; NONE if there is none such".
  private static void p39Image() {
    for (int box : and(-1, 3)) refused("image(" + box + ")", x -> x.image(box), NONE);
    WantShelves x = Due.told(Samples.TWO);
    for (int box = 0; box < 3; box++) {
      Due.is("image(" + box + ")", x.image(box), box);
      x.read(0, box);
    }
    for (int box = 2; box >= 0; box--) Due.is("back(" + box + ")", x.back(box), box);
    x.read(1, 1);
    Due.is("image(0) anew", x.image(0), 1);
    x.read(1, 1);
    Due.is("back(0) is the latest of it", x.back(0), 1);
    Due.is("the others stay", x.back(2), 2);
    // Wants, MOODS, who is IN, what is OUT, was read: each is kept, and each comes back.
    WantShelves five = Due.told(Samples.TWO);
    five.image(0);
    five.mood(1, 1);
    five.comes(0);
    five.out(2);
    five.read(0, 0);
    five.image(1);
    five.back(0);
    int[] first = {NONE, 0, 0, 0, 2, -1};
    int[] second = {1, 1, 4, 1, 4, -2};
    for (int i = 0; i < 2; i++) {
      int[] due = i == 0 ? first : second;
      int[] is = {five.reader(1, 1), five.about(3), five.about(4), five.reader(0, 3), five.wants(0, 0), five.wants(0, 1)};
      for (int j = 0; j < is.length; j++) Due.is("box " + i + " is back, number " + j, is[j], due[j]);
      five.back(1);
    }
    WantShelves y = busy();
    Due.is("image(1)", y.image(1), 1);
    WantShelves z = busy();
    Due.is("acts stay: undone", y.about(6), z.about(6));
    Due.is("acts stay: redone", y.about(7), z.about(7));
  }

  // "(no ACTS are kept then): how often there was reading; NONE, doing nothing, if nothing was".
  private static void p40Back() {
    for (int box : and(-1, 3)) refused("back(" + box + ")", x -> x.back(box), NONE);
    refused("back(1), nothing was kept", x -> x.back(1), NONE);
    WantShelves x = busy();
    Due.is("back(2)", x.back(2), 2);
    Due.is("who is in", x.about(3), 1);
    Due.is("what is out", x.about(4), 4);
    Due.is("a mood", x.reader(1, 1), 1);
    Due.is("wants", x.wants(1, 1), 4);
    Due.is("no acts: undone", x.about(6), 0);
    Due.is("no acts: redone", x.about(7), 0);
    Due.is("undo()", x.undo(), false);
    Due.is("redo()", x.redo(), false);
    Due.is("looks stay", x.about(8), 2);
    Due.is("what is left stays", x.about(9), 1);
    Due.is("the time stays", x.about(10), 3);
    Due.is("the tape stays", x.about(11), 20);
    Due.is("what lies there stays", x.about(13), 2);
    Due.is("back(0)", x.back(0), 0);
    Due.is("wants then", x.wants(1, 1), 3);
    Due.is("back(2) again", x.back(2), 2);
  }

  // "NONE for another what".
  private static void p41About() {
    for (int what : and(-1, 15, 16)) {
      if (what != 10) refused("about(" + what + ")", x -> x.about(what), NONE);
    }
    int[] due = {2, 3, 2, 1, 4, 1, 4, 2, 2, 1, 3, 20, 3, 2, 0};
    WantShelves x = busy();
    for (int what = 0; what < due.length; what++) Due.is("about(" + what + ")", x.about(what), due[what]);
    WantShelves full = Due.told(Samples.full("quarrel turns;"));
    for (int r = 0; r < 6; r++) full.comes(r);
    for (int b = 0; b < 10; b++) full.out(b);
    int[] most = {4, 10, 6, 63, 1023, 0, 16, 0, 0, 0, 0, 0, 0, 0, 3};
    for (int what = 0; what < most.length; what++) Due.is("a full one: about(" + what + ")", full.about(what), most[what]);
  }
}
