import java.util.Random;

/** Random libraries and calls, each answer held against the plain model's. */
public final class ModelTests {
  private static final int MOST_CALLS = 512;
  /** A text takes 80 feeds, and five calls more. */
  private static final int MOST_TOLD = 85;
  /** Of one call() here: 45 readings, and as many taken back. */
  private static final int MOST_AT_ONCE = 92;

  private final Random random;
  private final WantShelves x = new WantShelves();
  private final PlainModel model = new PlainModel();
  private final String run;
  private int mostBooks;
  private int calls;

  private ModelTests(long seed) {
    random = new Random(seed);
    run = "seed " + seed + ": ";
  }

  public static void main(String[] args) {
    int runs = args.length > 0 ? Integer.parseInt(args[0]) : 1500;
    long first = args.length > 1 ? Long.parseLong(args[1]) : 1;
    for (long seed = first; seed < first + runs; seed++) new ModelTests(seed).go();
    Due.close();
  }

  private void go() {
    mostBooks = random.nextInt(3) == 0 ? 10 : 6;
    int libraries = 1 + random.nextInt(3);
    for (int i = 0; i < libraries && room(MOST_TOLD + MOST_AT_ONCE); i++) {
      tell();
      int more = 40 + random.nextInt(80);
      for (int j = 0; j < more && room(MOST_AT_ONCE); j++) call();
    }
    for (int what = -1; what < 16; what++) is("about(" + what + ")", x.about(what), model.about(what));
  }

  /** Whether so many calls are left of those that the document promises, and some for the end. */
  private boolean room(int more) { return calls + more + 17 <= MOST_CALLS; }

  private void is(String call, long got, long want) {
    calls++;
    Due.is(run + call, got, want);
  }

  private void is(String call, boolean got, boolean want) { is(call, got ? 1 : 0, want ? 1 : 0); }

  private void tell() {
    RandomText texts = new RandomText(random, mostBooks);
    int faulty = random.nextInt(4);
    for (int i = 0; i < faulty && room(2 * MOST_TOLD); i++) tellOne(texts.broken());
    tellOne(texts.sound());
  }

  private void tellOne(String text) {
    for (int from = 0; from < text.length(); from += 20) {
      int[] f = Due.five(text, from);
      is("feed", x.feed(f[0], f[1], f[2], f[3], f[4]), model.feed(f));
    }
    int n = upTo(text.length());
    if (n < 0 || n > 1600) is("end(" + n + ")", x.end(n), model.end(n));
    is("end", x.end(text.length()), model.end(text.length()));
    is("library for " + text, x.library(), model.library());
    is("fault(0) for " + text, x.fault(0), model.fault(0));
    is("fault(1) for " + text, x.fault(1), model.fault(1));
  }

  /** Below a bound, now and then beside it, or far from it. */
  private int upTo(int count) {
    if (random.nextInt(100) == 0) return far();
    return random.nextInt(25) == 0 ? random.nextInt(6) - 3 + (random.nextBoolean() ? count : 0)
        : count <= 0 ? 0 : random.nextInt(count);
  }

  private int far() {
    int[] all = {Integer.MIN_VALUE, Integer.MAX_VALUE, Integer.MIN_VALUE + 1, -1000000, 1 << 30, 63, 64, 1024, 31, 32};
    return random.nextInt(3) == 0 ? random.nextInt() : all[random.nextInt(all.length)];
  }

  private int topic() { return upTo(model.about(0)); }
  private int book() { return upTo(model.about(1)); }
  private int reader() { return upTo(model.about(2)); }
  private int party() { return upTo(1 << model.about(2)); }
  private int m() { return random.nextInt(20) == 0 ? upTo(4) : random.nextInt(4) == 0 ? 2 : 1; }
  private int time() { return random.nextInt(40) == 0 ? far() : model.about(10) - random.nextInt(8) + (random.nextInt(6) == 0 ? 3 : 0); }

  private void call() {
    switch (random.nextInt(6)) {
      case 0 -> callState();
      case 1 -> callAct();
      case 2 -> callSearch();
      case 3 -> callLaying();
      case 4 -> callKnown();
      default -> callOther();
    }
  }

  private void callState() {
    int r = reader();
    int b = book();
    int t = topic();
    int p = party();
    int what = upTo(4);
    is("weight(" + b + ", " + t + ")", x.weight(b, t), model.weight(b, t));
    is("wants(" + r + ", " + t + ")", x.wants(r, t), model.wants(r, t));
    is("reader(" + r + ", " + what + ")", x.reader(r, what), model.reader(r, what));
    is("key(" + r + ", " + b + ")", x.key(r, b), model.key(r, b));
    is("place(" + p + ", " + b + ")", x.place(p, b), model.place(p, b));
    is("book(" + p + ", " + b + ")", x.book(p, b), model.book(p, b));
    is("steps(" + b + ")", x.steps(b), model.steps(b));
  }

  private void callAct() {
    int r = reader();
    int b = book();
    int t = random.nextInt(4) == 0 ? -1 : topic();
    switch (random.nextInt(8)) {
      case 0 -> is("comes(" + r + ")", x.comes(r), model.comes(r));
      case 1 -> is("mood(" + r + ", " + t + ")", x.mood(r, t), model.mood(r, t));
      case 2 -> is("out(" + b + ")", x.out(b), model.out(b));
      case 3, 4 -> is("read(" + r + ", " + b + ")", x.read(r, b), model.read(r, b));
      case 5 -> is("undo()", x.undo(), model.undo());
      case 6 -> is("redo()", x.redo(), model.redo());
      default -> {
        int n = random.nextInt(12) == 0 ? 45 : random.nextInt(4);
        for (int i = 0; i < n; i++) is("read(" + r + ", " + b + ")", x.read(r, b), model.read(r, b));
        int back = random.nextInt(n + 2);
        for (int i = 0; i < back; i++) is("undo()", x.undo(), model.undo());
      }
    }
  }

  private void callSearch() {
    int r = reader();
    int b = book();
    int what = upTo(2);
    int set = random.nextInt(4) == 0 ? upTo(1 << model.about(1))
        : random.nextInt(1 << model.about(1)) & ~model.about(4);
    int visits = random.nextInt(12) == 0 ? upTo(4) : 1 + random.nextInt(3);
    int n = random.nextInt(10) == 0 ? upTo(63) - 1 : 1 + random.nextInt(20);
    int s = random.nextInt(40) == 0 ? far() : random.nextInt(14) - 1;
    is("send(" + b + ", " + what + ")", x.send(b, what), model.send(b, what));
    is("think(" + r + ", " + b + ", " + what + ")", x.think(r, b, what), model.think(r, b, what));
    is("errand(" + set + ", " + visits + ")", x.errand(set, visits), model.errand(set, visits));
    is("leads(" + r + ", " + n + ")", x.leads(r, n), model.leads(r, n));
    is("crowd(" + b + ", " + s + ", " + what + ")", x.crowd(b, s, what), model.crowd(b, s, what));
  }

  private void callLaying() {
    int r = reader();
    int other = reader();
    int b = book();
    int p = random.nextInt(12) == 0 ? upTo(12) - 1 : random.nextInt(3);
    int m = m();
    switch (random.nextInt(5)) {
      case 0 -> is("unlike(" + r + ", " + other + ")", x.unlike(r, other), model.unlike(r, other));
      case 1 -> is("hide(" + r + ", " + b + ", " + p + ", " + m + ")", x.hide(r, b, p, m), model.hide(r, b, p, m));
      case 2 -> is("pretend(" + r + ", " + other + ", " + m + ")", x.pretend(r, other, m), model.pretend(r, other, m));
      case 3 -> {
        int small = model.about(0) > 2 && m == 2 ? 1 : m;
        is("rest(" + r + ", " + other + ", " + small + ")", x.rest(r, other, small), model.rest(r, other, small));
      }
      default -> {
        if (model.about(1) - Integer.bitCount(model.about(4)) < 7) is("one()", x.one(), model.one());
      }
    }
    for (int i = -1; i < 12; i++) is("lies(" + i + ")", x.lies(i), model.lies(i));
    int i = upTo(12);
    is("lies(" + i + ")", x.lies(i), model.lies(i));
  }

  private void callKnown() {
    int r = reader();
    int a = book();
    int b = book();
    int m = m();
    int k = time();
    int t = topic();
    int what = upTo(2);
    boolean most = random.nextBoolean();
    switch (random.nextInt(7)) {
      case 0, 1 -> is("look(" + r + ", " + a + ", " + b + ")", x.look(r, a, b), model.look(r, a, b));
      case 2 -> {
        int i = upTo(model.about(8));
        is("untell(" + i + ")", x.untell(i), model.untell(i));
      }
      case 3 -> {
        int by = random.nextInt(20) == 0 ? upTo(2000) - 500 : random.nextInt(4);
        is("later(" + by + ")", x.later(by), model.later(by));
      }
      case 4 -> is("fit(" + r + ", " + m + ", " + k + ")", x.fit(r, m, k), model.fit(r, m, k));
      case 5 -> is("sure(" + r + ", " + t + ", " + most + ", " + m + ", " + k + ")", x.sure(r, t, most, m, k),
          model.sure(r, t, most, m, k));
      default -> is("ask(" + r + ", " + m + ", " + what + ", " + k + ")", x.ask(r, m, what, k),
          model.ask(r, m, what, k));
    }
  }

  private void callOther() {
    int b = random.nextInt(3) == 0 ? book() : model.book(party(), model.about(9));
    int box = upTo(3);
    int what = upTo(3);
    switch (random.nextInt(6)) {
      case 0, 1 -> is("left(" + b + ")", x.left(b), model.left(b));
      case 2 -> is("was(" + what + ")", x.was(what), model.was(what));
      case 3 -> is("image(" + box + ")", x.image(box), model.image(box));
      case 4 -> is("back(" + box + ")", x.back(box), model.back(box));
      default -> {
        if (random.nextInt(3) == 0) is("hush()", x.hush(), model.hush());
      }
    }
    int about = upTo(15);
    is("about(" + about + ")", x.about(about), model.about(about));
  }
}
