import java.math.BigInteger;
import java.nio.charset.StandardCharsets;
import java.util.ArrayDeque;
import java.util.ArrayList;
import java.util.Arrays;
import java.util.Collections;
import java.util.Deque;
import java.util.HashMap;
import java.util.List;
import java.util.Map;

/** The document done in the plainest way, without regard to speed, as a second opinion on the class. */
final class PlainModel {
  static final int NONE = -1;
  static final int GAP = -1000000;

  /** How a READER is at one moment: his wants and the TOPIC of his MOOD. */
  private record Self(int[] wants, int mood) { }

  private record Look(int reader, int ahead, int behind, int told, int[] untold) { }

  private static final class State {
    int[][] wants;
    int[] moods;
    int[][] reads;
    int in;
    int out;

    State copy() {
      State s = new State();
      s.wants = Arrays.stream(wants).map(int[]::clone).toArray(int[][]::new);
      s.reads = Arrays.stream(reads).map(int[]::clone).toArray(int[][]::new);
      s.moods = moods.clone();
      s.in = in;
      s.out = out;
      return s;
    }

    int readings() { return Arrays.stream(reads).mapToInt(r -> Arrays.stream(r).sum()).sum(); }
  }

  private String tape = "";
  private PlainText text = new PlainText("");
  private int fault = 0;
  private int faultPlace = NONE;
  private List<int[]> weightRows;
  private List<int[]> oughtRows;
  private State state;
  private Deque<State> undos = new ArrayDeque<>();
  private Deque<State> redos = new ArrayDeque<>();
  private final State[] boxes = new State[3];
  private List<Integer> left = new ArrayList<>();
  private List<Integer> lying = new ArrayList<>();
  private List<Look> looks = new ArrayList<>();
  private int time = 0;

  PlainModel() { begin(); }

  private void begin() {
    weightRows = new ArrayList<>(text.books.values());
    oughtRows = new ArrayList<>(text.oughts.values());
    state = new State();
    state.wants = text.wants.values().stream().map(int[]::clone).toArray(int[][]::new);
    state.moods = new int[readers()];
    Arrays.fill(state.moods, NONE);
    state.reads = new int[readers()][books()];
    undos.clear();
    redos.clear();
    Arrays.fill(boxes, null);
    left.clear();
    lying.clear();
    looks.clear();
  }

  private int topics() { return text.topics.size(); }
  private int books() { return text.books.size(); }
  private int readers() { return text.odds.size(); }
  private boolean isTopic(int t) { return t >= 0 && t < topics(); }
  private boolean isBook(int b) { return b >= 0 && b < books(); }
  private boolean isReader(int r) { return r >= 0 && r < readers(); }
  private boolean isParty(int p) { return p >= 0 && p < 1 << readers(); }
  private boolean isHere(int b) { return isBook(b) && (state.out >> b & 1) == 0; }
  private int[] weights(int b) { return weightRows.get(b); }
  private int[] oughts(int r) { return oughtRows.get(r); }

  private List<Integer> booksHere() {
    List<Integer> here = new ArrayList<>();
    for (int b = 0; b < books(); b++) if (isHere(b)) here.add(b);
    return here;
  }

  private Self self(int r) { return new Self(state.wants[r], state.moods[r]); }

  private Self[] selves() {
    Self[] all = new Self[readers()];
    for (int r = 0; r < readers(); r++) all[r] = self(r);
    return all;
  }

  private int keyOf(int r, Self self, int[] reads, int b) {
    int want = 0;
    int ought = 0;
    for (int t = 0; t < topics(); t++) {
      want += (self.wants()[t] + (self.mood() == t ? text.mood : 0)) * weights(b)[t];
      ought += oughts(r)[t] * weights(b)[t];
    }
    Map<String, Integer> words = Map.of("want", want, "ought", ought, "reads", reads[b], "number", b);
    return text.law.value(word -> words.getOrDefault(word, 0));
  }

  private List<Integer> sorted(int[] keys) {
    List<Integer> order = booksHere();
    order.sort((a, b) -> keys[a] != keys[b] ? Integer.compare(keys[b], keys[a]) : Integer.compare(a, b));
    return order;
  }

  private int[] keysOf(int r, Self self, int[] reads) {
    int[] keys = new int[books()];
    for (int b = 0; b < books(); b++) keys[b] = keyOf(r, self, reads, b);
    return keys;
  }

  private List<Integer> orderOf(int r, Self self) { return sorted(keysOf(r, self, state.reads[r])); }

  private List<Integer> orderOf(int party, Self[] selves) {
    if (party == 0) return booksHere();
    List<Integer> who = new ArrayList<>();
    for (int r = 0; r < readers(); r++) if ((party >> r & 1) != 0) who.add(r);
    if (text.quarrel == 3) {
      List<Integer> order = new ArrayList<>();
      for (int i = 0; order.size() < booksHere().size(); i++) {
        int r = who.get(i % who.size());
        List<Integer> own = orderOf(r, selves[r]);
        own.removeAll(order);
        order.add(own.get(0));
      }
      return order;
    }
    int[] keys = new int[books()];
    for (int b = 0; b < books(); b++) {
      List<Integer> each = new ArrayList<>();
      for (int r : who) each.add(keyOf(r, selves[r], state.reads[r], b));
      keys[b] = text.quarrel == 0 ? each.stream().mapToInt(k -> k).sum()
          : text.quarrel == 1 ? Collections.min(each) : Collections.max(each);
    }
    return sorted(keys);
  }

  private int stepsAt(int place) { return place + 1 + 2 * (place / text.shelf); }

  private int stepsOf(int party, Self[] selves, int b) { return stepsAt(orderOf(party, selves).indexOf(b)); }

  private List<int[]> rows(int m) {
    List<int[]> all = new ArrayList<>();
    all.add(new int[4]);
    for (int t = 0; t < topics(); t++) {
      List<int[]> more = new ArrayList<>();
      for (int[] row : all) {
        for (int w = -m; w <= m; w++) {
          int[] next = row.clone();
          next[t] = w;
          more.add(next);
        }
      }
      all = more;
    }
    return all;
  }

  int feed(int... five) {
    if (tape.length() + 20 > 1600) return NONE;
    StringBuilder more = new StringBuilder(tape);
    for (int n : five) {
      byte[] four = java.nio.ByteBuffer.allocate(4).putInt(n).array();
      more.append(new String(four, StandardCharsets.ISO_8859_1));
    }
    tape = more.toString();
    return tape.length();
  }

  int end(int n) {
    if (n < 0 || n > tape.length()) return NONE;
    tape = tape.substring(0, n);
    return n;
  }

  int library() {
    String told = tape;
    tape = "";
    try {
      text = new PlainText(told);
      fault = 0;
      faultPlace = NONE;
      begin();
      return books();
    } catch (PlainText.Fault f) {
      fault = f.code;
      faultPlace = f.place;
      return NONE;
    }
  }

  int fault(int what) { return what == 0 ? fault : what == 1 ? faultPlace : NONE; }
  int weight(int b, int t) { return isBook(b) && isTopic(t) ? weights(b)[t] : NONE; }
  int wants(int r, int t) { return isReader(r) && isTopic(t) ? state.wants[r][t] : GAP; }

  int reader(int r, int what) {
    if (!isReader(r) || what < 0 || what > 3) return -2;
    return new int[] {text.odds.get(r), state.moods[r], state.in >> r & 1, Arrays.stream(state.reads[r]).sum()}[what];
  }

  int key(int r, int b) { return isReader(r) && isBook(b) ? keyOf(r, self(r), state.reads[r], b) : GAP; }

  int place(int party, int b) {
    return isParty(party) && isHere(b) ? orderOf(party, selves()).indexOf(b) : NONE;
  }

  int book(int party, int place) {
    if (!isParty(party)) return NONE;
    List<Integer> order = orderOf(party, selves());
    return place >= 0 && place < order.size() ? order.get(place) : NONE;
  }

  int steps(int b) { return isHere(b) ? stepsOf(state.in, selves(), b) : NONE; }

  private void keepForUndo() {
    undos.addLast(state.copy());
    if (undos.size() > 40) undos.removeFirst();
    redos.clear();
  }

  int comes(int r) {
    if (!isReader(r)) return NONE;
    keepForUndo();
    state.in ^= 1 << r;
    return state.in >> r & 1;
  }

  int mood(int r, int t) {
    if (!isReader(r) || t != NONE && !isTopic(t)) return -2;
    keepForUndo();
    int before = state.moods[r];
    state.moods[r] = t;
    return before;
  }

  int out(int b) {
    if (!isBook(b)) return NONE;
    keepForUndo();
    state.out ^= 1 << b;
    return state.out >> b & 1;
  }

  private void reads(State in, int r, int b) {
    in.reads[r][b]++;
    for (int t = 0; t < topics(); t++) {
      Map<String, Integer> words = Map.of("old", in.wants[r][t], "weight", weights(b)[t], "reads", in.reads[r][b]);
      int bent = text.bend.value(word -> words.getOrDefault(word, 0));
      in.wants[r][t] = bent < -9 ? -9 : bent > 9 ? 9 : bent;
    }
  }

  int read(int r, int b) {
    if (!isReader(r) || !isBook(b) || state.reads[r][b] == 99) return NONE;
    keepForUndo();
    reads(state, r, b);
    return state.reads[r][b];
  }

  boolean undo() {
    if (undos.isEmpty()) return false;
    redos.addLast(state);
    state = undos.removeLast();
    return true;
  }

  boolean redo() {
    if (redos.isEmpty()) return false;
    undos.addLast(state);
    state = redos.removeLast();
    return true;
  }

  int unlike(int r, int other) {
    lying.clear();
    if (!isReader(r) || !isReader(other)) return NONE;
    List<Integer> one = orderOf(r, self(r));
    List<Integer> two = orderOf(other, self(other));
    int count = 0;
    for (int a : booksHere()) {
      for (int b : booksHere()) {
        if (a < b && one.indexOf(a) < one.indexOf(b) != two.indexOf(a) < two.indexOf(b)) {
          if (count++ == 0) lying.addAll(List.of(a, b));
        }
      }
    }
    return count;
  }

  int send(int b, int what) {
    if (!isHere(b) || readers() == 0 || what < 0 || what > 1) return NONE;
    int[] best = null;
    for (int p = 1; p < 1 << readers(); p++) {
      int[] is = {stepsOf(p, selves(), b), Integer.bitCount(p), p};
      if (best == null || Arrays.compare(is, best) < 0) best = is;
    }
    return what == 0 ? best[0] : best[2];
  }

  int think(int r, int b, int what) {
    if (!isReader(r) || !isHere(b) || what < 0 || what > 1) return -2;
    int[] best = null;
    for (int t = NONE; t < topics(); t++) {
      int[] is = {stepsAt(orderOf(r, new Self(state.wants[r], t)).indexOf(b)), t};
      if (best == null || Arrays.compare(is, best) < 0) best = is;
    }
    return best[what];
  }

  int errand(int set, int visits) {
    if (set < 0 || set >= 1 << books() || (set & state.out) != 0 || visits < 1 || visits > 3 || readers() == 0) {
      return NONE;
    }
    List<List<Integer>> orders = new ArrayList<>();
    for (int p = 1; p < 1 << readers(); p++) orders.add(orderOf(p, selves()));
    return cheapest(set, new int[visits], orders, new HashMap<>());
  }

  /** Gives each BOOK to each of the visits. */
  private int cheapest(int set, int[] visits, List<List<Integer>> orders, Map<Integer, Integer> costs) {
    if (set == 0) return Arrays.stream(visits).map(v -> costs.computeIfAbsent(v, s -> visit(s, orders))).sum();
    int b = Integer.numberOfTrailingZeros(set);
    int best = Integer.MAX_VALUE;
    for (int i = 0; i < visits.length; i++) {
      visits[i] |= 1 << b;
      best = Math.min(best, cheapest(set & ~(1 << b), visits, orders, costs));
      visits[i] &= ~(1 << b);
    }
    return best;
  }

  private int visit(int set, List<List<Integer>> orders) {
    if (set == 0) return 0;
    int best = Integer.MAX_VALUE;
    for (List<Integer> order : orders) {
      int far = 0;
      for (int b = 0; b < books(); b++) if ((set >> b & 1) != 0) far = Math.max(far, stepsAt(order.indexOf(b)));
      best = Math.min(best, 2 * far);
    }
    return best;
  }

  int leads(int r, int n) {
    if (!isReader(r) || n < 1 || n > 60 || booksHere().isEmpty()) return NONE;
    State s = state.copy();
    int b = NONE;
    for (int i = 0; i < n; i++) {
      b = sorted(keysOf(r, new Self(s.wants[r], s.moods[r]), s.reads[r])).get(0);
      reads(s, r, b);
    }
    return b;
  }

  private void layDown(int[] row) { for (int t = 0; t < topics(); t++) lying.add(row[t]); }

  int hide(int r, int b, int p, int m) {
    lying.clear();
    if (!isReader(r) || !isHere(b) || p < 0 || p > 9 || m < 1 || m > 2) return NONE;
    Map<List<Integer>, Integer> counts = new HashMap<>();
    for (int[] row : rows(m)) counts.merge(orderOf(r, new Self(row, NONE)), 1, Integer::sum);
    int best = 0;
    int[] bestRow = null;
    for (int[] row : rows(m)) {
      List<Integer> order = orderOf(r, new Self(row, NONE));
      if (order.indexOf(b) <= p && counts.get(order) > best) {
        best = counts.get(order);
        bestRow = row;
      }
    }
    if (bestRow == null) return NONE;
    layDown(bestRow);
    return best;
  }

  private boolean canPretend(int r, int other, int m) {
    return isReader(r) && isReader(other) && r != other && (m == 1 || m == 2) && !booksHere().isEmpty();
  }

  private int stepsWith(int r, int[] row, int other, Self others, int b) {
    Self[] two = selves();
    two[r] = new Self(row, NONE);
    two[other] = others;
    return stepsOf(1 << r | 1 << other, two, b);
  }

  private int[] bestRow(int r, int other, Self others, int b, int m) {
    int[] best = null;
    for (int[] row : rows(m)) {
      if (best == null || stepsWith(r, row, other, others, b) < stepsWith(r, best, other, others, b)) best = row;
    }
    return best;
  }

  int pretend(int r, int other, int m) {
    lying.clear();
    if (!canPretend(r, other, m)) return NONE;
    int own = orderOf(r, self(r)).get(0);
    int[] row = bestRow(r, other, self(other), own, m);
    int fewer = stepsOf(1 << r | 1 << other, selves(), own) - stepsWith(r, row, other, self(other), own);
    if (fewer <= 0) return 0;
    layDown(row);
    return fewer;
  }

  int rest(int r, int other, int m) {
    lying.clear();
    if (!canPretend(r, other, m)) return -2;
    int[] who = {r, other};
    int[] own = {orderOf(r, self(r)).get(0), orderOf(other, self(other)).get(0)};
    Self[] as = selves();
    for (int turn = 1; turn <= 20; turn++) {
      boolean changed = false;
      for (int i = 0; i < 2; i++) {
        int me = who[i];
        int you = who[1 - i];
        int[] row = bestRow(me, you, as[you], own[i], m);
        if (stepsWith(me, row, you, as[you], own[i]) < stepsOf(1 << me | 1 << you, as, own[i])) {
          as[me] = new Self(row, NONE);
          changed = true;
        }
      }
      if (!changed) {
        layDown(as[r].wants());
        layDown(as[other].wants());
        return turn;
      }
    }
    return NONE;
  }

  int left(int b) {
    if (!isHere(b) || left.contains(b)) return NONE;
    left.add(b);
    return left.size();
  }

  int hush() {
    int were = left.size();
    left.clear();
    return were;
  }

  int was(int what) {
    if (what < 0 || what > 2) return NONE;
    List<Integer> parties = new ArrayList<>();
    for (int p = 0; p < 1 << readers(); p++) {
      List<Integer> order = orderOf(p, selves());
      if (left.size() <= order.size() && order.subList(0, left.size()).equals(left)) parties.add(p);
    }
    if (what == 0) return parties.size();
    return parties.stream().reduce(what == 1 ? (a, b) -> a & b : (a, b) -> a | b).orElse(0);
  }

  int one() {
    lying.clear();
    int[] best = {Integer.MAX_VALUE};
    tryAll(new ArrayList<>(), best);
    return best[0];
  }

  private void tryAll(List<Integer> order, int[] best) {
    if (order.size() < booksHere().size()) {
      for (int b : booksHere()) {
        if (!order.contains(b)) {
          order.add(b);
          tryAll(order, best);
          order.remove(order.size() - 1);
        }
      }
      return;
    }
    int walked = 0;
    for (int r = 0; r < readers() && !order.isEmpty(); r++) {
      walked += text.odds.get(r) * stepsAt(order.indexOf(orderOf(r, self(r)).get(0)));
    }
    if (walked < best[0]) {
      best[0] = walked;
      lying = new ArrayList<>(order);
    }
  }

  long crowd(int b, int s, int part) {
    if (!isHere(b) || part < 0 || part > 1) return NONE;
    BigInteger upper = BigInteger.ZERO;
    for (int p = 0; p < 1 << readers(); p++) {
      if (stepsOf(p, selves(), b) > s) continue;
      BigInteger odds = BigInteger.ONE;
      for (int r = 0; r < readers(); r++) {
        odds = odds.multiply(BigInteger.valueOf((p >> r & 1) != 0 ? text.odds.get(r) : 100 - text.odds.get(r)));
      }
      upper = upper.add(odds);
    }
    BigInteger lower = BigInteger.valueOf(100).pow(readers());
    BigInteger shared = upper.gcd(lower);
    return (part == 0 ? upper : lower).divide(shared).longValueExact();
  }

  int lies(int i) { return i >= 0 && i < lying.size() ? lying.get(i) : GAP; }

  int look(int r, int ahead, int behind) {
    if (!isReader(r) || !isBook(ahead) || !isBook(behind) || ahead == behind || looks.size() == 30) return NONE;
    looks.add(new Look(r, ahead, behind, time, new int[] {Integer.MIN_VALUE}));
    return looks.size() - 1;
  }

  boolean untell(int i) {
    if (i < 0 || i >= looks.size() || looks.get(i).untold()[0] != Integer.MIN_VALUE) return false;
    looks.get(i).untold()[0] = time;
    return true;
  }

  int later(int by) {
    if (by < 0 || by > 1000 || time + by > 100000) return NONE;
    time += by;
    return time;
  }

  private boolean isAhead(int[] keys, int a, int b) { return keys[a] > keys[b] || keys[a] == keys[b] && a < b; }

  private List<int[]> fitting(int r, int m, int k) {
    List<int[]> all = new ArrayList<>();
    for (int[] row : rows(m)) {
      int[] keys = keysOf(r, new Self(row, NONE), state.reads[r]);
      boolean fits = true;
      for (Look look : looks) {
        boolean known = look.told() <= k;
        boolean gone = look.untold()[0] != Integer.MIN_VALUE && look.untold()[0] <= k;
        if (look.reader() == r && known && !gone) fits &= isAhead(keys, look.ahead(), look.behind());
      }
      if (fits) all.add(row);
    }
    return all;
  }

  int fit(int r, int m, int k) { return isReader(r) && (m == 1 || m == 2) ? fitting(r, m, k).size() : NONE; }

  int sure(int r, int t, boolean most, int m, int k) {
    if (!isReader(r) || !isTopic(t) || m < 1 || m > 2) return GAP;
    var all = fitting(r, m, k).stream().mapToInt(row -> row[t]);
    return (most ? all.max() : all.min()).orElse(GAP);
  }

  int ask(int r, int m, int what, int k) {
    if (!isReader(r) || m < 1 || m > 2 || what < 0 || what > 1 || books() < 2) return NONE;
    List<int[]> all = fitting(r, m, k);
    if (all.isEmpty()) return NONE;
    int[] best = null;
    for (int a = 0; a < books(); a++) {
      for (int b = a + 1; b < books(); b++) {
        int first = a;
        int second = b;
        int ahead = (int) all.stream()
            .filter(row -> isAhead(keysOf(r, new Self(row, NONE), state.reads[r]), first, second)).count();
        int[] is = {Math.max(ahead, all.size() - ahead), a, b};
        if (best == null || Arrays.compare(is, best) < 0) best = is;
      }
    }
    return what == 0 ? 10 * best[1] + best[2] : best[0];
  }

  int image(int box) {
    if (box < 0 || box > 2) return NONE;
    boxes[box] = state.copy();
    return state.readings();
  }

  int back(int box) {
    if (box < 0 || box > 2 || boxes[box] == null) return NONE;
    state = boxes[box].copy();
    undos.clear();
    redos.clear();
    return state.readings();
  }

  int about(int what) {
    int[] all = {topics(), books(), readers(), state.in, state.out, state.readings(), undos.size(), redos.size(),
        looks.size(), left.size(), time, tape.length(), text.units, lying.size(), text.quarrel};
    return what >= 0 && what < all.length ? all[what] : NONE;
  }
}
