import java.util.Arrays;

/** A library whose books stand otherwise for each reader. */
public final class WantShelves {
    public static final int NONE = -1;
    public static final int GAP = -1000000;

    private static final int NOT_SO = -2;
    private static final int TAPE_BYTES = 1600;
    private static final int FED_BYTES = 20;
    private static final int TOPICS = 4;
    private static final int BOOKS = 10;
    private static final int READERS = 6;
    private static final int BOXES = 3;
    private static final int MOST_READ = 99;
    private static final int MOST_WANT = 9;
    private static final int MOST_LEADS = 60;
    private static final int MOST_VISITS = 3;
    private static final int MOST_REST = 20;
    private static final int MOST_LATER = 1000;
    private static final int LAST_TIME = 100000;
    private static final int TURNS = 3;

    private final byte[] tape = new byte[TAPE_BYTES];
    private int taped;
    private Told told = new Told();
    private Told spare = new Told();
    private final Teller teller = new Teller(spare);
    private final Now now = new Now();
    private final Now trial = new Now();
    private final Now[] boxes = new Now[BOXES];
    private final Acts acts = new Acts();
    private final Shelves shelves = new Shelves(told);
    private final Rows rows = new Rows();
    private final Rows otherRows = new Rows();
    private final Orders orders = new Orders();
    private final Errand walks = new Errand();
    private final Looks looks = new Looks();
    private final int[] standing = new int[BOOKS];
    private int standingCount;
    private final int[] lain = new int[BOOKS];
    private int lying;

    public WantShelves() {
        for (int i = 0; i < BOXES; i++) {
            boxes[i] = new Now();
        }
        now.begin(told);
    }

    public int feed(int a, int b, int c, int d, int e) {
        if (taped + FED_BYTES > TAPE_BYTES) {
            return NONE;
        }
        putOnTape(a);
        putOnTape(b);
        putOnTape(c);
        putOnTape(d);
        putOnTape(e);
        return taped;
    }

    public int end(int n) {
        if (n < 0 || n > taped) {
            return NONE;
        }
        taped = n;
        return n;
    }

    public int library() {
        boolean good = teller.tell(tape, taped, spare);
        taped = 0;
        if (!good) {
            return NONE;
        }
        Told before = told;
        told = spare;
        spare = before;
        now.begin(told);
        acts.clear();
        looks.clear();
        for (int i = 0; i < BOXES; i++) {
            boxes[i].kept = false;
        }
        standingCount = 0;
        lying = 0;
        return told.books;
    }

    public int fault(int what) {
        switch (what) {
            case 0:
                return teller.fault;
            case 1:
                return teller.place;
            default:
                return NONE;
        }
    }

    public int weight(int book, int topic) {
        return isBook(book) && isTopic(topic) ? told.weights[book * TOPICS + topic] : NONE;
    }

    public int wants(int reader, int topic) {
        return isReader(reader) && isTopic(topic) ? now.wants[reader * TOPICS + topic] : GAP;
    }

    public int reader(int reader, int what) {
        if (!isReader(reader)) {
            return NOT_SO;
        }
        switch (what) {
            case 0:
                return told.odds[reader];
            case 1:
                return now.moods[reader];
            case 2:
                return now.in >> reader & 1;
            case 3:
                return now.readingsOf(reader);
            default:
                return NOT_SO;
        }
    }

    public int key(int reader, int book) {
        if (!isReader(reader) || !isBook(book)) {
            return GAP;
        }
        shelves.open(told, now);
        return shelves.keyFor(reader, book);
    }

    public int place(int party, int book) {
        if (!isParty(party) || !isHere(book)) {
            return NONE;
        }
        shelves.open(told, now);
        return shelves.placeFor(party, book);
    }

    public int book(int party, int place) {
        if (!isParty(party)) {
            return NONE;
        }
        shelves.open(told, now);
        shelves.lay(party);
        return shelves.laidAt(place);
    }

    public int steps(int book) {
        if (!isHere(book)) {
            return NONE;
        }
        shelves.open(told, now);
        return told.stepsTo(shelves.placeFor(now.in, book));
    }

    public int comes(int reader) {
        if (!isReader(reader)) {
            return NONE;
        }
        acts.add(Acts.COMES, reader, 0, 0);
        now.turnIn(reader);
        return now.in >> reader & 1;
    }

    public int mood(int reader, int topic) {
        if (!isReader(reader) || topic != NONE && !isTopic(topic)) {
            return NOT_SO;
        }
        int before = now.moods[reader];
        acts.add(Acts.MOOD, reader, before, topic);
        now.moods[reader] = topic;
        return before;
    }

    public int out(int book) {
        if (!isBook(book)) {
            return NONE;
        }
        acts.add(Acts.OUT, book, 0, 0);
        now.turnOut(book);
        return now.out >> book & 1;
    }

    public int read(int reader, int book) {
        if (!isReader(reader) || !isBook(book) || now.reads[reader * BOOKS + book] >= MOST_READ) {
            return NONE;
        }
        acts.add(Acts.READ, reader, 0, book);
        acts.keepWants(now, reader);
        now.bendBy(told, reader, book);
        return now.reads[reader * BOOKS + book];
    }

    public boolean undo() {
        return acts.takeBack(now);
    }

    public boolean redo() {
        return acts.doAgain(now, told);
    }

    public int unlike(int reader, int other) {
        lying = 0;
        if (!isReader(reader) || !isReader(other)) {
            return NONE;
        }
        shelves.open(told, now);
        int count = 0;
        for (int first = 0; first < told.books; first++) {
            for (int second = first + 1; second < told.books; second++) {
                if (isHere(first) && isHere(second)
                        && shelves.isAhead(reader, first, second) != shelves.isAhead(other, first, second)) {
                    if (count == 0) {
                        layDown(first);
                        layDown(second);
                    }
                    count++;
                }
            }
        }
        return count;
    }

    public int send(int book, int what) {
        if (!isHere(book) || told.readers == 0 || what != 0 && what != 1) {
            return NONE;
        }
        shelves.open(told, now);
        int best = NONE;
        int bestPlace = BOOKS;
        for (int party = 1; party < 1 << told.readers; party++) {
            int place = shelves.placeFor(party, book);
            if (place < bestPlace || place == bestPlace && Integer.bitCount(party) < Integer.bitCount(best)) {
                best = party;
                bestPlace = place;
            }
        }
        return what == 0 ? told.stepsTo(bestPlace) : best;
    }

    public int think(int reader, int book, int what) {
        if (!isReader(reader) || !isHere(book) || what != 0 && what != 1) {
            return NOT_SO;
        }
        shelves.open(told, now);
        int best = NONE;
        int bestPlace = BOOKS;
        for (int topic = NONE; topic < told.topics; topic++) {
            shelves.weigh(now, reader, topic);
            int place = shelves.placeFor(1 << reader, book);
            if (place < bestPlace) {
                best = topic;
                bestPlace = place;
            }
        }
        return what == 0 ? told.stepsTo(bestPlace) : best;
    }

    public int errand(int books, int visits) {
        if (books < 0 || books >= 1 << told.books || (books & now.out) != 0
                || visits < 1 || visits > MOST_VISITS || told.readers == 0) {
            return NONE;
        }
        shelves.open(told, now);
        return walks.fewest(shelves, told, books, visits);
    }

    public int leads(int reader, int n) {
        if (!isReader(reader) || n < 1 || n > MOST_LEADS || noneHere()) {
            return NONE;
        }
        trial.copy(now);
        shelves.open(told, trial);
        int book = shelves.firstOf(reader);
        for (int i = 1; i < n && book != NONE; i++) {
            trial.bendBy(told, reader, book);
            shelves.weigh(trial, reader, trial.moods[reader]);
            book = shelves.firstOf(reader);
        }
        return book;
    }

    public int hide(int reader, int book, int p, int m) {
        lying = 0;
        if (!isReader(reader) || !isHere(book) || p < 0 || p >= BOOKS || !Rows.canBe(m)) {
            return NONE;
        }
        shelves.open(told, now);
        rows.fill(shelves, now, reader, m);
        orders.collect(shelves, rows, reader);
        int best = orders.mostHad(book, p);
        if (best == NONE) {
            return NONE;
        }
        layDownRow(rows, orders.firstRow(best));
        return orders.howMany(best);
    }

    public int pretend(int reader, int other, int m) {
        lying = 0;
        if (!canPretend(reader, other, m)) {
            return NONE;
        }
        shelves.open(told, now);
        int party = 1 << reader | 1 << other;
        int own = shelves.firstOf(reader);
        int before = shelves.placeFor(party, own);
        rows.fill(shelves, now, reader, m);
        int row = rows.nearest(shelves, party, own);
        int after = shelves.placeFor(party, own);
        if (after >= before) {
            return 0;
        }
        layDownRow(rows, row);
        return told.stepsTo(before) - told.stepsTo(after);
    }

    public int rest(int reader, int other, int m) {
        lying = 0;
        if (!canPretend(reader, other, m)) {
            return NOT_SO;
        }
        shelves.open(told, now);
        int party = 1 << reader | 1 << other;
        int own = shelves.firstOf(reader);
        int others = shelves.firstOf(other);
        rows.fill(shelves, now, reader, m);
        otherRows.fill(shelves, now, other, m);
        for (int turn = 1; turn <= MOST_REST; turn++) {
            boolean changed = rows.takeBetter(shelves, now, party, own);
            changed |= otherRows.takeBetter(shelves, now, party, others);
            if (!changed) {
                layDownWants(rows, reader);
                layDownWants(otherRows, other);
                return turn;
            }
        }
        return NONE;
    }

    public int left(int book) {
        if (!isHere(book) || standingCount >= BOOKS) {
            return NONE;
        }
        for (int i = 0; i < standingCount; i++) {
            if (standing[i] == book) {
                return NONE;
            }
        }
        standing[standingCount] = book;
        standingCount++;
        return standingCount;
    }

    public int hush() {
        int were = standingCount;
        standingCount = 0;
        return were;
    }

    public int was(int what) {
        if (what < 0 || what > 2) {
            return NONE;
        }
        shelves.open(told, now);
        int count = 0;
        int all = (1 << told.readers) - 1;
        int some = 0;
        for (int party = 0; party < 1 << told.readers; party++) {
            shelves.lay(party);
            if (shelves.beginsWith(standing, standingCount)) {
                count++;
                all &= party;
                some |= party;
            }
        }
        if (what == 0) {
            return count;
        }
        return what == 1 && count > 0 ? all : some;
    }

    public int one() {
        lying = 0;
        shelves.open(told, now);
        shelves.layByOdds();
        int walked = 0;
        for (int place = 0; place < told.books; place++) {
            int book = shelves.laidAt(place);
            if (book != NONE) {
                layDown(book);
                walked += shelves.walkersTo(book) * told.stepsTo(place);
            }
        }
        return walked;
    }

    public long crowd(int book, int s, int part) {
        if (!isHere(book) || part != 0 && part != 1) {
            return NONE;
        }
        shelves.open(told, now);
        long upper = 0;
        long lower = 1;
        for (int reader = 0; reader < told.readers; reader++) {
            lower *= 100;
        }
        for (int party = 0; party < 1 << told.readers; party++) {
            if (told.stepsTo(shelves.placeFor(party, book)) <= s) {
                upper += told.oddsOf(party);
            }
        }
        long shared = commonDivisor(upper, lower);
        long term = part == 0 ? upper : lower;
        return shared == 0 ? term : term / shared;
    }

    public int lies(int i) {
        return i >= 0 && i < lying ? lain[i] : GAP;
    }

    public int look(int reader, int ahead, int behind) {
        if (!isReader(reader) || !isBook(ahead) || !isBook(behind) || ahead == behind) {
            return NONE;
        }
        return looks.add(reader, ahead, behind);
    }

    public boolean untell(int look) {
        return looks.takeOut(look);
    }

    public int later(int by) {
        if (by < 0 || by > MOST_LATER || looks.time + by > LAST_TIME) {
            return NONE;
        }
        looks.time += by;
        return looks.time;
    }

    public int fit(int reader, int m, int k) {
        if (!isReader(reader) || !Rows.canBe(m)) {
            return NONE;
        }
        findFitting(reader, m, k);
        return rows.fits;
    }

    public int sure(int reader, int topic, boolean most, int m, int k) {
        if (!isReader(reader) || !isTopic(topic) || !Rows.canBe(m)) {
            return GAP;
        }
        findFitting(reader, m, k);
        return most ? rows.mostFitting(topic) : rows.leastFitting(topic);
    }

    public int ask(int reader, int m, int what, int k) {
        if (!isReader(reader) || !Rows.canBe(m) || what != 0 && what != 1 || told.books < 2) {
            return NONE;
        }
        findFitting(reader, m, k);
        if (rows.fits == 0) {
            return NONE;
        }
        int best = NONE;
        int fewest = rows.fits + 1;
        for (int first = 0; first < told.books; first++) {
            for (int second = first + 1; second < told.books; second++) {
                int left = rows.leftAtMost(first, second);
                if (left < fewest) {
                    fewest = left;
                    best = 10 * first + second;
                }
            }
        }
        return what == 0 ? best : fewest;
    }

    public int image(int box) {
        if (box < 0 || box >= BOXES) {
            return NONE;
        }
        boxes[box].copy(now);
        boxes[box].kept = true;
        return now.readings();
    }

    public int back(int box) {
        if (box < 0 || box >= BOXES || !boxes[box].kept) {
            return NONE;
        }
        now.copy(boxes[box]);
        acts.clear();
        return now.readings();
    }

    public int about(int what) {
        switch (what) {
            case 0:
                return told.topics;
            case 1:
                return told.books;
            case 2:
                return told.readers;
            case 3:
                return now.in;
            case 4:
                return now.out;
            case 5:
                return now.readings();
            case 6:
                return acts.done;
            case 7:
                return acts.undone;
            case 8:
                return looks.count;
            case 9:
                return standingCount;
            case 10:
                return looks.time;
            case 11:
                return taped;
            case 12:
                return told.units;
            case 13:
                return lying;
            case 14:
                return told.quarrel;
            default:
                return NONE;
        }
    }

    private void putOnTape(int four) {
        for (int shift = 24; shift >= 0; shift -= 8) {
            if (taped < TAPE_BYTES) {
                tape[taped] = (byte) (four >>> shift);
                taped++;
            }
        }
    }

    private boolean isTopic(int topic) {
        return topic >= 0 && topic < told.topics;
    }

    private boolean isBook(int book) {
        return book >= 0 && book < told.books;
    }

    private boolean isReader(int reader) {
        return reader >= 0 && reader < told.readers;
    }

    private boolean isParty(int party) {
        return party >= 0 && party < 1 << told.readers;
    }

    private boolean isHere(int book) {
        return isBook(book) && (now.out >> book & 1) == 0;
    }

    private boolean noneHere() {
        return now.out == (1 << told.books) - 1;
    }

    private boolean canPretend(int reader, int other, int m) {
        return isReader(reader) && isReader(other) && reader != other && Rows.canBe(m) && !noneHere();
    }

    private void layDown(int number) {
        if (lying < BOOKS) {
            lain[lying] = number;
            lying++;
        }
    }

    private void layDownRow(Rows from, int row) {
        for (int topic = 0; topic < told.topics; topic++) {
            layDown(from.cell(row, topic));
        }
    }

    private void layDownWants(Rows from, int reader) {
        if (from.taken != NONE) {
            layDownRow(from, from.taken);
            return;
        }
        for (int topic = 0; topic < told.topics; topic++) {
            layDown(now.wants[reader * TOPICS + topic]);
        }
    }

    private void findFitting(int reader, int m, int k) {
        shelves.open(told, now);
        rows.fill(shelves, now, reader, m);
        rows.keepFitting(looks, k);
    }

    private static long commonDivisor(long a, long b) {
        // Euclid's steps on numbers below 2^63 are fewer than 100.
        for (int i = 0; i < 100 && b != 0; i++) {
            long r = a % b;
            a = b;
            b = r;
        }
        return a;
    }

    /** Parts a text into TOKENS; of each: its kind, its place, and its name or number. */
    private static final class Scanner {
        static final int END = 0;
        static final int BAD = 1;
        static final int NUMBER = 2;
        static final int NAME = 3;
        // The kinds of words that stand for themselves, in the order of WORDS; a sign's kind is its byte.
        static final int TOPIC = 4;
        static final int BOOK = 5;
        static final int READER = 6;
        static final int LAW = 7;
        static final int BEND = 8;
        static final int QUARREL = 9;
        static final int SHELF = 10;
        static final int MOOD = 11;
        static final int ODDS = 12;
        static final int WANTS = 13;
        static final int SUM = 14;
        static final int TURNS_WORD = 17;
        static final int OR = 18;
        static final int AND = 19;
        static final int NOT = 20;
        static final int WANT = 21;
        static final int OUGHT = 22;
        static final int LAST_WORD = 26;

        private static final int LETTERS = 8;
        private static final int DIGITS = 4;
        private static final String SIGNS = ";()<>=+-*/%";
        // Eight signs for each word.
        private static final String WORDS = "topic   book    reader  law     bend    quarrel shelf   mood    odds    wants   sum     least   most    turns   or      and     not     want    ought   old     weight  reads   number  ";

        int kind;
        int place;
        int number;
        long name;
        private byte[] text = new byte[0];
        private int length;
        private int at;

        void begin(byte[] newText, int newLength) {
            text = newText;
            length = Math.min(newLength, newText.length);
            at = 0;
            advance();
        }

        void advance() {
            for (int i = at; i < length && isBlank(text[i]); i++) {
                at = i + 1;
            }
            place = at;
            if (at >= length) {
                kind = END;
                place = length;
            } else if (isLetter(text[at])) {
                scanWord();
            } else if (isDigit(text[at])) {
                scanNumber();
            } else {
                kind = SIGNS.indexOf((char) (text[at] & 255)) >= 0 ? text[at] : BAD;
                at++;
            }
        }

        private void scanWord() {
            name = 0;
            for (int i = at; i < length && isLetter(text[i]); i++) {
                // Beyond eight letters the name is of no use: the word is no TOKEN then.
                name = name * 32 + (text[i] - 'a' + 1);
                at = i + 1;
            }
            kind = at - place > LETTERS ? BAD : wordKind(at - place);
        }

        private void scanNumber() {
            number = 0;
            for (int i = at; i < length && isDigit(text[i]); i++) {
                number = number * 10 + (text[i] - '0');
                at = i + 1;
            }
            boolean letterBehind = at < length && isLetter(text[at]);
            kind = at - place > DIGITS || letterBehind ? BAD : NUMBER;
        }

        private int wordKind(int letters) {
            int word = TOPIC;
            for (int from = 0; from + LETTERS <= WORDS.length(); from += LETTERS) {
                int same = 0;
                for (int i = 0; i < LETTERS; i++) {
                    int is = i < letters ? text[place + i] : ' ';
                    if (is == WORDS.charAt(from + i)) {
                        same++;
                    }
                }
                if (same == LETTERS) {
                    return word;
                }
                word++;
            }
            return NAME;
        }

        private static boolean isBlank(byte b) {
            return b == 32 || b == 10;
        }

        private static boolean isLetter(byte b) {
            return b >= 'a' && b <= 'z';
        }

        private static boolean isDigit(byte b) {
            return b >= '0' && b <= '9';
        }
    }

    /** A law or a bend, kept as a row of marks that are worked off with a stack. */
    private static final class Formula {
        // Marks from 0 on are numbers; from FIRST_WORD down words, below them what joins.
        static final int FIRST_WORD = -1;
        static final int WANT = 0;
        static final int OUGHT = 1;
        static final int OLD = 2;
        static final int WEIGHT = 3;
        static final int READS = 4;
        static final int NUMBER = 5;
        static final int WORD_COUNT = 6;
        static final int OR = -11;
        static final int AND = -12;
        static final int NOT = -13;
        static final int MOST_UNITS = 30;
        static final int MOST_WITHIN = 6;
        // Of each unit: itself, what joins it to those ahead, and a not for each level that it may stand in.
        private static final int MOST_MARKS = MOST_UNITS * (MOST_WITHIN + 3);

        private final int[] marks = new int[MOST_MARKS];
        private final int[] stack = new int[MOST_UNITS];
        private int size;

        void clear() {
            size = 0;
        }

        void add(int mark) {
            if (size < MOST_MARKS) {
                marks[size] = mark;
                size++;
            }
        }

        void addWord(int word) {
            add(FIRST_WORD - word);
        }

        /** What comes of it, if its words are as told by their numbers. */
        int value(int[] words) {
            int top = 0;
            for (int i = 0; i < size; i++) {
                int mark = marks[i];
                if (mark > FIRST_WORD - WORD_COUNT) {
                    if (top < MOST_UNITS) {
                        stack[top] = mark >= 0 ? mark : words[FIRST_WORD - mark];
                        top++;
                    }
                } else if (mark == NOT) {
                    if (top > 0) {
                        stack[top - 1] = asNumber(stack[top - 1] == 0);
                    }
                } else if (top > 1) {
                    top--;
                    stack[top - 1] = joined(mark, stack[top - 1], stack[top]);
                }
            }
            return top > 0 ? stack[0] : 0;
        }

        private static int joined(int mark, int a, int b) {
            switch (mark) {
                case OR:
                    return asNumber(a != 0 || b != 0);
                case AND:
                    return asNumber(a != 0 && b != 0);
                case -'<':
                    return asNumber(a < b);
                case -'>':
                    return asNumber(a > b);
                case -'=':
                    return asNumber(a == b);
                case -'+':
                    return a + b;
                case -'-':
                    return a - b;
                case -'*':
                    return a * b;
                case -'/':
                    return b == 0 ? 0 : a / b;
                default:
                    return b == 0 ? 0 : a % b;
            }
        }

        private static int asNumber(boolean so) {
            return so ? 1 : 0;
        }
    }

    /** What a text tells. */
    private static final class Told {
        int topics;
        int books;
        int readers;
        int quarrel;
        int shelf;
        int mood;
        int units;
        final int[] weights = new int[BOOKS * TOPICS];
        final int[] wanted = new int[READERS * TOPICS];
        final int[] oughts = new int[READERS * TOPICS];
        final int[] odds = new int[READERS];
        final Formula law = new Formula();
        final Formula bend = new Formula();

        Told() {
            forget();
        }

        void forget() {
            topics = 0;
            books = 0;
            readers = 0;
            quarrel = 0;
            shelf = 5;
            mood = 3;
            units = 0;
            Arrays.fill(weights, 0);
            Arrays.fill(wanted, 0);
            Arrays.fill(oughts, 0);
            Arrays.fill(odds, 0);
            law.clear();
            law.addWord(Formula.WANT);
            bend.clear();
            bend.addWord(Formula.OLD);
        }

        int stepsTo(int place) {
            return place + 1 + (shelf == 0 ? 0 : 2 * (place / shelf));
        }

        /** The odds that just these are there, of 100 for each READER. */
        long oddsOf(int party) {
            long product = 1;
            for (int reader = 0; reader < readers; reader++) {
                product *= (party >> reader & 1) != 0 ? odds[reader] : 100 - odds[reader];
            }
            return product;
        }
    }

    /** Reads a text line by line; stops at the first FAULT. */
    private static final class Teller {
        private static final int NO_TOKEN = 1;
        private static final int CANNOT_STAND = 2;
        private static final int TOLD_ALREADY = 3;
        private static final int NO_SUCH_NUMBER = 4;
        private static final int NO_SUCH_TOPIC = 5;

        int fault;
        int place = NONE;
        private final Scanner token = new Scanner();
        private final long[] topicNames = new long[TOPICS];
        private final long[] bookNames = new long[BOOKS];
        private final long[] readerNames = new long[READERS];
        private Told into;
        private Formula formula;
        private int units;
        private int onceSeen;
        private int taken;

        Teller(Told first) {
            into = first;
            formula = first.law;
        }

        boolean tell(byte[] text, int length, Told newTold) {
            into = newTold;
            into.forget();
            onceSeen = 0;
            fault = 0;
            place = NONE;
            token.begin(text, length);
            boolean good = true;
            for (int i = 0; i <= length && good && token.kind != Scanner.END; i++) {
                switch (token.kind) {
                    case Scanner.TOPIC:
                        good = into.topics < TOPICS ? topicLine() : refuse();
                        break;
                    case Scanner.BOOK:
                        good = into.books < BOOKS ? bookLine() : refuse();
                        break;
                    case Scanner.READER:
                        good = into.readers < READERS ? readerLine() : refuse();
                        break;
                    case Scanner.LAW:
                        good = isFirst() ? formulaLine(into.law) : refuse();
                        break;
                    case Scanner.BEND:
                        good = isFirst() ? formulaLine(into.bend) : refuse();
                        break;
                    case Scanner.QUARREL:
                        good = isFirst() ? quarrelLine() : refuse();
                        break;
                    case Scanner.SHELF:
                        good = isFirst() ? shelfLine() : refuse();
                        break;
                    case Scanner.MOOD:
                        good = isFirst() ? moodLine() : refuse();
                        break;
                    default:
                        good = refuse();
                        break;
                }
            }
            return good;
        }

        private boolean isFirst() {
            int bit = 1 << token.kind;
            boolean first = (onceSeen & bit) == 0;
            onceSeen |= bit;
            return first;
        }

        private boolean topicLine() {
            token.advance();
            if (!takeNewName(topicNames, into.topics)) {
                return false;
            }
            into.topics++;
            return take(';');
        }

        private boolean bookLine() {
            int book = into.books;
            token.advance();
            if (!takeNewName(bookNames, book)) {
                return false;
            }
            into.books++;
            int given = 0;
            for (int i = 0; i <= TOPICS && token.kind == Scanner.NAME; i++) {
                int topic = takeTopic(given);
                if (topic == NONE || !takeNumber(0, 9)) {
                    return false;
                }
                given |= 1 << topic;
                into.weights[book * TOPICS + topic] = taken;
            }
            return take(';');
        }

        private boolean readerLine() {
            int reader = into.readers;
            token.advance();
            if (!takeNewName(readerNames, reader) || !take(Scanner.ODDS) || !takeNumber(0, 100)) {
                return false;
            }
            into.odds[reader] = taken;
            into.readers++;
            int wanted = 0;
            int owed = 0;
            for (int i = 0; i <= 2 * TOPICS && (token.kind == Scanner.WANTS || token.kind == Scanner.OUGHT); i++) {
                boolean isWant = token.kind == Scanner.WANTS;
                token.advance();
                int topic = takeTopic(isWant ? wanted : owed);
                if (topic == NONE || !(isWant ? takeSigned() : takeNumber(0, 9))) {
                    return false;
                }
                if (isWant) {
                    wanted |= 1 << topic;
                    into.wanted[reader * TOPICS + topic] = taken;
                } else {
                    owed |= 1 << topic;
                    into.oughts[reader * TOPICS + topic] = taken;
                }
            }
            return take(';');
        }

        private boolean formulaLine(Formula told) {
            formula = told;
            formula.clear();
            units = 0;
            token.advance();
            if (!either(0)) {
                return false;
            }
            into.units += units;
            return take(';');
        }

        private boolean quarrelLine() {
            token.advance();
            if (token.kind < Scanner.SUM || token.kind > Scanner.TURNS_WORD) {
                return refuse();
            }
            into.quarrel = token.kind - Scanner.SUM;
            token.advance();
            return take(';');
        }

        private boolean shelfLine() {
            token.advance();
            if (!takeNumber(1, 9)) {
                return false;
            }
            into.shelf = taken;
            return take(';');
        }

        private boolean moodLine() {
            token.advance();
            if (!takeNumber(0, 9)) {
                return false;
            }
            into.mood = taken;
            return take(';');
        }

        private boolean either(int within) {
            if (!both(within)) {
                return false;
            }
            for (int i = 0; i < Formula.MOST_UNITS && token.kind == Scanner.OR; i++) {
                token.advance();
                if (!both(within)) {
                    return false;
                }
                formula.add(Formula.OR);
            }
            return true;
        }

        private boolean both(int within) {
            if (!single(within)) {
                return false;
            }
            for (int i = 0; i < Formula.MOST_UNITS && token.kind == Scanner.AND; i++) {
                token.advance();
                if (!single(within)) {
                    return false;
                }
                formula.add(Formula.AND);
            }
            return true;
        }

        private boolean single(int within) {
            if (token.kind == Scanner.NOT) {
                if (within > Formula.MOST_WITHIN) {
                    return refuse();
                }
                token.advance();
                if (!single(within + 1)) {
                    return false;
                }
                formula.add(Formula.NOT);
                return true;
            }
            if (!sum(within)) {
                return false;
            }
            int relation = token.kind;
            if (relation != '<' && relation != '>' && relation != '=') {
                return true;
            }
            token.advance();
            if (!sum(within)) {
                return false;
            }
            formula.add(-relation);
            return true;
        }

        private boolean sum(int within) {
            if (!product(within)) {
                return false;
            }
            for (int i = 0; i < Formula.MOST_UNITS && (token.kind == '+' || token.kind == '-'); i++) {
                int sign = token.kind;
                token.advance();
                if (!product(within)) {
                    return false;
                }
                formula.add(-sign);
            }
            return true;
        }

        private boolean product(int within) {
            if (!unit(within)) {
                return false;
            }
            for (int i = 0; i < Formula.MOST_UNITS && isProductSign(token.kind); i++) {
                int sign = token.kind;
                token.advance();
                if (!unit(within)) {
                    return false;
                }
                formula.add(-sign);
            }
            return true;
        }

        private static boolean isProductSign(int kind) {
            return kind == '*' || kind == '/' || kind == '%';
        }

        private boolean unit(int within) {
            if (units >= Formula.MOST_UNITS) {
                return refuse();
            }
            units++;
            if (token.kind == '(') {
                if (within > Formula.MOST_WITHIN) {
                    return refuse();
                }
                token.advance();
                return either(within + 1) && take(')');
            }
            if (token.kind == Scanner.NUMBER) {
                formula.add(token.number);
            } else if (token.kind >= Scanner.WANT && token.kind <= Scanner.LAST_WORD) {
                formula.addWord(token.kind - Scanner.WANT);
            } else {
                return refuse();
            }
            token.advance();
            return true;
        }

        private boolean take(int kind) {
            if (token.kind != kind) {
                return refuse();
            }
            token.advance();
            return true;
        }

        private boolean takeNewName(long[] names, int count) {
            if (token.kind != Scanner.NAME || count >= names.length) {
                return refuse();
            }
            if (indexOf(names, count) != NONE) {
                return blame(TOLD_ALREADY, token.place);
            }
            names[count] = token.name;
            token.advance();
            return true;
        }

        /** The TOPIC that is named, if it is not among those given already; else NONE, and a FAULT. */
        private int takeTopic(int given) {
            if (token.kind != Scanner.NAME) {
                refuse();
                return NONE;
            }
            int topic = indexOf(topicNames, into.topics);
            if (topic == NONE) {
                blame(NO_SUCH_TOPIC, token.place);
            } else if ((given >> topic & 1) != 0) {
                blame(TOLD_ALREADY, token.place);
                topic = NONE;
            } else {
                token.advance();
            }
            return topic;
        }

        private boolean takeNumber(int least, int most) {
            if (token.kind != Scanner.NUMBER) {
                return refuse();
            }
            if (token.number < least || token.number > most) {
                return blame(NO_SUCH_NUMBER, token.place);
            }
            taken = token.number;
            token.advance();
            return true;
        }

        private boolean takeSigned() {
            int from = token.place;
            boolean below = token.kind == '-';
            if (below) {
                token.advance();
            }
            if (token.kind != Scanner.NUMBER) {
                return refuse();
            }
            if (token.number > MOST_WANT) {
                return blame(NO_SUCH_NUMBER, from);
            }
            taken = below ? -token.number : token.number;
            token.advance();
            return true;
        }

        private int indexOf(long[] names, int count) {
            for (int i = 0; i < count && i < names.length; i++) {
                if (names[i] == token.name) {
                    return i;
                }
            }
            return NONE;
        }

        private boolean refuse() {
            return blame(token.kind == Scanner.BAD ? NO_TOKEN : CANNOT_STAND, token.place);
        }

        private boolean blame(int newFault, int newPlace) {
            fault = newFault;
            place = newPlace;
            return false;
        }
    }

    /** All that is in earnest, or is kept of it, or tried on. */
    private static final class Now {
        final int[] wants = new int[READERS * TOPICS];
        final int[] moods = new int[READERS];
        final int[] reads = new int[READERS * BOOKS];
        int in;
        int out;
        boolean kept;
        private final int[] words = new int[Formula.WORD_COUNT];

        void begin(Told told) {
            System.arraycopy(told.wanted, 0, wants, 0, wants.length);
            Arrays.fill(moods, NONE);
            Arrays.fill(reads, 0);
            in = 0;
            out = 0;
        }

        void copy(Now other) {
            System.arraycopy(other.wants, 0, wants, 0, wants.length);
            System.arraycopy(other.moods, 0, moods, 0, moods.length);
            System.arraycopy(other.reads, 0, reads, 0, reads.length);
            in = other.in;
            out = other.out;
        }

        void turnIn(int reader) {
            in ^= 1 << reader;
        }

        void turnOut(int book) {
            out ^= 1 << book;
        }

        void bendBy(Told told, int reader, int book) {
            int count = reads[reader * BOOKS + book] + 1;
            reads[reader * BOOKS + book] = count;
            Arrays.fill(words, 0);
            words[Formula.READS] = count;
            for (int topic = 0; topic < told.topics; topic++) {
                int at = reader * TOPICS + topic;
                words[Formula.OLD] = wants[at];
                words[Formula.WEIGHT] = told.weights[book * TOPICS + topic];
                wants[at] = Math.max(-MOST_WANT, Math.min(MOST_WANT, told.bend.value(words)));
            }
        }

        int readingsOf(int reader) {
            int sum = 0;
            for (int book = 0; book < BOOKS; book++) {
                sum += reads[reader * BOOKS + book];
            }
            return sum;
        }

        int readings() {
            int sum = 0;
            for (int reader = 0; reader < READERS; reader++) {
                sum += readingsOf(reader);
            }
            return sum;
        }
    }

    /** The ACTS that can be taken back or done again, in a ring. */
    private static final class Acts {
        static final int COMES = 0;
        static final int MOOD = 1;
        static final int OUT = 2;
        static final int READ = 3;
        private static final int MOST = 40;

        int done;
        int undone;
        private int oldest;
        private final int[] sort = new int[MOST];
        private final int[] who = new int[MOST];
        private final int[] before = new int[MOST];
        private final int[] after = new int[MOST];
        private final int[] wantsBefore = new int[MOST * TOPICS];

        void clear() {
            done = 0;
            undone = 0;
            oldest = 0;
        }

        void add(int newSort, int newWho, int newBefore, int newAfter) {
            undone = 0;
            if (done < MOST) {
                done++;
            } else {
                oldest = (oldest + 1) % MOST;
            }
            int slot = slotOf(done - 1);
            sort[slot] = newSort;
            who[slot] = newWho;
            before[slot] = newBefore;
            after[slot] = newAfter;
        }

        /** What bend makes of wants can't be reckoned back, so they are kept with the latest ACT. */
        void keepWants(Now now, int reader) {
            System.arraycopy(now.wants, reader * TOPICS, wantsBefore, slotOf(done - 1) * TOPICS, TOPICS);
        }

        boolean takeBack(Now now) {
            if (done == 0) {
                return false;
            }
            done--;
            undone++;
            int slot = slotOf(done);
            switch (sort[slot]) {
                case COMES:
                    now.turnIn(who[slot]);
                    break;
                case MOOD:
                    now.moods[who[slot]] = before[slot];
                    break;
                case OUT:
                    now.turnOut(who[slot]);
                    break;
                default:
                    now.reads[who[slot] * BOOKS + after[slot]]--;
                    System.arraycopy(wantsBefore, slot * TOPICS, now.wants, who[slot] * TOPICS, TOPICS);
                    break;
            }
            return true;
        }

        boolean doAgain(Now now, Told told) {
            if (undone == 0) {
                return false;
            }
            int slot = slotOf(done);
            done++;
            undone--;
            switch (sort[slot]) {
                case COMES:
                    now.turnIn(who[slot]);
                    break;
                case MOOD:
                    now.moods[who[slot]] = after[slot];
                    break;
                case OUT:
                    now.turnOut(who[slot]);
                    break;
                default:
                    now.bendBy(told, who[slot], after[slot]);
                    break;
            }
            return true;
        }

        private int slotOf(int index) {
            return Math.floorMod(oldest + index, MOST);
        }
    }

    /** KEYS of all READERS, and the ORDERS that come of them. */
    private static final class Shelves {
        Told told;
        private int here;
        private int laid;
        private final int[] keys = new int[READERS * BOOKS];
        private final int[] together = new int[BOOKS];
        private final int[] order = new int[BOOKS];
        private final int[] words = new int[Formula.WORD_COUNT];

        Shelves(Told first) {
            told = first;
        }

        void open(Told newTold, Now now) {
            told = newTold;
            here = (1 << told.books) - 1 & ~now.out;
            laid = 0;
            for (int reader = 0; reader < told.readers; reader++) {
                weigh(now, reader, now.moods[reader]);
            }
        }

        /** The KEYS of one READER anew, by his wants and this MOOD. */
        void weigh(Now now, int reader, int mood) {
            for (int book = 0; book < told.books; book++) {
                int want = 0;
                for (int topic = 0; topic < told.topics; topic++) {
                    int more = topic == mood ? told.mood : 0;
                    want += (now.wants[reader * TOPICS + topic] + more) * told.weights[book * TOPICS + topic];
                }
                turnTo(now, reader, book);
                keys[reader * BOOKS + book] = keyByWant(want);
            }
        }

        /** Sets all but want for what keyByWant answers next. */
        void turnTo(Now now, int reader, int book) {
            int ought = 0;
            for (int topic = 0; topic < told.topics; topic++) {
                ought += told.oughts[reader * TOPICS + topic] * told.weights[book * TOPICS + topic];
            }
            words[Formula.OUGHT] = ought;
            words[Formula.READS] = now.reads[reader * BOOKS + book];
            words[Formula.NUMBER] = book;
        }

        int keyByWant(int want) {
            words[Formula.WANT] = want;
            return told.law.value(words);
        }

        int keyFor(int reader, int book) {
            return keys[reader * BOOKS + book];
        }

        /** This READER's KEYS are those by a ROW now. */
        void pretendRow(int reader, int[] rowKeys, int from) {
            System.arraycopy(rowKeys, from, keys, reader * BOOKS, BOOKS);
        }

        boolean isAhead(int reader, int first, int second) {
            return comesAhead(keyFor(reader, first), first, keyFor(reader, second), second);
        }

        static boolean comesAhead(int key, int book, int otherKey, int otherBook) {
            return key > otherKey || key == otherKey && book < otherBook;
        }

        /** The first BOOK of a READER's ORDER (NONE). */
        int firstOf(int reader) {
            return firstAmong(reader, here);
        }

        int placeFor(int party, int book) {
            if (told.quarrel == TURNS && party != 0) {
                layByTurns(party);
                return placeLaid(book);
            }
            bringTogether(party);
            return placeTogether(book);
        }

        void lay(int party) {
            if (told.quarrel == TURNS && party != 0) {
                layByTurns(party);
                return;
            }
            bringTogether(party);
            layTogether();
        }

        /** Books to which more walk stand ahead: STEPS grow with each place, so no other order has fewer. */
        void layByOdds() {
            Arrays.fill(together, 0);
            for (int reader = 0; reader < told.readers; reader++) {
                int first = firstOf(reader);
                if (first != NONE) {
                    together[first] += told.odds[reader];
                }
            }
            layTogether();
        }

        int walkersTo(int book) {
            return together[book];
        }

        int laidAt(int place) {
            return place >= 0 && place < laid ? order[place] : NONE;
        }

        boolean beginsWith(int[] row, int count) {
            if (count > laid) {
                return false;
            }
            for (int i = 0; i < count; i++) {
                if (order[i] != row[i]) {
                    return false;
                }
            }
            return true;
        }

        /** The ORDER that is laid, as a number: no two ORDERS of the same BOOKS have the same. */
        long laidAsNumber() {
            long number = 0;
            for (int i = 0; i < laid; i++) {
                number = number * 16 + order[i];
            }
            return number;
        }

        int countHere() {
            return Integer.bitCount(here);
        }

        private boolean isHere(int book) {
            return (here >> book & 1) != 0;
        }

        private int firstAmong(int reader, int books) {
            int best = NONE;
            for (int book = 0; book < told.books; book++) {
                if ((books >> book & 1) != 0 && (best == NONE || keyFor(reader, book) > keyFor(reader, best))) {
                    best = book;
                }
            }
            return best;
        }

        private void layByTurns(int party) {
            laid = 0;
            int waiting = here;
            for (int round = 0; round < BOOKS && waiting != 0; round++) {
                for (int reader = 0; reader < told.readers && waiting != 0; reader++) {
                    if ((party >> reader & 1) != 0) {
                        int book = firstAmong(reader, waiting);
                        if (book == NONE || laid >= BOOKS) {
                            return;
                        }
                        order[laid] = book;
                        laid++;
                        waiting &= ~(1 << book);
                    }
                }
            }
        }

        private int placeLaid(int book) {
            for (int place = 0; place < laid; place++) {
                if (order[place] == book) {
                    return place;
                }
            }
            return NONE;
        }

        private void bringTogether(int party) {
            Arrays.fill(together, 0);
            boolean first = true;
            for (int reader = 0; reader < told.readers; reader++) {
                if ((party >> reader & 1) != 0) {
                    for (int book = 0; book < told.books; book++) {
                        int key = keyFor(reader, book);
                        together[book] = first ? key : joined(together[book], key);
                    }
                    first = false;
                }
            }
        }

        private int joined(int a, int b) {
            switch (told.quarrel) {
                case 0:
                    return a + b;
                case 1:
                    return Math.min(a, b);
                default:
                    return Math.max(a, b);
            }
        }

        private void layTogether() {
            laid = countHere();
            for (int book = 0; book < told.books; book++) {
                if (isHere(book)) {
                    order[placeTogether(book)] = book;
                }
            }
        }

        private int placeTogether(int book) {
            int place = 0;
            for (int other = 0; other < told.books; other++) {
                if (other != book && isHere(other)
                        && comesAhead(together[other], other, together[book], book)) {
                    place++;
                }
            }
            return place;
        }
    }

    /** All ROWS of wants of a READER, with the KEYS that he has by them. */
    private static final class Rows {
        static final int MOST = 625;

        int fits;
        int taken;
        private int reader;
        private int topics;
        private int count;
        private final int[] cells = new int[MOST * TOPICS];
        private final int[] keys = new int[MOST * BOOKS];
        private final int[] fitting = new int[MOST];

        static boolean canBe(int m) {
            return m == 1 || m == 2;
        }

        void fill(Shelves shelves, Now now, int newReader, int m) {
            reader = newReader;
            topics = shelves.told.topics;
            taken = NONE;
            fits = 0;
            fillCells(m);
            for (int book = 0; book < shelves.told.books; book++) {
                shelves.turnTo(now, reader, book);
                for (int row = 0; row < count; row++) {
                    int want = 0;
                    for (int topic = 0; topic < topics; topic++) {
                        want += cell(row, topic) * shelves.told.weights[book * TOPICS + topic];
                    }
                    keys[row * BOOKS + book] = shelves.keyByWant(want);
                }
            }
        }

        int cell(int row, int topic) {
            return cells[row * TOPICS + topic];
        }

        int size() {
            return count;
        }

        void wear(Shelves shelves, int row) {
            shelves.pretendRow(reader, keys, row * BOOKS);
        }

        /** The first ROW by which a BOOK stands nearest for a PARTY; the READER goes on by it. */
        int nearest(Shelves shelves, int party, int book) {
            int best = 0;
            int bestPlace = BOOKS;
            for (int row = 0; row < count && bestPlace > 0; row++) {
                wear(shelves, row);
                int place = shelves.placeFor(party, book);
                if (place < bestPlace) {
                    best = row;
                    bestPlace = place;
                }
            }
            wear(shelves, best);
            return best;
        }

        /** The READER takes the nearest ROW, if that is better than as he was: whether he did. */
        boolean takeBetter(Shelves shelves, Now now, int party, int book) {
            int before = shelves.placeFor(party, book);
            if (before == 0) {
                return false;
            }
            int row = nearest(shelves, party, book);
            if (shelves.placeFor(party, book) < before) {
                taken = row;
                return true;
            }
            if (taken == NONE) {
                shelves.weigh(now, reader, now.moods[reader]);
            } else {
                wear(shelves, taken);
            }
            return false;
        }

        void keepFitting(Looks looks, int k) {
            fits = 0;
            for (int row = 0; row < count; row++) {
                if (isFitting(row, looks, k)) {
                    fitting[fits] = row;
                    fits++;
                }
            }
        }

        int leastFitting(int topic) {
            int least = GAP;
            for (int i = 0; i < fits; i++) {
                int cell = cell(fitting[i], topic);
                least = i == 0 ? cell : Math.min(least, cell);
            }
            return least;
        }

        int mostFitting(int topic) {
            int most = GAP;
            for (int i = 0; i < fits; i++) {
                most = Math.max(most, cell(fitting[i], topic));
            }
            return most;
        }

        /** How many that FIT are left at the most, when it is known which of two BOOKS stands ahead. */
        int leftAtMost(int first, int second) {
            int ahead = 0;
            for (int i = 0; i < fits; i++) {
                if (hasAhead(fitting[i], first, second)) {
                    ahead++;
                }
            }
            return Math.max(ahead, fits - ahead);
        }

        private boolean isFitting(int row, Looks looks, int k) {
            for (int i = 0; i < looks.count; i++) {
                if (looks.counts(i, reader, k) && !hasAhead(row, looks.ahead[i], looks.behind[i])) {
                    return false;
                }
            }
            return true;
        }

        private boolean hasAhead(int row, int first, int second) {
            return Shelves.comesAhead(keys[row * BOOKS + first], first, keys[row * BOOKS + second], second);
        }

        private void fillCells(int m) {
            int base = 2 * m + 1;
            count = 1;
            for (int topic = 0; topic < topics; topic++) {
                count *= base;
            }
            for (int row = 0; row < count; row++) {
                int rest = row;
                for (int topic = topics - 1; topic >= 0; topic--) {
                    cells[row * TOPICS + topic] = rest % base - m;
                    rest /= base;
                }
            }
        }
    }

    /** The unlike ORDERS that ROWS have, as they first come, and how many ROWS have each. */
    private static final class Orders {
        private final long[] asNumbers = new long[Rows.MOST];
        private final int[] firstRows = new int[Rows.MOST];
        private final int[] counts = new int[Rows.MOST];
        private int size;
        private int length;

        void collect(Shelves shelves, Rows rows, int reader) {
            size = 0;
            length = shelves.countHere();
            for (int row = 0; row < rows.size(); row++) {
                rows.wear(shelves, row);
                shelves.lay(1 << reader);
                count(shelves.laidAsNumber(), row);
            }
        }

        /** Of ORDERS with a BOOK at a place up to p the one that most ROWS have (NONE). */
        int mostHad(int book, int p) {
            int best = NONE;
            for (int i = 0; i < size; i++) {
                if (placeIn(asNumbers[i], book) <= p && (best == NONE || counts[i] > counts[best])) {
                    best = i;
                }
            }
            return best;
        }

        int firstRow(int i) {
            return firstRows[i];
        }

        int howMany(int i) {
            return counts[i];
        }

        private void count(long asNumber, int row) {
            for (int i = 0; i < size; i++) {
                if (asNumbers[i] == asNumber) {
                    counts[i]++;
                    return;
                }
            }
            if (size < Rows.MOST) {
                asNumbers[size] = asNumber;
                firstRows[size] = row;
                counts[size] = 1;
                size++;
            }
        }

        private int placeIn(long asNumber, int book) {
            long rest = asNumber;
            for (int place = length - 1; place >= 0; place--) {
                if (rest % 16 == book) {
                    return place;
                }
                rest /= 16;
            }
            return BOOKS;
        }
    }

    /** The least walking for a set of BOOKS. */
    private static final class Errand {
        private static final int SETS = 1 << BOOKS;
        private static final int FAR = 1000000;

        private final int[] farthest = new int[SETS];
        private final int[] once = new int[SETS];
        private final int[] twice = new int[SETS];

        int fewest(Shelves shelves, Told told, int books, int visits) {
            Arrays.fill(once, FAR);
            once[0] = 0;
            for (int party = 1; party < 1 << told.readers; party++) {
                walkWith(shelves, told, party, books);
            }
            if (visits == 1) {
                return 2 * once[books];
            }
            if (visits == 2) {
                return 2 * parted(once, books);
            }
            for (int set = 0; set <= books; set++) {
                if ((set & ~books) == 0) {
                    twice[set] = parted(once, set);
                }
            }
            return 2 * parted(twice, books);
        }

        /** Betters what one visit costs for each part of these BOOKS, by this PARTY. */
        private void walkWith(Shelves shelves, Told told, int party, int books) {
            farthest[0] = 0;
            shelves.lay(party);
            for (int place = 0; place < BOOKS; place++) {
                int book = shelves.laidAt(place);
                if (book != NONE) {
                    farthest[1 << book] = told.stepsTo(place);
                }
            }
            for (int set = 1; set <= books; set++) {
                if ((set & ~books) == 0) {
                    int first = set & -set;
                    farthest[set] = Math.max(farthest[first], farthest[set - first]);
                    once[set] = Math.min(once[set], farthest[set]);
                }
            }
        }

        /** The fewest STEPS if one more visit takes a part of a set, and the rest costs as in a row. */
        private int parted(int[] costs, int set) {
            int fewest = FAR;
            int part = set;
            for (int i = 0; i < SETS && part >= 0; i++) {
                fewest = Math.min(fewest, once[part] + costs[set - part]);
                // The next smaller part; behind the empty one there is none.
                part = part == 0 ? NONE : part - 1 & set;
            }
            return fewest;
        }
    }

    /** LOOKS, with the TIMES at which they were TOLD and UNTOLD. */
    private static final class Looks {
        private static final int MOST = 30;

        int count;
        int time;
        final int[] ahead = new int[MOST];
        final int[] behind = new int[MOST];
        private final int[] who = new int[MOST];
        private final int[] toldAt = new int[MOST];
        private final int[] untoldAt = new int[MOST];

        void clear() {
            count = 0;
        }

        int add(int reader, int newAhead, int newBehind) {
            if (count >= MOST) {
                return NONE;
            }
            who[count] = reader;
            ahead[count] = newAhead;
            behind[count] = newBehind;
            toldAt[count] = time;
            untoldAt[count] = NONE;
            count++;
            return count - 1;
        }

        boolean takeOut(int i) {
            if (i < 0 || i >= count || untoldAt[i] != NONE) {
                return false;
            }
            untoldAt[i] = time;
            return true;
        }

        boolean counts(int i, int reader, int k) {
            return who[i] == reader && toldAt[i] <= k && (untoldAt[i] == NONE || untoldAt[i] > k);
        }
    }
}
