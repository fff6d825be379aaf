import java.util.Arrays;

/** A sieve by facets; the document DOC.md numbers the promises that the public methods keep. */
public final class FacetSieve {
    public static final int NONE = -1;

    private static final int NO_NAMING = -2;
    private static final int MOST_BYTES = 600;
    private static final int FED_NUMBERS = 5;
    private static final int MOST_RECORDS = 256;
    private static final int MOST_RANK = 999;
    private static final int MOST_HEADS = 4;
    private static final int MOST_VALUES = 20;
    private static final int BLOCKS = 8;
    private static final int PLACES = 32;
    private static final int IMAGES = 3;
    /** Behind the values' sets stands one row more: all records that are there. */
    private static final int EVERYONE = MOST_VALUES;
    /** From this number on, 'what' asks for the k-th of a row. */
    private static final int ROW_BASE = 10;

    private static final int NOT_CHOSEN = 0;
    private static final int WANTED = 1;
    private static final int SHUT_OUT = 2;

    private static final int IMPOSSIBLE = 1;
    private static final int ALREADY = 2;
    private static final int MISSING = 3;
    private static final int SINGLE_HEAD = 4;
    private static final int HELD = 5;

    private final Everything now;
    private final Everything[] images;
    private final Journal journal;
    private final SchemeReader schemes;
    private final QuestionReader questions;
    /** One row, made once: what is left, looked up anew by each call that needs it. */
    private final Sets leftRow;

    public FacetSieve() {
        now = new Everything();
        images = new Everything[IMAGES];
        journal = new Journal();
        schemes = new SchemeReader();
        questions = new QuestionReader();
        leftRow = new Sets(1);
    }

    // ---- the tape and what is told on it

    public int feed(int a, int b, int c, int d, int e) {
        Tape tape = now.tape;
        if (!tape.hasRoom(FED_NUMBERS)) {
            return NONE;
        }
        tape.takeNumber(a);
        tape.takeNumber(b);
        tape.takeNumber(c);
        tape.takeNumber(d);
        tape.takeNumber(e);
        return tape.length;
    }

    public int end(int n) {
        if (n < 0 || n > now.tape.length) {
            return NONE;
        }
        now.tape.length = n;
        return n;
    }

    public int scheme() {
        boolean fine = schemes.readScheme(now.tape);
        now.noteFault(schemes.tokens);
        if (!fine) {
            return NONE;
        }
        now.stock.copyFrom(schemes.draft);
        now.choice.clear();
        journal.clear();
        return now.stock.sets.amount(EVERYONE);
    }

    public int ask() {
        boolean fine = questions.readWhole(now.tape, now.stock);
        now.noteFault(questions.tokens);
        if (!fine) {
            return NONE;
        }
        now.answered = true;
        now.answerWork = questions.work;
        now.answer.copyRow(0, questions.stack, 0);
        return now.answer.amount(0);
    }

    public int asked(int what) {
        if (!now.answered) {
            return NONE;
        }
        switch (what) {
            case 0:
                return now.answer.amount(0);
            case 1:
                return now.answerWork;
            case 2:
                return now.answer.cost(0);
            default:
                return what < ROW_BASE ? NONE : now.answer.recordAt(0, what - ROW_BASE);
        }
    }

    public int fault(int what) {
        switch (what) {
            case 0:
                return now.faultKind;
            case 1:
                return now.faultPlace;
            default:
                return NONE;
        }
    }

    // ---- acts: 0, or why it is refused

    public int add(int record, int rank) {
        if (!isRecord(record) || !isRank(rank)) {
            return refuse(IMPOSSIBLE);
        }
        if (now.stock.isThere(record)) {
            return refuse(ALREADY);
        }
        return changeRecord(record, rank, 0);
    }

    public int drop(int record) {
        if (!isRecord(record)) {
            return refuse(IMPOSSIBLE);
        }
        if (!now.stock.isThere(record)) {
            return refuse(MISSING);
        }
        return changeRecord(record, NONE, 0);
    }

    public int tag(int record, int value) {
        Stock stock = now.stock;
        if (!isRecord(record) || !stock.plan.isValue(value)) {
            return refuse(IMPOSSIBLE);
        }
        if (!stock.isThere(record)) {
            return refuse(MISSING);
        }
        int tags = stock.tags[record];
        if (hasBit(tags, value)) {
            return refuse(ALREADY);
        }
        int holder = stock.plan.holderAgainst(tags, value);
        if (holder != NONE) {
            return now.noteRefusal(SINGLE_HEAD, holder);
        }
        return changeRecord(record, stock.ranks[record], tags | 1 << value);
    }

    public int untag(int record, int value) {
        Stock stock = now.stock;
        if (!isRecord(record) || !stock.plan.isValue(value)) {
            return refuse(IMPOSSIBLE);
        }
        if (!stock.isThere(record) || !hasBit(stock.tags[record], value)) {
            return refuse(MISSING);
        }
        return changeRecord(record, stock.ranks[record], stock.tags[record] & ~(1 << value));
    }

    public int rank(int record, int rank) {
        Stock stock = now.stock;
        if (!isRecord(record) || !isRank(rank)) {
            return refuse(IMPOSSIBLE);
        }
        if (!stock.isThere(record)) {
            return refuse(MISSING);
        }
        if (stock.ranks[record] == rank) {
            return refuse(ALREADY);
        }
        return changeRecord(record, rank, stock.tags[record]);
    }

    public int choose(int value, int how) {
        if (!now.stock.plan.isValue(value) || how < NOT_CHOSEN || how > SHUT_OUT) {
            return refuse(IMPOSSIBLE);
        }
        int before = now.choice.chosen[value];
        if (before == how) {
            return refuse(ALREADY);
        }
        journal.note(Journal.CHOICE, value, before, 0);
        now.choice.chosen[value] = how;
        return accept();
    }

    public int go(int head, boolean all) {
        if (!now.stock.plan.isHead(head)) {
            return refuse(IMPOSSIBLE);
        }
        int before = now.choice.byAll[head];
        int after = all ? 1 : 0;
        if (before == after) {
            return refuse(ALREADY);
        }
        journal.note(Journal.WAY, head, before, 0);
        now.choice.byAll[head] = after;
        return accept();
    }

    public int why(int level, int what) {
        if (level < 0 || level > 1 || what < 0 || what > 1) {
            return NONE;
        }
        if (level == 1) {
            if (now.reason != SINGLE_HEAD) {
                return 0;
            }
            return what == 0 ? HELD : now.holder;
        }
        if (now.reason == 0) {
            return 0;
        }
        return what == 0 ? now.reason : NONE;
    }

    public int undo() {
        if (journal.amount == 0) {
            return NONE;
        }
        journal.takeBack(now);
        return journal.amount;
    }

    // ---- what there is

    public int count(int what) {
        Stock stock = now.stock;
        switch (what) {
            case 0:
                return stock.plan.heads;
            case 1:
                return stock.plan.values;
            case 2:
                return stock.sets.amount(EVERYONE);
            case 3:
                return now.amountLeft(NONE, NONE, EVERYONE);
            case 4:
                return stock.costOfAll();
            case 5:
                return stock.boxesOfAll(NONE);
            case 6:
            case 7:
            case 8:
                return stock.boxesOfAll(what - 6);
            case 9:
                return stock.allTags();
            case 10:
                return journal.amount;
            case 11:
                return now.tape.length;
            case 12:
                return Integer.bitCount(sureValues());
            case 13:
                return Integer.bitCount(idleValues());
            case 14:
                return partingValue();
            default:
                return NONE;
        }
    }

    public int head(int head, int what) {
        Plan plan = now.stock.plan;
        if (!plan.isHead(head)) {
            return NONE;
        }
        switch (what) {
            case 0:
                return plan.manys[head];
            case 1:
                return plan.sizes[head];
            case 2:
                return now.choice.byAll[head];
            case 3:
                return now.choice.wantedOf(plan, head);
            default:
                return Tokens.letterAsked(plan.headNames[head], what);
        }
    }

    public int value(int value, int what) {
        Stock stock = now.stock;
        Plan plan = stock.plan;
        if (!plan.isValue(value)) {
            return NONE;
        }
        switch (what) {
            case 0:
                return plan.headsOf[value];
            case 1:
                return plan.parents[value];
            case 2:
                return Integer.bitCount(plan.lineages[value]) - 1;
            case 3:
                return stock.sets.amount(value);
            case 4:
                return stock.tagsOf(value);
            case 5:
                return stock.sets.cost(value);
            case 6:
                return stock.sets.boxes(value, NONE);
            case 7:
                return amountBehind(value);
            case 8:
                return now.amountLeft(NONE, value, EVERYONE);
            case 9:
                return now.choice.chosen[value];
            default:
                return Tokens.letterAsked(plan.valueNames[value], what);
        }
    }

    public int box(int value, int block, int what) {
        if (!now.stock.plan.isValue(value) || block < 0 || block >= BLOCKS) {
            return NONE;
        }
        int bits = now.stock.sets.bitsOf(value, block);
        if (bits == 0) {
            return NONE;
        }
        switch (what) {
            case 0:
                return Boxes.kind(bits);
            case 1:
                return Integer.bitCount(bits);
            case 2:
                return Boxes.cost(bits);
            case 3:
                return Boxes.runs(bits);
            default:
                return NONE;
        }
    }

    public int record(int record, int what) {
        Stock stock = now.stock;
        if (!stock.isThere(record)) {
            return NONE;
        }
        switch (what) {
            case 0:
                return stock.ranks[record];
            case 1:
                return Integer.bitCount(stock.tags[record]);
            case 2:
                return hasBit(now.leftIn(record / PLACES, NONE, NONE), record % PLACES) ? 1 : 0;
            default:
                return what < ROW_BASE ? NONE : bitAt(stock.tags[record], what - ROW_BASE);
        }
    }

    public boolean has(int record, int value) {
        return isRecord(record) && now.stock.plan.isValue(value)
            && now.stock.sets.holds(value, record);
    }

    public int left(int k, boolean shown) {
        if (k < 0) {
            return NONE;
        }
        lookWhatIsLeft();
        return shown ? shownAt(k) : leftRow.recordAt(0, k);
    }

    public int told(int k, boolean idle) {
        return bitAt(idle ? idleValues() : sureValues(), k);
    }

    public int both(int value, int other, int what) {
        Plan plan = now.stock.plan;
        if (!plan.isValue(value) || !plan.isValue(other)) {
            return NONE;
        }
        if (what < 0 || what >= 2 * Boxes.JOINS) {
            return NONE;
        }
        if (what < Boxes.JOINS) {
            return now.stock.sets.amountJoined(value, other, what);
        }
        return now.stock.sets.workOfJoin(value, other, what - Boxes.JOINS);
    }

    public int alike(int value) {
        if (!now.stock.plan.isValue(value)) {
            return NONE;
        }
        return now.stock.mostAlike(value);
    }

    public int named(int record, int k) {
        if (!now.stock.isThere(record)) {
            return NO_NAMING;
        }
        int naming = now.stock.namingValues(record);
        if (naming == NONE) {
            return NO_NAMING;
        }
        if (k == NONE) {
            return Integer.bitCount(naming);
        }
        int value = bitAt(naming, k);
        return value == NONE ? NO_NAMING : value;
    }

    public int likes(int record) {
        return now.stock.isThere(record) ? now.stock.amountWithTagsOf(record) : NONE;
    }

    public int spread(int many) {
        if (many < 0 || many > MOST_VALUES) {
            return NONE;
        }
        lookWhatIsLeft();
        int amount = 0;
        for (int record = 0; record < MOST_RECORDS; record++) {
            if (leftRow.holds(0, record) && now.stock.setsAround(record) == many) {
                amount++;
            }
        }
        return amount;
    }

    public boolean image(int k) {
        if (k < 0 || k >= IMAGES) {
            return false;
        }
        // Made when first asked for: most objects never keep an image, and all share one room.
        if (images[k] == null) {
            images[k] = new Everything();
        }
        images[k].copyFrom(now);
        return true;
    }

    public boolean again(int k) {
        if (k < 0 || k >= IMAGES || images[k] == null) {
            return false;
        }
        now.copyFrom(images[k]);
        journal.clear();
        return true;
    }

    // ---- helpers of the acts

    private static boolean isRecord(int record) {
        return record >= 0 && record < MOST_RECORDS;
    }

    private static boolean isRank(int rank) {
        return rank >= 0 && rank <= MOST_RANK;
    }

    private static boolean hasBit(int bits, int place) {
        return (bits >> place & 1) != 0;
    }

    /** The k-th place that is set, rising. */
    private static int bitAt(int bits, int k) {
        if (k < 0 || k >= Integer.bitCount(bits)) {
            return NONE;
        }
        int ahead = 0;
        for (int place = 0; place < PLACES; place++) {
            if (hasBit(bits, place)) {
                if (ahead == k) {
                    return place;
                }
                ahead++;
            }
        }
        return NONE;
    }

    private int refuse(int reason) {
        return now.noteRefusal(reason, NONE);
    }

    private int accept() {
        return now.noteRefusal(0, NONE);
    }

    private int changeRecord(int record, int rank, int tags) {
        Stock stock = now.stock;
        journal.note(Journal.RECORD, record, stock.ranks[record], stock.tags[record]);
        stock.put(record, rank, tags);
        return accept();
    }

    // ---- helpers of what is left

    private void lookWhatIsLeft() {
        for (int block = 0; block < BLOCKS; block++) {
            leftRow.setBits(0, block, now.leftIn(block, NONE, NONE));
        }
    }

    /** COUNT: a head by ANY offers its values as if none of them were wanted yet. */
    private int amountBehind(int value) {
        int head = now.stock.plan.headsOf[value];
        boolean all = now.choice.byAll[head] == 1;
        return now.amountLeft(all ? NONE : head, NONE, value);
    }

    private int sureValues() {
        lookWhatIsLeft();
        int most = leftRow.amount(0);
        int sure = 0;
        for (int value = 0; most > 0 && value < now.stock.plan.values; value++) {
            if (now.choice.chosen[value] == NOT_CHOSEN && amountLeftWith(value) == most) {
                sure |= 1 << value;
            }
        }
        return sure;
    }

    private int idleValues() {
        int idle = 0;
        for (int value = 0; value < now.stock.plan.values; value++) {
            if (now.choice.chosen[value] == NOT_CHOSEN && now.amountLeft(NONE, value, EVERYONE) == 0) {
                idle |= 1 << value;
            }
        }
        return idle;
    }

    private int partingValue() {
        lookWhatIsLeft();
        int most = leftRow.amount(0);
        int best = NONE;
        int least = most + 1;
        for (int value = 0; most > 0 && value < now.stock.plan.values; value++) {
            if (now.choice.chosen[value] == NOT_CHOSEN) {
                int inside = amountLeftWith(value);
                int greater = Math.max(inside, most - inside);
                if (greater < least) {
                    least = greater;
                    best = value;
                }
            }
        }
        return best;
    }

    /** How many of the row of what is left are in a value's set. */
    private int amountLeftWith(int value) {
        int amount = 0;
        for (int block = 0; block < BLOCKS; block++) {
            amount += Integer.bitCount(leftRow.bitsOf(0, block) & now.stock.sets.bitsOf(value, block));
        }
        return amount;
    }

    /** The rank of the k-th shown is the greatest that more than k of those left reach. */
    private int shownAt(int k) {
        if (k >= leftRow.amount(0)) {
            return NONE;
        }
        int rank = 0;
        for (int step = 512; step > 0; step /= 2) {
            if (rank + step <= MOST_RANK && leftOfRankFrom(rank + step) > k) {
                rank += step;
            }
        }
        return leftOfRank(rank, k - leftOfRankFrom(rank + 1));
    }

    private int leftOfRankFrom(int rank) {
        int amount = 0;
        for (int record = 0; record < MOST_RECORDS; record++) {
            if (now.stock.ranks[record] >= rank && leftRow.holds(0, record)) {
                amount++;
            }
        }
        return amount;
    }

    private int leftOfRank(int rank, int k) {
        int ahead = 0;
        for (int record = 0; record < MOST_RECORDS; record++) {
            if (now.stock.ranks[record] == rank && leftRow.holds(0, record)) {
                if (ahead == k) {
                    return record;
                }
                ahead++;
            }
        }
        return NONE;
    }

    // ---- the classes inside

    /** The bytes told so far. */
    private static final class Tape {
        final byte[] bytes = new byte[MOST_BYTES];
        int length;

        boolean hasRoom(int numbers) {
            return length + 4 * numbers <= MOST_BYTES;
        }

        void takeNumber(int number) {
            if (!hasRoom(1)) {
                return;
            }
            for (int shift = 24; shift >= 0; shift -= 8) {
                bytes[length] = (byte) (number >> shift);
                length++;
            }
        }

        int byteAt(int place) {
            return place >= 0 && place < length ? bytes[place] & 255 : NONE;
        }

        void copyFrom(Tape other) {
            System.arraycopy(other.bytes, 0, bytes, 0, MOST_BYTES);
            length = other.length;
        }
    }

    /** Takes a tape, reads it token by token and keeps the first fault that is met. */
    private static final class Tokens {
        static final int STOP = 0;
        static final int WRONG = 1;
        static final int NAME = 2;
        static final int NUMBER = 3;
        static final int SEMICOLON = 4;
        static final int OPEN = 5;
        static final int CLOSE = 6;
        static final int HEAD = 7;
        static final int SINGLE = 8;
        static final int MANY = 9;
        static final int VALUE = 10;
        static final int IN = 11;
        static final int RECORD = 12;
        static final int OR = 13;
        static final int AND = 14;
        static final int LESS = 15;
        static final int ALL = 16;

        static final int NO_TEXT = 1;
        static final int BAD_NUMBER = 2;
        static final int BAD_NAME = 3;
        static final int BAD_WORD = 4;
        static final int THERE_ALREADY = 5;
        static final int BAD_TAG = 6;
        static final int TOO_LONG = 7;
        static final int TOO_DEEP = 8;

        private static final int LEAST_LETTERS = 2;
        private static final int MOST_LETTERS = 8;
        private static final int MOST_DIGITS = 3;
        private static final int LETTER_BITS = 5;
        private static final int LETTER_MASK = 31;

        // The words that no name may be, packed as a word is read (the last five bits of a letter: 1 .. 26).
        private static final long HEAD_WORD = ('h' & 31L) | ('e' & 31L) << 5 | ('a' & 31L) << 10
            | ('d' & 31L) << 15;
        private static final long SINGLE_WORD = ('s' & 31L) | ('i' & 31L) << 5 | ('n' & 31L) << 10
            | ('g' & 31L) << 15 | ('l' & 31L) << 20 | ('e' & 31L) << 25;
        private static final long MANY_WORD = ('m' & 31L) | ('a' & 31L) << 5 | ('n' & 31L) << 10
            | ('y' & 31L) << 15;
        private static final long VALUE_WORD = ('v' & 31L) | ('a' & 31L) << 5 | ('l' & 31L) << 10
            | ('u' & 31L) << 15 | ('e' & 31L) << 20;
        private static final long IN_WORD = ('i' & 31L) | ('n' & 31L) << 5;
        private static final long RECORD_WORD = ('r' & 31L) | ('e' & 31L) << 5 | ('c' & 31L) << 10
            | ('o' & 31L) << 15 | ('r' & 31L) << 20 | ('d' & 31L) << 25;
        private static final long OR_WORD = ('o' & 31L) | ('r' & 31L) << 5;
        private static final long AND_WORD = ('a' & 31L) | ('n' & 31L) << 5 | ('d' & 31L) << 10;
        private static final long LESS_WORD = ('l' & 31L) | ('e' & 31L) << 5 | ('s' & 31L) << 10
            | ('s' & 31L) << 15;
        private static final long ALL_WORD = ('a' & 31L) | ('l' & 31L) << 5 | ('l' & 31L) << 10;

        /** A copy of its own: the tape that was taken is empty already while this is read. */
        private final Tape tape = new Tape();
        private int next;
        int kind;
        int place;
        int number;
        /** The letters of a word, five bits each, the first one lowest: names compare as numbers. */
        long word;
        int faultKind;
        int faultPlace;

        /** Stands at the first token then. */
        void take(Tape given) {
            tape.copyFrom(given);
            given.length = 0;
            next = 0;
            faultKind = 0;
            faultPlace = NONE;
            step();
        }

        /** Always false, so that a reader can leave with it. */
        boolean fail(int fault) {
            faultKind = fault;
            faultPlace = place;
            return false;
        }

        void step() {
            while (next < tape.length && isBlank(tape.byteAt(next))) {
                next++;
            }
            place = next;
            int first = tape.byteAt(next);
            if (first == NONE) {
                kind = STOP;
            } else if (isLetter(first)) {
                readWord();
            } else if (isDigit(first)) {
                readNumber();
            } else {
                kind = signKind(first);
                next++;
            }
        }

        private void readWord() {
            int letters = 0;
            word = 0;
            while (next < tape.length && isLetter(tape.byteAt(next))) {
                if (letters < MOST_LETTERS) {
                    word |= (long) (tape.byteAt(next) & LETTER_MASK) << LETTER_BITS * letters;
                }
                letters++;
                next++;
            }
            kind = letters < LEAST_LETTERS || letters > MOST_LETTERS ? WRONG : wordKind();
        }

        private void readNumber() {
            int digits = 0;
            number = 0;
            while (next < tape.length && isDigit(tape.byteAt(next))) {
                if (digits < MOST_DIGITS) {
                    number = number * 10 + tape.byteAt(next) - '0';
                }
                digits++;
                next++;
            }
            kind = digits > MOST_DIGITS ? WRONG : NUMBER;
        }

        private int wordKind() {
            if (word == HEAD_WORD) {
                return HEAD;
            }
            if (word == SINGLE_WORD) {
                return SINGLE;
            }
            if (word == MANY_WORD) {
                return MANY;
            }
            if (word == VALUE_WORD) {
                return VALUE;
            }
            if (word == IN_WORD) {
                return IN;
            }
            if (word == RECORD_WORD) {
                return RECORD;
            }
            if (word == OR_WORD) {
                return OR;
            }
            if (word == AND_WORD) {
                return AND;
            }
            if (word == LESS_WORD) {
                return LESS;
            }
            return word == ALL_WORD ? ALL : NAME;
        }

        private static int signKind(int sign) {
            switch (sign) {
                case ';':
                    return SEMICOLON;
                case '[':
                    return OPEN;
                case ']':
                    return CLOSE;
                default:
                    return WRONG;
            }
        }

        private static boolean isBlank(int sign) {
            return sign == 10 || sign == 32;
        }

        private static boolean isLetter(int sign) {
            return sign >= 'a' && sign <= 'z';
        }

        private static boolean isDigit(int sign) {
            return sign >= '0' && sign <= '9';
        }

        private static int letterOf(long name, int i) {
            if (i < 0 || i >= MOST_LETTERS) {
                return NONE;
            }
            int letter = (int) (name >> LETTER_BITS * i) & LETTER_MASK;
            return letter == 0 ? NONE : 'a' + letter - 1;
        }

        static int letterAsked(long name, int what) {
            return what < ROW_BASE ? NONE : letterOf(name, what - ROW_BASE);
        }
    }

    /** What a block's part of a set costs in the box that fits it best; empty parts have none. */
    private static final class Boxes {
        static final int LIST = 0;
        static final int RUNS = 1;
        static final int BITS = 2;
        static final int BITS_COST = 4;

        static final int AND = 0;
        static final int OR = 1;
        static final int LESS = 2;
        static final int JOINS = 3;

        /** A run begins where a place is set and the one ahead of it is not. */
        static int runs(int bits) {
            return Integer.bitCount(bits & ~(bits << 1));
        }

        static int kind(int bits) {
            int cost = cost(bits);
            if (cost == Integer.bitCount(bits)) {
                return LIST;
            }
            return cost == 2 * runs(bits) ? RUNS : BITS;
        }

        /** Counts the runs by itself: a question's joins stand as many calls deep as the rules allow. */
        static int cost(int bits) {
            int runsCost = 2 * Integer.bitCount(bits & ~(bits << 1));
            return Math.min(Math.min(Integer.bitCount(bits), runsCost), BITS_COST);
        }

        static int joined(int one, int other, int join) {
            switch (join) {
                case AND:
                    return one & other;
                case OR:
                    return one | other;
                default:
                    return one & ~other;
            }
        }

        static int work(int one, int other, int join) {
            boolean idle = join == AND && (one == 0 || other == 0) || join == LESS && one == 0;
            return idle ? 0 : cost(one) + cost(other);
        }
    }

    /** Sets of records as rows of bits, a number for each block. */
    private static final class Sets {
        private final int rows;
        private final int[] bits;

        Sets(int rows) {
            this.rows = Math.max(rows, 0);
            bits = new int[this.rows * BLOCKS];
        }

        private boolean isInside(int row, int block) {
            return row >= 0 && row < rows && block >= 0 && block < BLOCKS;
        }

        int bitsOf(int row, int block) {
            return isInside(row, block) ? bits[row * BLOCKS + block] : 0;
        }

        void setBits(int row, int block, int some) {
            if (isInside(row, block)) {
                bits[row * BLOCKS + block] = some;
            }
        }

        boolean holds(int row, int record) {
            return hasBit(bitsOf(row, record / PLACES), record % PLACES);
        }

        void setMember(int row, int record, boolean member) {
            int block = record / PLACES;
            if (!isInside(row, block)) {
                return;
            }
            int bit = 1 << record % PLACES;
            int at = row * BLOCKS + block;
            bits[at] = member ? bits[at] | bit : bits[at] & ~bit;
        }

        void clear() {
            Arrays.fill(bits, 0);
        }

        void copyFrom(Sets other) {
            System.arraycopy(other.bits, 0, bits, 0, Math.min(other.bits.length, bits.length));
        }

        void copyRow(int row, Sets other, int otherRow) {
            for (int block = 0; block < BLOCKS; block++) {
                setBits(row, block, other.bitsOf(otherRow, block));
            }
        }

        int amount(int row) {
            int amount = 0;
            for (int block = 0; block < BLOCKS; block++) {
                amount += Integer.bitCount(bitsOf(row, block));
            }
            return amount;
        }

        int cost(int row) {
            int cost = 0;
            for (int block = 0; block < BLOCKS; block++) {
                cost += Boxes.cost(bitsOf(row, block));
            }
            return cost;
        }

        /** How many boxes of a kind (NONE: of any). */
        int boxes(int row, int kind) {
            int boxes = 0;
            for (int block = 0; block < BLOCKS; block++) {
                int part = bitsOf(row, block);
                if (part != 0 && (kind == NONE || kind == Boxes.kind(part))) {
                    boxes++;
                }
            }
            return boxes;
        }

        int recordAt(int row, int k) {
            int ahead = 0;
            for (int block = 0; block < BLOCKS; block++) {
                int part = bitsOf(row, block);
                int amount = Integer.bitCount(part);
                if (k >= ahead && k < ahead + amount) {
                    return block * PLACES + bitAt(part, k - ahead);
                }
                ahead += amount;
            }
            return NONE;
        }

        int amountJoined(int row, int other, int join) {
            int amount = 0;
            for (int block = 0; block < BLOCKS; block++) {
                amount += Integer.bitCount(Boxes.joined(bitsOf(row, block), bitsOf(other, block), join));
            }
            return amount;
        }

        int workOfJoin(int row, int other, int join) {
            int work = 0;
            for (int block = 0; block < BLOCKS; block++) {
                work += Boxes.work(bitsOf(row, block), bitsOf(other, block), join);
            }
            return work;
        }
    }

    /** The heads and their values. The values of a head stand side by side, as they are told. */
    private static final class Plan {
        int heads;
        final long[] headNames = new long[MOST_HEADS];
        final int[] manys = new int[MOST_HEADS];
        final int[] firsts = new int[MOST_HEADS];
        final int[] sizes = new int[MOST_HEADS];
        int values;
        final long[] valueNames = new long[MOST_VALUES];
        final int[] headsOf = new int[MOST_VALUES];
        final int[] parents = new int[MOST_VALUES];
        /** A bit for the value itself and for each one above it. */
        final int[] lineages = new int[MOST_VALUES];

        void clear() {
            heads = 0;
            values = 0;
        }

        void copyFrom(Plan other) {
            heads = other.heads;
            System.arraycopy(other.headNames, 0, headNames, 0, MOST_HEADS);
            System.arraycopy(other.manys, 0, manys, 0, MOST_HEADS);
            System.arraycopy(other.firsts, 0, firsts, 0, MOST_HEADS);
            System.arraycopy(other.sizes, 0, sizes, 0, MOST_HEADS);
            values = other.values;
            System.arraycopy(other.valueNames, 0, valueNames, 0, MOST_VALUES);
            System.arraycopy(other.headsOf, 0, headsOf, 0, MOST_VALUES);
            System.arraycopy(other.parents, 0, parents, 0, MOST_VALUES);
            System.arraycopy(other.lineages, 0, lineages, 0, MOST_VALUES);
        }

        boolean isHead(int head) {
            return head >= 0 && head < heads;
        }

        boolean isValue(int value) {
            return value >= 0 && value < values;
        }

        boolean hasRoomForHead() {
            return heads < MOST_HEADS;
        }

        boolean hasRoomForValue() {
            return heads > 0 && values < MOST_VALUES;
        }

        void addHead(long name, boolean many) {
            if (!hasRoomForHead()) {
                return;
            }
            headNames[heads] = name;
            manys[heads] = many ? 1 : 0;
            firsts[heads] = values;
            sizes[heads] = 0;
            heads++;
        }

        void addValue(long name, int parent) {
            if (!hasRoomForValue()) {
                return;
            }
            valueNames[values] = name;
            headsOf[values] = heads - 1;
            parents[values] = parent;
            lineages[values] = 1 << values | (isValue(parent) ? lineages[parent] : 0);
            sizes[heads - 1]++;
            values++;
        }

        int valueNamed(long name) {
            for (int value = 0; value < values; value++) {
                if (valueNames[value] == name) {
                    return value;
                }
            }
            return NONE;
        }

        boolean isTaken(long name) {
            for (int head = 0; head < heads; head++) {
                if (headNames[head] == name) {
                    return true;
                }
            }
            return valueNamed(name) != NONE;
        }

        /** The tag of the same single head that keeps a value off. */
        int holderAgainst(int tags, int value) {
            int head = headsOf[value];
            if (manys[head] == 1) {
                return NONE;
            }
            for (int i = firsts[head]; i < firsts[head] + sizes[head]; i++) {
                if (hasBit(tags, i)) {
                    return i;
                }
            }
            return NONE;
        }

        int lineageOf(int tags) {
            int lineage = 0;
            for (int value = 0; value < values; value++) {
                if (hasBit(tags, value)) {
                    lineage |= lineages[value];
                }
            }
            return lineage;
        }
    }

    /** The plan, the records, and the sets that their tags make. */
    private static final class Stock {
        final Plan plan = new Plan();
        /** NONE: the record is not there. */
        final int[] ranks = new int[MOST_RECORDS];
        /** A bit for each value that is a tag. */
        final int[] tags = new int[MOST_RECORDS];
        final Sets sets = new Sets(MOST_VALUES + 1);

        Stock() {
            Arrays.fill(ranks, NONE);
        }

        void clear() {
            plan.clear();
            Arrays.fill(ranks, NONE);
            Arrays.fill(tags, 0);
            sets.clear();
        }

        void copyFrom(Stock other) {
            plan.copyFrom(other.plan);
            System.arraycopy(other.ranks, 0, ranks, 0, MOST_RECORDS);
            System.arraycopy(other.tags, 0, tags, 0, MOST_RECORDS);
            sets.copyFrom(other.sets);
        }

        boolean isThere(int record) {
            return isRecord(record) && ranks[record] != NONE;
        }

        /** All changes of a record go through here, so the sets always follow the tags. */
        void put(int record, int newRank, int newTags) {
            if (!isRecord(record)) {
                return;
            }
            ranks[record] = newRank;
            tags[record] = newTags;
            sets.setMember(EVERYONE, record, newRank != NONE);
            int lineage = plan.lineageOf(newTags);
            for (int value = 0; value < plan.values; value++) {
                sets.setMember(value, record, hasBit(lineage, value));
            }
        }

        int costOfAll() {
            int cost = 0;
            for (int value = 0; value < plan.values; value++) {
                cost += sets.cost(value);
            }
            return cost;
        }

        int boxesOfAll(int kind) {
            int boxes = 0;
            for (int value = 0; value < plan.values; value++) {
                boxes += sets.boxes(value, kind);
            }
            return boxes;
        }

        int allTags() {
            int amount = 0;
            for (int record = 0; record < MOST_RECORDS; record++) {
                amount += Integer.bitCount(tags[record]);
            }
            return amount;
        }

        int tagsOf(int value) {
            int amount = 0;
            for (int record = 0; record < MOST_RECORDS; record++) {
                if (hasBit(tags[record], value)) {
                    amount++;
                }
            }
            return amount;
        }

        int setsAround(int record) {
            return Integer.bitCount(plan.lineageOf(tags[record]));
        }

        int amountWithTagsOf(int record) {
            int wanted = tags[record];
            int amount = 0;
            for (int other = 0; other < MOST_RECORDS; other++) {
                if (ranks[other] != NONE && (tags[other] & wanted) == wanted) {
                    amount++;
                }
            }
            return amount;
        }

        int mostAlike(int value) {
            int best = NONE;
            int bestBoth = 0;
            int bestEither = 1;
            for (int other = 0; other < plan.values; other++) {
                if (other != value) {
                    int inBoth = sets.amountJoined(value, other, Boxes.AND);
                    int inEither = Math.max(sets.amountJoined(value, other, Boxes.OR), 1);
                    // Crosswise, as a fraction kept whole: a tie must stay with the lesser value.
                    if (best == NONE || inBoth * bestEither > bestBoth * inEither) {
                        best = other;
                        bestBoth = inBoth;
                        bestEither = inEither;
                    }
                }
            }
            return best;
        }

        /** A bit for each of the values that name a record alone; NONE: no three do. */
        int namingValues(int record) {
            if (sets.amount(EVERYONE) == 1) {
                return 0;
            }
            int around = plan.lineageOf(tags[record]);
            int naming = namingOne(around);
            if (naming == NONE) {
                naming = namingTwo(around);
            }
            return naming == NONE ? namingThree(around) : naming;
        }

        private int namingOne(int around) {
            for (int a = 0; a < plan.values; a++) {
                if (hasBit(around, a) && isAlone(a, a, a)) {
                    return 1 << a;
                }
            }
            return NONE;
        }

        private int namingTwo(int around) {
            for (int a = 0; a < plan.values; a++) {
                for (int b = a + 1; hasBit(around, a) && b < plan.values; b++) {
                    if (hasBit(around, b) && isAlone(a, b, b)) {
                        return 1 << a | 1 << b;
                    }
                }
            }
            return NONE;
        }

        private int namingThree(int around) {
            for (int a = 0; a < plan.values; a++) {
                for (int b = a + 1; hasBit(around, a) && b < plan.values; b++) {
                    for (int c = b + 1; hasBit(around, b) && c < plan.values; c++) {
                        if (hasBit(around, c) && isAlone(a, b, c)) {
                            return 1 << a | 1 << b | 1 << c;
                        }
                    }
                }
            }
            return NONE;
        }

        /** Whether three sets, known to share a record, share no other. */
        private boolean isAlone(int a, int b, int c) {
            int shared = 0;
            for (int block = 0; block < BLOCKS && shared < 2; block++) {
                shared += Integer.bitCount(
                    sets.bitsOf(a, block) & sets.bitsOf(b, block) & sets.bitsOf(c, block));
            }
            return shared == 1;
        }
    }

    /** What was chosen, and by which way each head goes. */
    private static final class Choice {
        final int[] chosen = new int[MOST_VALUES];
        /** 1: by ALL, 0: by ANY. */
        final int[] byAll = new int[MOST_HEADS];

        void clear() {
            Arrays.fill(chosen, NOT_CHOSEN);
            Arrays.fill(byAll, 0);
        }

        void copyFrom(Choice other) {
            System.arraycopy(other.chosen, 0, chosen, 0, MOST_VALUES);
            System.arraycopy(other.byAll, 0, byAll, 0, MOST_HEADS);
        }

        int wantedOf(Plan plan, int head) {
            int amount = 0;
            for (int value = plan.firsts[head]; value < plan.firsts[head] + plan.sizes[head]; value++) {
                if (chosen[value] == WANTED) {
                    amount++;
                }
            }
            return amount;
        }

        /** What a head lets through of a block; 'open': its wanted values are overlooked. */
        int passedBy(Stock stock, int head, int block, boolean open, int extra) {
            Plan plan = stock.plan;
            int some = 0;
            int each = ~0;
            int shut = 0;
            boolean any = false;
            for (int value = plan.firsts[head]; value < plan.firsts[head] + plan.sizes[head]; value++) {
                int how = value == extra ? WANTED : chosen[value];
                if (how == SHUT_OUT) {
                    shut |= stock.sets.bitsOf(value, block);
                } else if (how == WANTED && !open) {
                    any = true;
                    some |= stock.sets.bitsOf(value, block);
                    each &= stock.sets.bitsOf(value, block);
                }
            }
            if (!any) {
                return ~shut;
            }
            return (byAll[head] == 1 ? each : some) & ~shut;
        }
    }

    /** All that an image keeps. */
    private static final class Everything {
        final Tape tape = new Tape();
        final Stock stock = new Stock();
        final Choice choice = new Choice();
        int faultKind;
        int faultPlace = NONE;
        boolean answered;
        int answerWork;
        final Sets answer = new Sets(1);
        int reason;
        int holder = NONE;

        void copyFrom(Everything other) {
            tape.copyFrom(other.tape);
            stock.copyFrom(other.stock);
            choice.copyFrom(other.choice);
            faultKind = other.faultKind;
            faultPlace = other.faultPlace;
            answered = other.answered;
            answerWork = other.answerWork;
            answer.copyFrom(other.answer);
            reason = other.reason;
            holder = other.holder;
        }

        void noteFault(Tokens tokens) {
            faultKind = tokens.faultKind;
            faultPlace = tokens.faultPlace;
        }

        /** Answers the reason, so that an act can leave with it. */
        int noteRefusal(int newReason, int newHolder) {
            reason = newReason;
            holder = newHolder;
            return newReason;
        }

        /** What would be left of a block, if a head's wants were overlooked, a value wanted, too. */
        int leftIn(int block, int openHead, int extra) {
            int bits = stock.sets.bitsOf(EVERYONE, block);
            for (int head = 0; bits != 0 && head < stock.plan.heads; head++) {
                bits &= choice.passedBy(stock, head, block, head == openHead, extra);
            }
            return bits;
        }

        int amountLeft(int openHead, int extra, int row) {
            int amount = 0;
            for (int block = 0; block < BLOCKS; block++) {
                amount += Integer.bitCount(leftIn(block, openHead, extra) & stock.sets.bitsOf(row, block));
            }
            return amount;
        }
    }

    /** Takes a tape as a scheme, into a draft: a fault must leave all else as it was. */
    private static final class SchemeReader {
        final Tokens tokens = new Tokens();
        final Stock draft = new Stock();

        boolean readScheme(Tape tape) {
            draft.clear();
            tokens.take(tape);
            boolean fine = true;
            for (int line = 0; fine && tokens.kind != Tokens.STOP && line < MOST_BYTES; line++) {
                fine = readLine();
            }
            return fine;
        }

        private boolean readLine() {
            boolean fine;
            switch (tokens.kind) {
                case Tokens.HEAD:
                    fine = readHead();
                    break;
                case Tokens.VALUE:
                    fine = readValue();
                    break;
                case Tokens.RECORD:
                    fine = readRecord();
                    break;
                default:
                    return tokens.fail(Tokens.NO_TEXT);
            }
            if (fine && tokens.kind != Tokens.SEMICOLON) {
                return tokens.fail(Tokens.NO_TEXT);
            }
            if (fine) {
                tokens.step();
            }
            return fine;
        }

        private boolean readHead() {
            if (!draft.plan.hasRoomForHead()) {
                return tokens.fail(Tokens.BAD_WORD);
            }
            tokens.step();
            if (!isNewName()) {
                return false;
            }
            long name = tokens.word;
            tokens.step();
            if (tokens.kind != Tokens.SINGLE && tokens.kind != Tokens.MANY) {
                return tokens.fail(Tokens.NO_TEXT);
            }
            draft.plan.addHead(name, tokens.kind == Tokens.MANY);
            tokens.step();
            return true;
        }

        private boolean readValue() {
            if (!draft.plan.hasRoomForValue()) {
                return tokens.fail(Tokens.BAD_WORD);
            }
            tokens.step();
            if (!isNewName()) {
                return false;
            }
            long name = tokens.word;
            tokens.step();
            int parent = NONE;
            if (tokens.kind == Tokens.IN) {
                tokens.step();
                if (!isValueOfLatestHead()) {
                    return false;
                }
                parent = draft.plan.valueNamed(tokens.word);
                tokens.step();
            }
            draft.plan.addValue(name, parent);
            return true;
        }

        private boolean isNewName() {
            if (tokens.kind != Tokens.NAME) {
                return tokens.fail(Tokens.NO_TEXT);
            }
            return !draft.plan.isTaken(tokens.word) || tokens.fail(Tokens.BAD_NAME);
        }

        private boolean isValueOfLatestHead() {
            if (tokens.kind != Tokens.NAME) {
                return tokens.fail(Tokens.NO_TEXT);
            }
            int value = draft.plan.valueNamed(tokens.word);
            if (value == NONE || draft.plan.headsOf[value] != draft.plan.heads - 1) {
                return tokens.fail(Tokens.BAD_NAME);
            }
            return true;
        }

        private boolean readRecord() {
            tokens.step();
            if (!isNumberUpTo(MOST_RECORDS - 1)) {
                return false;
            }
            int record = tokens.number;
            if (draft.isThere(record)) {
                return tokens.fail(Tokens.THERE_ALREADY);
            }
            tokens.step();
            if (!isNumberUpTo(MOST_RANK)) {
                return false;
            }
            int rank = tokens.number;
            tokens.step();
            return readTags(record, rank);
        }

        private boolean isNumberUpTo(int most) {
            if (tokens.kind != Tokens.NUMBER) {
                return tokens.fail(Tokens.NO_TEXT);
            }
            return tokens.number <= most || tokens.fail(Tokens.BAD_NUMBER);
        }

        private boolean readTags(int record, int rank) {
            int tags = 0;
            for (int i = 0; tokens.kind == Tokens.NAME && i < MOST_BYTES; i++) {
                int value = draft.plan.valueNamed(tokens.word);
                if (value == NONE) {
                    return tokens.fail(Tokens.BAD_NAME);
                }
                if (hasBit(tags, value) || draft.plan.holderAgainst(tags, value) != NONE) {
                    return tokens.fail(Tokens.BAD_TAG);
                }
                tags |= 1 << value;
                tokens.step();
            }
            draft.put(record, rank, tags);
            return true;
        }
    }

    /** Takes a tape as a question, and answers it as it is read: sets wait on a stack. */
    private static final class QuestionReader {
        private static final int DEEPEST = 6;
        private static final int MOST_FACTS = 30;
        /** Each depth keeps at most a part and a fact waiting; one more is being read. */
        private static final int STACK_ROWS = 2 * (DEEPEST + 1) + 1;

        final Tokens tokens = new Tokens();
        final Sets stack = new Sets(STACK_ROWS);
        /** By depth: the join (and, less) that waits for its second fact, or NONE. */
        private final int[] joins = new int[DEEPEST + 1];
        /** By depth: 1 if an earlier part waits to be joined by or. */
        private final int[] waiting = new int[DEEPEST + 1];
        private int height;
        private int depth;
        private boolean factDue;
        private int facts;
        int work;

        /** If true, the answer is the stack's first row. */
        boolean readWhole(Tape tape, Stock stock) {
            height = 0;
            facts = 0;
            work = 0;
            startDepth(0);
            tokens.take(tape);
            boolean fine = true;
            for (int i = 0; fine && tokens.kind != Tokens.STOP && i < MOST_BYTES; i++) {
                fine = factDue ? readFact(stock) : readJoin();
                if (fine && !factDue) {
                    joinFact();
                }
                if (fine) {
                    tokens.step();
                }
            }
            if (fine && (factDue || depth > 0)) {
                fine = tokens.fail(Tokens.NO_TEXT);
            }
            if (fine) {
                endPart();
            }
            return fine;
        }

        private void startDepth(int newDepth) {
            depth = newDepth;
            joins[depth] = NONE;
            waiting[depth] = 0;
            factDue = true;
        }

        private boolean readFact(Stock stock) {
            switch (tokens.kind) {
                case Tokens.NAME:
                    return readSet(stock.sets, stock.plan.valueNamed(tokens.word));
                case Tokens.ALL:
                    return readSet(stock.sets, EVERYONE);
                case Tokens.OPEN:
                    if (depth >= DEEPEST) {
                        return tokens.fail(Tokens.TOO_DEEP);
                    }
                    startDepth(depth + 1);
                    return true;
                default:
                    return tokens.fail(Tokens.NO_TEXT);
            }
        }

        private boolean readSet(Sets sets, int row) {
            if (row == NONE) {
                return tokens.fail(Tokens.BAD_NAME);
            }
            if (facts >= MOST_FACTS) {
                return tokens.fail(Tokens.TOO_LONG);
            }
            facts++;
            stack.copyRow(height, sets, row);
            height++;
            factDue = false;
            return true;
        }

        private boolean readJoin() {
            switch (tokens.kind) {
                case Tokens.AND:
                    joins[depth] = Boxes.AND;
                    break;
                case Tokens.LESS:
                    joins[depth] = Boxes.LESS;
                    break;
                case Tokens.OR:
                    endPart();
                    break;
                case Tokens.CLOSE:
                    if (depth == 0) {
                        return tokens.fail(Tokens.NO_TEXT);
                    }
                    // A question in brackets is a fact of the depth around it.
                    endPart();
                    depth--;
                    return true;
                default:
                    return tokens.fail(Tokens.NO_TEXT);
            }
            factDue = true;
            return true;
        }

        /** Called by the loop itself, not by what reads a fact: a join stands as many calls deep as may be. */
        private void joinFact() {
            if (joins[depth] != NONE) {
                joinTopTwo(joins[depth]);
                joins[depth] = NONE;
            }
        }

        private void endPart() {
            if (waiting[depth] == 1) {
                joinTopTwo(Boxes.OR);
            }
            waiting[depth] = 1;
        }

        private void joinTopTwo(int join) {
            if (height < 2) {
                return;
            }
            height--;
            for (int block = 0; block < BLOCKS; block++) {
                int one = stack.bitsOf(height - 1, block);
                int other = stack.bitsOf(height, block);
                work += Boxes.work(one, other, join);
                stack.setBits(height - 1, block, Boxes.joined(one, other, join));
            }
        }
    }

    /** The latest acts, in a ring: the oldest gives way to the newest. */
    private static final class Journal {
        static final int RECORD = 0;
        static final int CHOICE = 1;
        static final int WAY = 2;
        private static final int MOST_ACTS = 10;

        private final int[] kinds = new int[MOST_ACTS];
        private final int[] places = new int[MOST_ACTS];
        private final int[] befores = new int[MOST_ACTS];
        private final int[] tagsBefore = new int[MOST_ACTS];
        private int next;
        int amount;

        void clear() {
            next = 0;
            amount = 0;
        }

        /** What was so before: of a record its rank and tags, of a choice or a way a number. */
        void note(int kind, int place, int before, int tags) {
            kinds[next] = kind;
            places[next] = place;
            befores[next] = before;
            tagsBefore[next] = tags;
            next = (next + 1) % MOST_ACTS;
            amount = Math.min(amount + 1, MOST_ACTS);
        }

        void takeBack(Everything all) {
            next = (next + MOST_ACTS - 1) % MOST_ACTS;
            amount = Math.max(amount - 1, 0);
            int place = places[next];
            if (kinds[next] == RECORD) {
                all.stock.put(place, befores[next], tagsBefore[next]);
            } else if (kinds[next] == CHOICE) {
                all.choice.chosen[place] = befores[next];
            } else {
                all.choice.byAll[place] = befores[next];
            }
        }
    }
}
