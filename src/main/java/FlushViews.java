import java.util.NoSuchElementException;

/** Group views with flush; ../shared/DOC.md says what each call promises. */
public final class FlushViews {
    public static final int NONE = -1;

    private static final int MOST_MEMBERS = 6;
    private static final int MOST_MESSAGES = 30;
    private static final int MOST_HELD = 8;
    private static final int MOST_ENTRIES = 64;
    private static final int MOST_CLAUSES = 60;
    private static final int MOST_OPEN = 6;
    private static final int MOST_BEGUN = 200;
    private static final int MOST_WORKS = 16;
    private static final int MOST_IMAGES = 3;
    private static final int MOST_WEIGHT = 99;
    private static final int MOST_PARTING = 63;
    private static final int MOST_SPOKEN = 9999;
    private static final int MOST_TIMES = 96;
    private static final int MOST_SEEDS = 10;
    private static final int MOST_Q = 16;

    private static final int TAPE_BYTES = 600;
    private static final int TEXT_BYTES = 150;
    private static final int BOOK_BYTES = 60;

    private static final int CANNOT_STAND = 1;
    private static final int NO_SUCH_NUMBER = 2;
    private static final int TOO_MANY = 3;
    private static final int FAULT_LESS = 10;
    private static final int WORKS_ARE_FULL = -20;

    private static final int NO_SUCH_ELEMENT = 0;
    private static final int ILLEGAL_ARGUMENT = 1;
    private static final int NULL_POINTER = 2;
    private static final int OUT_OF_BOUNDS = 3;

    private final Tape tape = new Tape();
    private final Group group = new Group();
    private final Law law = new Law();
    private final Work program = new Work();
    private final Book lines = new Book();
    private final Quorum quorum = new Quorum(group, law);
    private final State now = new State();
    private final State trial = new State();
    private final Past past = new Past();
    private final Image[] images = new Image[MOST_IMAGES];
    private final Note signs = new Note();
    private final Storm weather = new Storm();
    private final int[] refusals = new int[4];
    private int imagesKept;
    private int stepsRefused;

    public FlushViews() {
        now.begin(0, 0);
    }

    public int feed(int a, int b, int c, int d, int e) {
        if (!tape.hasRoom()) {
            return NONE;
        }
        tape.put(a);
        tape.put(b);
        tape.put(c);
        tape.put(d);
        tape.put(e);
        return tape.size;
    }

    public int group(int n) throws IllegalArgumentException {
        needText(n, TAPE_BYTES);
        tape.open(n);
        if (!group.read(tape)) {
            return tape.fault - FAULT_LESS;
        }
        law.forget();
        lines.forget();
        past.forget();
        imagesKept = 0;
        stepsRefused = 0;
        now.begin(group.members, group.first);
        return group.members;
    }

    public int law(int n) throws IllegalArgumentException {
        needText(n, TEXT_BYTES);
        tape.open(n);
        return law.read(tape) ? 1 : tape.fault - FAULT_LESS;
    }

    public int work(int n) throws IllegalArgumentException {
        needText(n, TEXT_BYTES);
        if (past.isFull()) {
            // Opening no bytes empties the tape and clears the fault without reading anything.
            tape.open(0);
            return WORKS_ARE_FULL;
        }
        tape.open(n);
        if (!program.read(tape, group.members)) {
            return tape.fault - FAULT_LESS;
        }
        past.keep(now);
        program.begin();
        program.run(now, quorum, 0, program.length, 0);
        stepsRefused = program.refused;
        return program.done;
    }

    public int book(int n) throws IllegalArgumentException {
        needText(n, BOOK_BYTES);
        tape.open(n);
        return lines.read(tape, group.members) ? lines.size : tape.fault - FAULT_LESS;
    }

    public int fault() {
        return tape.place;
    }

    public int undo() {
        if (!past.giveBack(now)) {
            return -1;
        }
        stepsRefused = 0;
        return past.kept;
    }

    public int told(int what) throws IllegalArgumentException {
        need(isWithin(what, 0, 11));
        switch (what) {
            case 0: return group.members;
            case 1: return now.number;
            case 2: return now.viewers;
            case 3: return now.up;
            case 4: return now.blocked;
            case 5: return now.wants;
            case 6: return now.parting;
            case 7: return now.messages;
            case 8: return now.countOnTheWay();
            case 9: return lines.size;
            case 10: return stepsRefused;
            default: return group.limit;
        }
    }

    public int member(int member, int what) throws NoSuchElementException, IllegalArgumentException {
        needMember(member);
        need(isWithin(what, 0, 6));
        switch (what) {
            case 0: return now.stands(member) ? 1 : 0;
            case 1: return now.age[member];
            case 2: return Integer.bitCount(now.got[member]);
            case 3: return Integer.bitCount(now.keeps[member]);
            case 4: return now.heldCount[member];
            case 5: return law.weigh(member, now.age[member], now.number, Integer.bitCount(now.viewers));
            default: return now.entries[member];
        }
    }

    public long tally(int member) throws NoSuchElementException {
        needMember(member);
        return now.sum[member];
    }

    public long log(int member, int i) throws NoSuchElementException, NullPointerException, IndexOutOfBoundsException {
        needMember(member);
        needPointer(now.age[member] > 0);
        needIndex(isWithin(i, 0, MOST_ENTRIES - 1) && i < now.entries[member]);
        return now.entry[member * MOST_ENTRIES + i];
    }

    public int message(int k, int what) throws IllegalArgumentException, NullPointerException, IndexOutOfBoundsException {
        need(isWithin(what, 0, 4));
        needIndex(isWithin(k, 0, MOST_MESSAGES - 1));
        needPointer(k < now.messages);
        switch (what) {
            case 0: return now.sender[k];
            case 1: return now.value[k];
            case 2: return State.ownersOf(now.got, k);
            case 3: return State.ownersOf(now.keeps, k);
            default: return now.way[k];
        }
    }

    public int knows(int member, int other) throws NoSuchElementException {
        needMember(member);
        needMember(other);
        return now.lorebook[member * MOST_MEMBERS + other];
    }

    public int stable(int member) throws NoSuchElementException {
        needMember(member);
        return now.stableBy(member);
    }

    public int would(int member, int age, int view, int size) throws IllegalArgumentException {
        need(isWithin(member, 0, MOST_MEMBERS - 1) && isWithin(age, 0, MOST_SPOKEN));
        need(isWithin(view, 0, MOST_SPOKEN) && isWithin(size, 0, MOST_MEMBERS));
        return law.weigh(member, age, view, size);
    }

    public int primary() {
        return quorum.partNow(now);
    }

    public int missing(int member) throws NoSuchElementException {
        needMember(member);
        return now.lackOf(member, quorum.survivorsNow(now));
    }

    public int lost() {
        int part = quorum.partNow(now);
        return part == NONE ? 0 : now.gotByNoneOf(part);
    }

    public int fall() {
        return quorum.fewestToFall(now);
    }

    public int splits() {
        return quorum.countLameSplits(now);
    }

    public int tells() {
        return now.countUntold();
    }

    public int next(int member) throws NoSuchElementException {
        needMember(member);
        return now.firstOnTheWay(member, true);
    }

    public int held(int member, int i) throws NoSuchElementException, IllegalArgumentException {
        needMember(member);
        need(i >= 0);
        if (i >= MOST_HELD || i >= now.heldCount[member]) {
            return NONE;
        }
        return now.held[member * MOST_HELD + i];
    }

    public boolean agree() {
        return now.wouldAgree(quorum.survivorsNow(now));
    }

    public int fits(int what) throws IllegalArgumentException {
        need(isWithin(what, 0, 1));
        lines.sift(now, quorum);
        return what == 0 ? lines.fitting : lines.firstFit;
    }

    public int look(int what) throws IllegalArgumentException {
        need(isWithin(what, 0, 1));
        lines.sift(now, quorum);
        int asked = lines.bestToAsk(group.members);
        if (what == 0 || asked == NONE) {
            return asked;
        }
        return lines.leftAtWorst(asked);
    }

    public int note() {
        signs.write(now);
        return signs.length;
    }

    public int spelt(int i) throws IllegalArgumentException {
        need(i >= 0);
        signs.write(now);
        return signs.signAt(i);
    }

    public int lore(int member) throws NoSuchElementException {
        needMember(member);
        return now.countLore(member);
    }

    public int behind(int what) throws IllegalArgumentException {
        need(isWithin(what, 0, 1));
        int last = now.furthestBehind();
        if (what == 0 || !now.stands(last)) {
            return last;
        }
        return Integer.bitCount(now.got[last]);
    }

    public int storm(int seed, int many, int q, int what) throws IllegalArgumentException {
        need(isWithin(many, 1, MOST_TIMES) && isWithin(q, 0, MOST_Q) && isWithin(what, 0, 3));
        trial.copy(now);
        weather.blow(trial, quorum, seed, many, q);
        switch (what) {
            case 0: return trial.number;
            case 1: return trial.viewers;
            case 2: return trial.messages;
            default: return trial.wouldAgree(quorum.survivorsNow(trial)) ? 1 : 0;
        }
    }

    public int span(int seed, int seeds, int many, int q, int what, int member)
            throws NoSuchElementException, IllegalArgumentException {
        needMember(member);
        need(isWithin(seeds, 1, MOST_SEEDS) && isWithin(many, 1, MOST_TIMES));
        need(isWithin(q, 0, MOST_Q) && isWithin(what, 0, 2));
        int least = 0;
        int greatest = 0;
        int times = 0;
        for (int i = 0; i < seeds; i++) {
            trial.copy(now);
            weather.blow(trial, quorum, seed + i, many, q);
            least = i == 0 ? trial.number : Math.min(least, trial.number);
            greatest = Math.max(greatest, trial.number);
            times += trial.stands(member) ? 1 : 0;
        }
        if (what == 0) {
            return least;
        }
        return what == 1 ? greatest : times;
    }

    public int image() {
        if (imagesKept >= images.length) {
            return -1;
        }
        Image slot = images[imagesKept];
        if (slot == null) {
            slot = new Image();
            images[imagesKept] = slot;
        }
        slot.state.copy(now);
        slot.past.copy(past);
        imagesKept++;
        return imagesKept;
    }

    public int restore() {
        if (imagesKept <= 0 || imagesKept > images.length) {
            return -1;
        }
        imagesKept--;
        Image slot = images[imagesKept];
        if (slot != null) {
            now.copy(slot.state);
            past.copy(slot.past);
        }
        stepsRefused = 0;
        return imagesKept;
    }

    public int status(int what) {
        return isWithin(what, 0, refusals.length - 1) ? refusals[what] : NONE;
    }

    public int count(int what) {
        switch (what) {
            case 0: return imagesKept;
            case 1: return tape.size;
            case 2: return past.kept;
            default: return NONE;
        }
    }

    private void needMember(int member) {
        if (!isWithin(member, 0, group.members - 1)) {
            refusals[NO_SUCH_ELEMENT]++;
            throw new NoSuchElementException();
        }
    }

    private void need(boolean holds) {
        if (!holds) {
            refusals[ILLEGAL_ARGUMENT]++;
            throw new IllegalArgumentException();
        }
    }

    private void needText(int n, int most) {
        need(isWithin(n, 0, Math.min(most, tape.size)));
    }

    private void needPointer(boolean holds) {
        if (!holds) {
            refusals[NULL_POINTER]++;
            throw new NullPointerException();
        }
    }

    private void needIndex(boolean holds) {
        if (!holds) {
            refusals[OUT_OF_BOUNDS]++;
            throw new IndexOutOfBoundsException();
        }
    }

    private static boolean isWithin(int x, int least, int most) {
        return x >= least && x <= most;
    }

    private static boolean has(int set, int member) {
        return member >= 0 && member < MOST_MEMBERS && (set >> member & 1) != 0;
    }

    private static int allOf(int many) {
        return (1 << many) - 1;
    }

    /** The bytes that were fed, and the text that is read from their front. */
    private static final class Tape {
        private static final int END = -1;
        private static final int BLANK = 32;
        // Far above every number that a text may tell, far below what times ten would wrap.
        private static final int HUGE = 1000000;

        private final byte[] bytes = new byte[TAPE_BYTES];
        private int size;
        private int length;
        private int at;
        private int start;
        private int value;
        private int fault;
        private int place = NONE;

        boolean hasRoom() {
            return size + 20 <= TAPE_BYTES;
        }

        void put(int four) {
            for (int shift = 24; shift >= 0; shift -= 8) {
                if (size < bytes.length) {
                    bytes[size] = (byte) (four >> shift);
                    size++;
                }
            }
        }

        void open(int n) {
            length = Math.min(n, size);
            size = 0;
            at = 0;
            fault = 0;
            place = NONE;
        }

        boolean fail(int kind, int where) {
            fault = kind;
            place = where;
            return false;
        }

        /** The sign that comes next behind blanks, or END. */
        int peek() {
            for (int i = at; i >= 0 && i < length && i < bytes.length; i++) {
                at = i;
                if (bytes[i] != BLANK) {
                    return bytes[i] & 255;
                }
            }
            at = length;
            return END;
        }

        boolean isEnded() {
            return peek() == END;
        }

        void skip() {
            at++;
        }

        boolean sign(char due) {
            if (peek() != due) {
                return fail(CANNOT_STAND, at);
            }
            at++;
            return true;
        }

        boolean word() {
            if (!isLetter(peek())) {
                return fail(CANNOT_STAND, at);
            }
            start = at;
            for (int i = start; i < length && isLetter(byteAt(at)); i++) {
                at++;
            }
            return true;
        }

        boolean isWord(String word) {
            if (at - start != word.length() || start < 0 || at > bytes.length) {
                return false;
            }
            for (int i = 0; i < word.length(); i++) {
                if (bytes[start + i] != word.charAt(i)) {
                    return false;
                }
            }
            return true;
        }

        boolean number(int least, int most) {
            if (!isDigit(peek())) {
                return fail(CANNOT_STAND, at);
            }
            start = at;
            value = 0;
            for (int i = start; i < length && isDigit(byteAt(at)); i++) {
                value = Math.min(HUGE, value * 10 + byteAt(at) - '0');
                at++;
            }
            return isWithin(value, least, most) || fail(NO_SUCH_NUMBER, start);
        }

        private int byteAt(int i) {
            return i >= 0 && i < length && i < bytes.length ? bytes[i] & 255 : END;
        }

        static boolean isDigit(int sign) {
            return sign >= '0' && sign <= '9';
        }

        static boolean isLetter(int sign) {
            return sign >= 'a' && sign <= 'z';
        }
    }

    /** What a GROUP tells. */
    private static final class Group {
        private int members;
        private int first;
        private int limit = MOST_MESSAGES;

        boolean read(Tape tape) {
            int many = 0;
            int inside = 0;
            int most = MOST_MESSAGES;
            for (int clauses = 0; clauses <= MOST_CLAUSES && !tape.isEnded(); clauses++) {
                if (!tape.word()) {
                    return false;
                }
                boolean isMember = tape.isWord("member");
                if (!isMember && !tape.isWord("limit")) {
                    return tape.fail(CANNOT_STAND, tape.start);
                }
                if (clauses == MOST_CLAUSES || isMember && many == MOST_MEMBERS) {
                    return tape.fail(TOO_MANY, tape.start);
                }
                if (!readNumber(tape, isMember)) {
                    return false;
                }
                if (isMember) {
                    inside |= tape.value << many;
                    many++;
                } else {
                    most = tape.value;
                }
            }
            members = many;
            first = inside;
            limit = most;
            return true;
        }

        private static boolean readNumber(Tape tape, boolean isMember) {
            boolean good = isMember ? tape.number(0, 1) : tape.number(1, MOST_MESSAGES);
            return good && tape.sign(';');
        }
    }

    /** A LAW, held as signs in the order in which a stack does them. */
    private static final class Law {
        private static final int MOST_NUMBER = 999;
        private static final int MEMBER = 1000;
        private static final int AGE = 1001;
        private static final int VIEW = 1002;
        private static final int SIZE = 1003;
        private static final int LEAST = 1004;
        private static final int MOST = 1005;
        private static final int ADD = 1006;
        private static final int TAKE_OFF = 1007;
        private static final int TIMES = 1008;
        private static final int DIVIDE = 1009;
        private static final int LEAVE = 1010;

        // A text that has a fault must leave the law in force, so each is read into a row of its own.
        private int[] code = new int[TEXT_BYTES];
        private int[] draft = new int[TEXT_BYTES];
        private final int[] stack = new int[TEXT_BYTES];
        private int codeLength;
        private int draftLength;

        Law() {
            forget();
        }

        void forget() {
            code[0] = 1;
            codeLength = 1;
        }

        boolean read(Tape tape) {
            draftLength = 0;
            if (!readSum(tape, 0)) {
                return false;
            }
            if (!tape.isEnded()) {
                return tape.fail(CANNOT_STAND, tape.at);
            }
            int[] old = code;
            code = draft;
            draft = old;
            codeLength = draftLength;
            return true;
        }

        /** A sum's sign has to wait until the products behind it are there; a product's does not. */
        private boolean readSum(Tape tape, int open) {
            int waiting = NONE;
            boolean good = readUnit(tape, open);
            for (int i = 0; good && i < TEXT_BYTES; i++) {
                int kind = joint(tape.peek());
                boolean isProduct = kind == TIMES || kind == DIVIDE || kind == LEAVE;
                if (!isProduct && waiting != NONE) {
                    emit(waiting);
                }
                if (kind == NONE) {
                    return true;
                }
                tape.skip();
                good = readUnit(tape, open);
                if (isProduct) {
                    emit(kind);
                } else {
                    waiting = kind;
                }
            }
            return good;
        }

        private static int joint(int sign) {
            switch (sign) {
                case '+': return ADD;
                case '-': return TAKE_OFF;
                case '*': return TIMES;
                case '/': return DIVIDE;
                case '%': return LEAVE;
                default: return NONE;
            }
        }

        private boolean readUnit(Tape tape, int open) {
            int sign = tape.peek();
            if (Tape.isDigit(sign)) {
                boolean good = tape.number(0, MOST_NUMBER);
                emit(tape.value);
                return good;
            }
            if (sign != '(') {
                return readWord(tape, open);
            }
            if (open >= MOST_OPEN) {
                return tape.fail(TOO_MANY, tape.at);
            }
            tape.skip();
            return readSum(tape, open + 1) && tape.sign(')');
        }

        private boolean readWord(Tape tape, int open) {
            if (!tape.word()) {
                return false;
            }
            int kind = kindOf(tape);
            if (kind == NONE) {
                return tape.fail(CANNOT_STAND, tape.start);
            }
            boolean isPair = kind == LEAST || kind == MOST;
            if (isPair && open >= MOST_OPEN) {
                return tape.fail(TOO_MANY, tape.start);
            }
            boolean good = !isPair || tape.sign('[') && readSum(tape, open + 1)
                    && tape.sign(',') && readSum(tape, open + 1) && tape.sign(']');
            emit(kind);
            return good;
        }

        private static int kindOf(Tape tape) {
            if (tape.isWord("member")) {
                return MEMBER;
            }
            if (tape.isWord("age")) {
                return AGE;
            }
            if (tape.isWord("view")) {
                return VIEW;
            }
            if (tape.isWord("size")) {
                return SIZE;
            }
            if (tape.isWord("least")) {
                return LEAST;
            }
            return tape.isWord("most") ? MOST : NONE;
        }

        private void emit(int sign) {
            if (draftLength < draft.length) {
                draft[draftLength] = sign;
                draftLength++;
            }
        }

        int weigh(int member, int age, int view, int size) {
            int top = 0;
            for (int i = 0; i < codeLength && i < code.length; i++) {
                int sign = code[i];
                int result;
                if (sign >= LEAST) {
                    if (top < 2) {
                        return 0;
                    }
                    top -= 2;
                    result = reckon(sign, stack[top], stack[top + 1]);
                } else {
                    result = sign == MEMBER ? member : sign == AGE ? age : sign == VIEW ? view : sign == SIZE ? size : sign;
                }
                if (top >= stack.length) {
                    return 0;
                }
                stack[top] = result;
                top++;
            }
            return Math.max(0, Math.min(MOST_WEIGHT, stack[0]));
        }

        private static int reckon(int sign, int a, int b) {
            switch (sign) {
                case LEAST: return Math.min(a, b);
                case MOST: return Math.max(a, b);
                case ADD: return a + b;
                case TAKE_OFF: return a - b;
                case TIMES: return a * b;
                case DIVIDE: return b == 0 ? 0 : a / b;
                default: return b == 0 ? 0 : a % b;
            }
        }
    }

    /** A WORK: its STEPS, one behind the other, each again with the place behind its last STEP. */
    private static final class Work {
        private static final int SEND = 0;
        private static final int TAKE = 1;
        private static final int LOSE = 2;
        private static final int TELL = 3;
        private static final int TRIM = 4;
        private static final int CRASH = 5;
        private static final int JOIN = 6;
        private static final int PART = 7;
        private static final int HOLD = 8;
        private static final int VIEW = 9;
        private static final int AGAIN = 10;
        private static final int MOST_VALUE = 999;
        private static final int MOST_AGAIN = 60;

        private final int[] kinds = new int[TEXT_BYTES];
        private final int[] firsts = new int[TEXT_BYTES];
        private final int[] seconds = new int[TEXT_BYTES];
        private int length;
        private int members;
        private int begun;
        private int done;
        private int refused;

        boolean read(Tape tape, int told) {
            length = 0;
            members = told;
            return readSteps(tape, 0);
        }

        private boolean readSteps(Tape tape, int open) {
            for (int i = 0; i < TEXT_BYTES; i++) {
                int sign = tape.peek();
                if (open == 0 ? sign == Tape.END : sign == ']') {
                    return true;
                }
                if (!readStep(tape, open) || !tape.sign(';')) {
                    return false;
                }
            }
            return true;
        }

        private boolean readStep(Tape tape, int open) {
            if (!tape.word()) {
                return false;
            }
            int kind = kindOf(tape);
            if (kind == NONE) {
                return tape.fail(CANNOT_STAND, tape.start);
            }
            if (kind == AGAIN) {
                return readAgain(tape, open);
            }
            int first = 0;
            if (kind != HOLD && kind != VIEW) {
                if (!tape.number(0, kind == PART ? MOST_PARTING : members - 1)) {
                    return false;
                }
                first = tape.value;
            }
            if (kind == SEND && !tape.number(0, MOST_VALUE)) {
                return false;
            }
            emit(kind, first, kind == SEND ? tape.value : 0);
            return true;
        }

        private boolean readAgain(Tape tape, int open) {
            if (open >= MOST_OPEN) {
                return tape.fail(TOO_MANY, tape.start);
            }
            if (!tape.number(0, MOST_AGAIN)) {
                return false;
            }
            int here = length;
            emit(AGAIN, tape.value, 0);
            if (!tape.sign('[') || !readSteps(tape, open + 1) || !tape.sign(']')) {
                return false;
            }
            if (here < seconds.length) {
                seconds[here] = length;
            }
            return true;
        }

        private static int kindOf(Tape tape) {
            if (tape.isWord("send")) {
                return SEND;
            }
            if (tape.isWord("take")) {
                return TAKE;
            }
            if (tape.isWord("lose")) {
                return LOSE;
            }
            if (tape.isWord("tell")) {
                return TELL;
            }
            if (tape.isWord("trim")) {
                return TRIM;
            }
            if (tape.isWord("crash")) {
                return CRASH;
            }
            if (tape.isWord("join")) {
                return JOIN;
            }
            if (tape.isWord("part")) {
                return PART;
            }
            if (tape.isWord("hold")) {
                return HOLD;
            }
            if (tape.isWord("view")) {
                return VIEW;
            }
            return tape.isWord("again") ? AGAIN : NONE;
        }

        private void emit(int kind, int first, int second) {
            if (length < kinds.length) {
                kinds[length] = kind;
                firsts[length] = first;
                seconds[length] = second;
                length++;
            }
        }

        void begin() {
            begun = 0;
            done = 0;
            refused = 0;
        }

        private void run(State state, Quorum quorum, int from, int to, int open) {
            int i = from;
            for (int steps = from; steps < to && i >= 0 && i < to && i < kinds.length; steps++) {
                if (begun >= MOST_BEGUN || open > MOST_OPEN) {
                    return;
                }
                begun++;
                if (kinds[i] != AGAIN) {
                    score(doStep(state, quorum, i));
                    i++;
                    continue;
                }
                for (int round = 0; round < firsts[i] && begun < MOST_BEGUN; round++) {
                    run(state, quorum, i + 1, seconds[i], open + 1);
                }
                i = seconds[i];
            }
        }

        private void score(boolean wasDone) {
            if (wasDone) {
                done++;
            } else {
                refused++;
            }
        }

        private boolean doStep(State state, Quorum quorum, int i) {
            if (i < 0 || i >= kinds.length) {
                return false;
            }
            int first = firsts[i];
            switch (kinds[i]) {
                case SEND: return state.send(first, seconds[i], quorum.limit());
                case TAKE: return state.take(first);
                case LOSE: return state.lose(first);
                case TELL: return state.tell(first);
                case TRIM: return state.trim(first);
                case CRASH: return state.crash(first);
                case JOIN: return state.join(first);
                case PART: return state.part(first);
                case HOLD: return quorum.hold(state);
                default: return quorum.view(state);
            }
        }
    }

    /** All that WORK changes. */
    private static final class State {
        private int number;
        private int viewers;
        private int in;
        private int up;
        private int blocked;
        private int wants;
        private int parting;
        private int messages;
        private final int[] age = new int[MOST_MEMBERS];
        private final int[] got = new int[MOST_MEMBERS];
        private final int[] keeps = new int[MOST_MEMBERS];
        private final int[] lorebook = new int[MOST_MEMBERS * MOST_MEMBERS];
        private final int[] heldCount = new int[MOST_MEMBERS];
        private final int[] held = new int[MOST_MEMBERS * MOST_HELD];
        private final int[] entries = new int[MOST_MEMBERS];
        private final int[] sender = new int[MOST_MESSAGES];
        private final int[] value = new int[MOST_MESSAGES];
        private final int[] way = new int[MOST_MESSAGES];
        private final long[] sum = new long[MOST_MEMBERS];
        private final long[] entry = new long[MOST_MEMBERS * MOST_ENTRIES];

        void begin(int members, int first) {
            number = 1;
            viewers = first;
            in = first;
            up = allOf(members);
            blocked = 0;
            wants = 0;
            parting = 0;
            for (int m = 0; m < MOST_MEMBERS; m++) {
                age[m] = has(first, m) ? 1 : 0;
                heldCount[m] = 0;
                entries[m] = 0;
                sum[m] = 0;
            }
            dropMessages();
        }

        void copy(State from) {
            number = from.number;
            viewers = from.viewers;
            in = from.in;
            up = from.up;
            blocked = from.blocked;
            wants = from.wants;
            parting = from.parting;
            messages = from.messages;
            System.arraycopy(from.age, 0, age, 0, age.length);
            System.arraycopy(from.got, 0, got, 0, got.length);
            System.arraycopy(from.keeps, 0, keeps, 0, keeps.length);
            System.arraycopy(from.lorebook, 0, lorebook, 0, lorebook.length);
            System.arraycopy(from.heldCount, 0, heldCount, 0, heldCount.length);
            System.arraycopy(from.held, 0, held, 0, held.length);
            System.arraycopy(from.entries, 0, entries, 0, entries.length);
            System.arraycopy(from.sender, 0, sender, 0, sender.length);
            System.arraycopy(from.value, 0, value, 0, value.length);
            System.arraycopy(from.way, 0, way, 0, way.length);
            System.arraycopy(from.sum, 0, sum, 0, sum.length);
            System.arraycopy(from.entry, 0, entry, 0, entry.length);
        }

        /** Those that are UP and IN. */
        int standing() {
            return up & in;
        }

        boolean stands(int m) {
            return has(standing(), m);
        }

        private boolean reaches(int m, int other) {
            return has(parting, m) == has(parting, other);
        }

        boolean send(int m, int worth, int limit) {
            if (!stands(m)) {
                return false;
            }
            return has(blocked, m) ? keepBack(m, worth) : post(m, worth, limit);
        }

        private boolean keepBack(int m, int worth) {
            int many = heldCount[m];
            if (many < 0 || many >= MOST_HELD) {
                return false;
            }
            held[m * MOST_HELD + many] = worth;
            heldCount[m] = many + 1;
            return true;
        }

        private boolean post(int m, int worth, int limit) {
            int k = messages;
            if (k >= limit || k < 0 || k >= MOST_MESSAGES) {
                return false;
            }
            messages = k + 1;
            sender[k] = m;
            value[k] = worth;
            way[k] = standing() & ~(1 << m);
            deliver(m, k);
            return true;
        }

        private void deliver(int m, int k) {
            int bit = 1 << k;
            got[m] |= bit;
            keeps[m] |= bit;
            lorebook[m * MOST_MEMBERS + m] |= bit;
            sum[m] += worthOf(k);
            int many = entries[m];
            if (many >= 0 && many < MOST_ENTRIES) {
                entry[m * MOST_ENTRIES + many] = sum[m];
                entries[m] = many + 1;
            }
        }

        private long worthOf(int k) {
            return (value[k] + 1L) * (sender[k] + 1L);
        }

        int firstOnTheWay(int m, boolean onlyReached) {
            if (!stands(m)) {
                return NONE;
            }
            for (int k = 0; k < messages && k < MOST_MESSAGES; k++) {
                if (has(way[k], m) && (!onlyReached || reaches(m, sender[k]))) {
                    return k;
                }
            }
            return NONE;
        }

        boolean take(int m) {
            int k = firstOnTheWay(m, true);
            if (k < 0) {
                return false;
            }
            way[k] &= ~(1 << m);
            deliver(m, k);
            return true;
        }

        boolean lose(int m) {
            int k = firstOnTheWay(m, false);
            if (k < 0) {
                return false;
            }
            way[k] &= ~(1 << m);
            return true;
        }

        boolean tell(int m) {
            if (!stands(m)) {
                return false;
            }
            for (int x = 0; x < MOST_MEMBERS; x++) {
                if (stands(x) && reaches(m, x)) {
                    lorebook[x * MOST_MEMBERS + m] |= got[m];
                }
            }
            return true;
        }

        boolean trim(int m) {
            if (!stands(m)) {
                return false;
            }
            int gone = keeps[m] & stableBy(m);
            keeps[m] &= ~gone;
            return gone != 0;
        }

        int stableBy(int m) {
            if (m < 0 || m >= MOST_MEMBERS) {
                return 0;
            }
            int all = allOf(messages);
            for (int x = 0; x < MOST_MEMBERS; x++) {
                if (has(viewers, x)) {
                    all &= lorebook[m * MOST_MEMBERS + x];
                }
            }
            return all;
        }

        boolean crash(int m) {
            if (!has(up, m)) {
                return false;
            }
            int others = ~(1 << m);
            up &= others;
            in &= others;
            blocked &= others;
            wants &= others;
            heldCount[m] = 0;
            got[m] = 0;
            keeps[m] = 0;
            for (int x = 0; x < MOST_MEMBERS; x++) {
                lorebook[m * MOST_MEMBERS + x] = 0;
            }
            for (int k = 0; k < MOST_MESSAGES; k++) {
                way[k] &= others;
            }
            return true;
        }

        boolean join(int m) {
            if (stands(m) || has(wants, m)) {
                return false;
            }
            up |= 1 << m;
            wants |= 1 << m;
            return true;
        }

        boolean part(int sets) {
            if (parting == sets) {
                return false;
            }
            parting = sets;
            return true;
        }

        private int keptBy(int survivors) {
            int kept = 0;
            for (int m = 0; m < MOST_MEMBERS; m++) {
                kept |= has(survivors, m) ? keeps[m] : 0;
            }
            return kept;
        }

        int lackOf(int m, int survivors) {
            return has(survivors, m) ? keptBy(survivors) & ~got[m] : 0;
        }

        int gotByNoneOf(int part) {
            int none = allOf(messages);
            for (int m = 0; m < MOST_MEMBERS; m++) {
                none &= has(part, m) ? ~got[m] : -1;
            }
            return none;
        }

        boolean wouldAgree(int survivors) {
            boolean isFirst = true;
            long common = 0;
            for (int m = 0; m < MOST_MEMBERS; m++) {
                if (!has(survivors, m)) {
                    continue;
                }
                long mine = sumBehindFlush(m, survivors);
                if (!isFirst && mine != common) {
                    return false;
                }
                isFirst = false;
                common = mine;
            }
            return true;
        }

        private long sumBehindFlush(int m, int survivors) {
            int lack = lackOf(m, survivors);
            long all = sum[m];
            for (int k = 0; k < MOST_MESSAGES; k++) {
                all += (lack >> k & 1) != 0 ? worthOf(k) : 0;
            }
            return all;
        }

        private void flush(int survivors) {
            int kept = keptBy(survivors);
            for (int m = 0; m < MOST_MEMBERS; m++) {
                int lack = has(survivors, m) ? kept & ~got[m] : 0;
                for (int k = 0; k < MOST_MESSAGES; k++) {
                    if ((lack >> k & 1) != 0) {
                        deliver(m, k);
                    }
                }
            }
        }

        /** The FLUSH and the VIEW behind it, of these survivors and joiners; what is HELD is not sent yet. */
        void changeView(int survivors, int joiners) {
            flush(survivors);
            int least = Integer.numberOfTrailingZeros(survivors);
            number++;
            viewers = survivors | joiners;
            for (int m = 0; m < MOST_MEMBERS; m++) {
                if (has(viewers, m)) {
                    age[m]++;
                } else {
                    heldCount[m] = 0;
                }
                if (has(joiners, m) && least < MOST_MEMBERS) {
                    sum[m] = sum[least];
                    entry[m * MOST_ENTRIES] = sum[m];
                    entries[m] = 1;
                }
            }
            in = viewers;
            wants &= ~joiners;
            blocked = 0;
            dropMessages();
        }

        private void dropMessages() {
            messages = 0;
            for (int m = 0; m < MOST_MEMBERS; m++) {
                got[m] = 0;
                keeps[m] = 0;
            }
            for (int i = 0; i < lorebook.length; i++) {
                lorebook[i] = 0;
            }
            for (int k = 0; k < MOST_MESSAGES; k++) {
                way[k] = 0;
            }
        }

        void sendHeld(int limit) {
            for (int m = 0; m < MOST_MEMBERS; m++) {
                for (int i = 0; i < heldCount[m] && i < MOST_HELD; i++) {
                    // Nobody is BLOCKED behind a new VIEW, and who has something HELD is IN it.
                    post(m, held[m * MOST_HELD + i], limit);
                }
                heldCount[m] = 0;
            }
        }

        int countOnTheWay() {
            int all = 0;
            for (int k = 0; k < messages && k < MOST_MESSAGES; k++) {
                all += Integer.bitCount(way[k]);
            }
            return all;
        }

        static int ownersOf(int[] rows, int k) {
            int owners = 0;
            for (int m = 0; m < MOST_MEMBERS && m < rows.length; m++) {
                owners |= (rows[m] >> k & 1) << m;
            }
            return owners;
        }

        /**
         * A tell spreads what the teller itself has GOT and nothing else, so each MEMBER
         * of which somebody does not know all has to tell once, and one time is enough.
         */
        int countUntold() {
            int many = 0;
            for (int m = 0; m < MOST_MEMBERS; m++) {
                many += stands(m) && isUntold(m) ? 1 : 0;
            }
            return many;
        }

        private boolean isUntold(int m) {
            for (int x = 0; x < MOST_MEMBERS; x++) {
                if (stands(x) && reaches(m, x) && (got[m] & ~lorebook[x * MOST_MEMBERS + m]) != 0) {
                    return true;
                }
            }
            return false;
        }

        int countLore(int m) {
            int all = 0;
            for (int x = 0; x < MOST_MEMBERS; x++) {
                all += has(viewers, x) ? Integer.bitCount(lorebook[m * MOST_MEMBERS + x]) : 0;
            }
            return all;
        }

        int furthestBehind() {
            int last = NONE;
            int fewest = MOST_MESSAGES + 1;
            for (int m = 0; m < MOST_MEMBERS; m++) {
                int many = Integer.bitCount(got[m]);
                if (stands(m) && many < fewest) {
                    last = m;
                    fewest = many;
                }
            }
            return last;
        }
    }

    /** WEIGHTS of a state, and what hangs on which part has more than half of them. */
    private static final class Quorum {
        private final Group group;
        private final Law law;
        private final int[] weights = new int[MOST_MEMBERS];
        private int total;

        Quorum(Group group, Law law) {
            this.group = group;
            this.law = law;
        }

        int limit() {
            return group.limit;
        }

        int members() {
            return group.members;
        }

        /** How many sets of MEMBERS there are by which a net can be parted. */
        int partings() {
            return 1 << group.members;
        }

        /** Must come ahead of partBy, which may then be asked often for one weighing. */
        void weigh(State state) {
            int size = Integer.bitCount(state.viewers);
            total = 0;
            for (int m = 0; m < group.members && m < MOST_MEMBERS; m++) {
                weights[m] = law.weigh(m, state.age[m], state.number, size);
                total += has(state.viewers, m) ? weights[m] : 0;
            }
        }

        private boolean hasMoreThanHalf(int standing) {
            int together = 0;
            for (int m = 0; m < MOST_MEMBERS; m++) {
                together += has(standing, m) ? weights[m] : 0;
            }
            return 2 * together > total;
        }

        /** The PRIMARY PART, were the net parted so and these UP and IN; NONE without. */
        int partBy(State state, int parting, int standing) {
            int side = parting;
            if (!hasMoreThanHalf(standing & side)) {
                side = ~parting;
                if (!hasMoreThanHalf(standing & side)) {
                    return NONE;
                }
            }
            return side & (standing | state.up & state.wants);
        }

        int partNow(State state) {
            weigh(state);
            return partBy(state, state.parting, state.standing());
        }

        int survivorsNow(State state) {
            int part = partNow(state);
            return part == NONE ? 0 : part & state.standing();
        }

        boolean hold(State state) {
            weigh(state);
            int part = partBy(state, state.parting, state.standing());
            int survivors = part & state.standing();
            if (part == NONE || (survivors & ~state.blocked) == 0) {
                return false;
            }
            state.blocked |= survivors;
            return true;
        }

        boolean view(State state) {
            weigh(state);
            int part = partBy(state, state.parting, state.standing());
            int survivors = part & state.standing();
            int joiners = part & state.wants;
            if (part == NONE || (survivors & ~state.blocked) != 0 || part == state.viewers && joiners == 0) {
                return false;
            }
            state.changeView(survivors, joiners);
            state.sendHeld(group.limit);
            return true;
        }

        int fewestToFall(State state) {
            if (partNow(state) == NONE) {
                return 0;
            }
            int standing = state.standing();
            int fewest = MOST_MEMBERS;
            for (int fallen = 0; fallen < partings(); fallen++) {
                boolean mayFall = (fallen & ~standing) == 0;
                if (mayFall && partBy(state, state.parting, standing & ~fallen) == NONE) {
                    fewest = Math.min(fewest, Integer.bitCount(fallen));
                }
            }
            return fewest;
        }

        int countLameSplits(State state) {
            weigh(state);
            int many = 0;
            for (int parting = 0; parting < partings(); parting++) {
                many += partBy(state, parting, state.standing()) == NONE ? 1 : 0;
            }
            return many;
        }
    }

    /** A BOOK, and which partings fit it. */
    private static final class Book {
        private int size;
        private int named;
        private int inside;
        private int fitting;
        private int firstFit;
        private final int[] fittingWith = new int[MOST_MEMBERS];

        void forget() {
            size = 0;
            named = 0;
            inside = 0;
        }

        boolean read(Tape tape, int members) {
            int allNamed = 0;
            int allInside = 0;
            for (int i = 0; i <= MOST_MEMBERS && !tape.isEnded(); i++) {
                if (!tape.number(0, members - 1)) {
                    return false;
                }
                int m = tape.value;
                if (has(allNamed, m)) {
                    return tape.fail(NO_SUCH_NUMBER, tape.start);
                }
                if (!tape.number(0, 1) || !tape.sign(';')) {
                    return false;
                }
                allNamed |= 1 << m;
                allInside |= tape.value << m;
            }
            size = Integer.bitCount(allNamed);
            named = allNamed;
            inside = allInside;
            return true;
        }

        void sift(State state, Quorum quorum) {
            quorum.weigh(state);
            fitting = 0;
            firstFit = NONE;
            for (int m = 0; m < MOST_MEMBERS; m++) {
                fittingWith[m] = 0;
            }
            for (int parting = 0; parting < quorum.partings(); parting++) {
                int part = quorum.partBy(state, parting, state.standing());
                int coming = part == NONE ? 0 : part;
                if ((coming & named) == inside) {
                    firstFit = fitting == 0 ? parting : firstFit;
                    fitting++;
                    addWith(coming);
                }
            }
        }

        private void addWith(int coming) {
            for (int m = 0; m < MOST_MEMBERS; m++) {
                fittingWith[m] += has(coming, m) ? 1 : 0;
            }
        }

        int leftAtWorst(int m) {
            if (m < 0 || m >= MOST_MEMBERS) {
                return NONE;
            }
            return Math.max(fittingWith[m], fitting - fittingWith[m]);
        }

        int bestToAsk(int members) {
            int best = NONE;
            for (int m = 0; m < members && m < MOST_MEMBERS; m++) {
                if (!has(named, m) && (best == NONE || leftAtWorst(m) < leftAtWorst(best))) {
                    best = m;
                }
            }
            return best;
        }
    }

    /** NOTE of the VIEW. */
    private static final class Note {
        private static final int MOST_DIGITS = 10;

        private final char[] signs = new char[64];
        private int length;

        void write(State state) {
            length = 0;
            put('v');
            putNumber(state.number);
            put(':');
            boolean isFirst = true;
            for (int m = 0; m < MOST_MEMBERS; m++) {
                if (has(state.viewers, m)) {
                    if (!isFirst) {
                        put(',');
                    }
                    isFirst = false;
                    putMember(state, m);
                }
            }
            put(';');
            putNumber(state.messages);
        }

        private void putMember(State state, int m) {
            putNumber(m);
            if (has(state.blocked, m)) {
                put('!');
            }
            if (!has(state.up, m)) {
                put('?');
            }
        }

        private void putNumber(int n) {
            int unit = 1;
            for (int rest = n / 10; rest > 0; rest /= 10) {
                unit *= 10;
            }
            for (int i = 0; i < MOST_DIGITS && unit > 0; i++) {
                put((char) ('0' + n / unit % 10));
                unit /= 10;
            }
        }

        private void put(char sign) {
            if (length < signs.length) {
                signs[length] = sign;
                length++;
            }
        }

        int signAt(int i) {
            return i >= 0 && i < length && i < signs.length ? signs[i] : NONE;
        }
    }

    /** A STORM. */
    private static final class Storm {
        private int seed;

        void blow(State state, Quorum quorum, int first, int many, int q) {
            seed = first;
            for (int i = 0; i < many && i < MOST_TIMES; i++) {
                if (quorum.members() > 0) {
                    gust(state, quorum, q);
                }
            }
        }

        private void gust(State state, Quorum quorum, int q) {
            int m = draw(quorum.members());
            switch (draw(8)) {
                case 0:
                case 1:
                    state.send(m, draw(100), quorum.limit());
                    break;
                case 2:
                case 3:
                    state.take(m);
                    break;
                case 4:
                    state.lose(m);
                    break;
                case 5:
                    state.tell(m);
                    break;
                case 6:
                    crashOrJoin(state, m, draw(16) < q);
                    break;
                default:
                    quorum.hold(state);
                    quorum.view(state);
                    break;
            }
        }

        private static void crashOrJoin(State state, int m, boolean crashes) {
            if (crashes) {
                state.crash(m);
            } else {
                state.join(m);
            }
        }

        private int draw(int by) {
            seed = seed * 1103515245 + 12345;
            return by > 0 ? (seed >>> 16 & 32767) % by : 0;
        }
    }

    /** States ahead of WORKS that can be undone. */
    private static final class Past {
        // Rows are made when first needed and then used again: most runs need few of them.
        private final State[] rows = new State[MOST_WORKS];
        private int kept;

        boolean isFull() {
            return kept >= MOST_WORKS;
        }

        void forget() {
            kept = 0;
        }

        void keep(State state) {
            if (put(kept, state)) {
                kept++;
            }
        }

        boolean giveBack(State into) {
            if (kept <= 0 || kept > rows.length) {
                return false;
            }
            kept--;
            State row = rows[kept];
            if (row != null) {
                into.copy(row);
            }
            return true;
        }

        void copy(Past from) {
            for (int i = 0; i < from.kept && i < from.rows.length; i++) {
                State row = from.rows[i];
                if (row != null) {
                    put(i, row);
                }
            }
            kept = from.kept;
        }

        private boolean put(int i, State state) {
            if (i < 0 || i >= rows.length) {
                return false;
            }
            State row = rows[i];
            if (row == null) {
                row = new State();
                rows[i] = row;
            }
            row.copy(state);
            return true;
        }
    }

    /** An IMAGE. */
    private static final class Image {
        private final State state = new State();
        private final Past past = new Past();
    }
}
