import java.util.Arrays;

/** Two KINGS who are to meet on a raft, and the ceremonies around it; ../shared/DOC.md tells all terms. */
public final class TwoKings {
    public static final int NONE = -1;

    private static final int NEVER = -2;
    private static final int NOT_NAMED = -2;
    private static final int NOT_ENOUGH = -2;
    private static final int BAD_TITLE = -2;
    private static final int CONTRADICTED = -3;
    private static final int BAD_CUSHION = -3;
    private static final int NO_MOVE = -4;
    private static final int FAULT = -1000;
    private static final int MOST_BREATHS = 240;
    private static final int LONGEST_LAW = 240;
    private static final int LONGEST_TEXT = 120;
    private static final int ACTS = 16;

    private final Tape tape;
    private final Law law;
    private final LawReader lawReader;
    private final OrdersReader ordersReader;
    private final Treaty treaty;
    private final TreatyReader treatyReader;
    private final Meeting now;
    private final Meeting trial;
    private final Meeting kept;
    private final Lane mules;
    private final Ceremonies ceremonies;
    private boolean hasKept;
    private int stepTolerance;
    private int bowTolerance;

    public TwoKings() {
        tape = new Tape();
        law = new Law();
        lawReader = new LawReader(tape);
        ordersReader = new OrdersReader(tape);
        treaty = new Treaty();
        treatyReader = new TreatyReader(tape);
        now = new Meeting();
        trial = new Meeting();
        kept = new Meeting();
        mules = new Lane();
        ceremonies = new Ceremonies(tape);
    }

    public boolean king(int k, int stepsLeft, boolean limps) {
        if (outside(k, 0, 1) || outside(stepsLeft, 0, 999)) {
            return false;
        }
        now.kingOf(k).begin(stepsLeft, limps);
        return true;
    }

    public boolean tolerance(int steps, int degrees) {
        if (outside(steps, 0, 99) || outside(degrees, 0, 90)) {
            return false;
        }
        stepTolerance = steps;
        bowTolerance = degrees;
        return true;
    }

    public int feed(int a, int b, int c, int d, int e) {
        if (tape.size + 20 > Tape.LONGEST) {
            return NONE;
        }
        tape.append(a);
        tape.append(b);
        tape.append(c);
        tape.append(d);
        tape.append(e);
        return tape.size;
    }

    public int law(int n) {
        if (outside(n, 1, LONGEST_LAW) || !tape.has(n)) {
            return NONE;
        }
        int rules = lawReader.readText(n);
        tape.clear();
        if (rules > 0) {
            law.become(lawReader.draft);
        }
        return rules;
    }

    public int orders(int n) {
        if (outside(n, 1, LONGEST_TEXT) || !tape.has(n)) {
            return NONE;
        }
        int lines = ordersReader.readText(n);
        tape.clear();
        if (lines > 0) {
            ordersReader.obey(now, lines);
        }
        return lines;
    }

    public int treaty(int n) {
        if (outside(n, 1, LONGEST_TEXT) || !tape.has(n)) {
            return NONE;
        }
        int lines = treatyReader.readText(n);
        tape.clear();
        if (lines > 0) {
            treaty.become(treatyReader, lines);
        }
        return lines;
    }

    public int breaths(int n) {
        if (outside(n, 1, MOST_BREATHS)) {
            return NONE;
        }
        int gone = 0;
        while (gone < n && goesBy(now)) {
            gone++;
        }
        return gone;
    }

    public int tried(int n, int what) {
        boolean known = !outside(what, 0, 2) || !outside(what, 10, 11)
                || !outside(what, 20, 21) || !outside(what, 30, 31);
        if (outside(n, 1, MOST_BREATHS) || !known) {
            return NONE;
        }
        trial.become(now);
        int gone = 0;
        while (gone < n && goesBy(trial)) {
            gone++;
        }
        switch (what) {
            case 0: return gone;
            case 1: return trial.haveMet() ? 1 : 0;
            case 2: return trial.whoLeft();
            default: return triedKing(trial.kingOf(what % 10), what / 10);
        }
    }

    public int kingIs(int k, int what) {
        if (outside(k, 0, 1)) {
            return NONE;
        }
        King one = now.kingOf(k);
        switch (what) {
            case 0: return one.stepsLeft;
            case 1: return one.bow;
            case 2: return one.offence;
            case 3: return one.hatOn ? 1 : 0;
            case 4: return one.limps ? 1 : 0;
            case 5: return one.hasLeft ? 1 : 0;
            default: return NONE;
        }
    }

    public int meet(int n, int what) {
        if (outside(n, 1, MOST_BREATHS) || outside(what, 0, 1)) {
            return NONE;
        }
        trial.become(now);
        int first = 0;
        for (int gone = 0; gone <= n; gone++) {
            if (first == 0) {
                first = trial.whoArrived();
            }
            if (trial.haveMet()) {
                return what == 0 ? gone : whoOfBits(first);
            }
            if (!goesBy(trial)) {
                return NEVER;
            }
        }
        return NEVER;
    }

    public int leaves(int n, int what) {
        if (outside(n, 1, MOST_BREATHS) || outside(what, 0, 1)) {
            return NONE;
        }
        trial.become(now);
        for (int gone = 0; gone <= n; gone++) {
            int left = trial.whoLeft();
            if (left != 0) {
                return what == 0 ? whoOfBits(left) : gone;
            }
            if (!goesBy(trial)) {
                return NEVER;
            }
        }
        return NEVER;
    }

    public int worst(int n) {
        if (outside(n, 1, MOST_BREATHS)) {
            return NONE;
        }
        trial.become(now);
        int greatest = Math.abs(trial.lead());
        for (int gone = 0; gone < n && goesBy(trial); gone++) {
            greatest = Math.max(greatest, Math.abs(trial.lead()));
        }
        return greatest;
    }

    public int nearer(int n, int what) {
        if (outside(n, 1, MOST_BREATHS) || outside(what, 0, 4)) {
            return NONE;
        }
        trial.become(now);
        King offended = trial.kingOf(what == 4 ? 1 : 0);
        int offence = offended.offence;
        int times = 0;
        for (int gone = 0; gone < n && goesBy(trial); gone++) {
            if (what < 3 ? trial.whoIsNearer() == what : offended.offence > offence) {
                times++;
            }
            offence = offended.offence;
        }
        return times;
    }

    public int moments(int what) {
        if (what == 101) {
            return treaty.contradiction == NONE ? NEVER : treaty.contradiction;
        }
        if (outside(what, 0, ACTS - 1) && what != 100) {
            return NONE;
        }
        if (treaty.contradiction != NONE) {
            return CONTRADICTED;
        }
        if (what != 100 && !treaty.names(what)) {
            return NOT_NAMED;
        }
        return what == 100 ? treaty.lastMoment() : treaty.momentOf(what);
    }

    public int act(int a, int what) {
        if (outside(a, 0, ACTS - 1) || outside(what, 0, 1)) {
            return NONE;
        }
        if (treaty.contradiction != NONE) {
            return CONTRADICTED;
        }
        if (!treaty.names(a)) {
            return NOT_NAMED;
        }
        return what == 0 ? treaty.atOnceWith(a) : treaty.aheadOf(a);
    }

    public int lane(int n, int what) {
        if (outside(n, 2, Lane.LONGEST) || outside(what, 0, 1) || !tape.has(n)) {
            return NONE;
        }
        int wrong = mules.readFrom(tape, n);
        tape.clear();
        if (wrong != NONE) {
            return FAULT - wrong;
        }
        if (!mules.canPass()) {
            return NEVER;
        }
        return what == 0 ? mules.moves : mules.firstPlace;
    }

    public int signing(int n, int what) {
        if (outside(n, 1, 12) || outside(what, 0, 1) || !tape.has(2 * n)) {
            return NONE;
        }
        ceremonies.sign(n);
        tape.clear();
        return what == 0 ? ceremonies.best : ceremonies.second;
    }

    public int titles(int n, int m, int what) {
        boolean known = !outside(n, 1, 10) && !outside(m, 1, 10) && !outside(what, 0, 1);
        if (!known || !tape.has(n + m)) {
            return NONE;
        }
        boolean fine = ceremonies.allWithin(n + m, 1, 20);
        if (fine) {
            ceremonies.readTitles(n, m);
        }
        tape.clear();
        if (!fine) {
            return BAD_TITLE;
        }
        return what == 0 ? ceremonies.best : ceremonies.second;
    }

    public int gifts(int n, int what) {
        if (outside(n, 1, 8) || outside(what, 0, 1) || !tape.has(2 * n)) {
            return NONE;
        }
        ceremonies.openGifts(n);
        tape.clear();
        return what == 0 ? ceremonies.best : ceremonies.second;
    }

    public int cushions(int n, int first, int second, int what) {
        boolean known = !outside(n, 1, 8) && !outside(first, 0, 99)
                && !outside(second, 0, 99) && !outside(what, 0, 2);
        if (!known || !tape.has(n)) {
            return NONE;
        }
        boolean fine = ceremonies.allWithin(n, 1, 30);
        if (fine) {
            ceremonies.pile(n, first, second);
        }
        tape.clear();
        if (!fine) {
            return BAD_CUSHION;
        }
        if (ceremonies.best == NONE) {
            return NEVER;
        }
        switch (what) {
            case 0: return ceremonies.best;
            case 1: return ceremonies.second;
            default: return ceremonies.third;
        }
    }

    public int table(int n, int what) {
        if (outside(n, 2, 6) || (outside(what, 0, n - 1) && outside(what, 100, 101)) || !tape.has(n)) {
            return NONE;
        }
        ceremonies.seatAll(n);
        tape.clear();
        switch (what) {
            case 100: return ceremonies.best;
            case 101: return ceremonies.second;
            default: return ceremonies.best == 0 ? NEVER : ceremonies.seatedBehind(what);
        }
    }

    public int drums(int first, int each, int otherFirst, int otherEach) {
        if (outside(first, 0, 999) || outside(otherFirst, 0, 999)
                || outside(each, 1, 1000) || outside(otherEach, 1, 1000)) {
            return NONE;
        }
        // The other drum starts within 999 beats of the first, and all its remainders come by within 1000 more.
        for (int i = 0; i < 2000; i++) {
            int beat = first + i * each;
            if (beat >= otherFirst && (beat - otherFirst) % otherEach == 0) {
                return beat;
            }
        }
        return NEVER;
    }

    public int tent(int n, int what) {
        if (outside(n, 2, 20) || outside(what, 0, 1) || !tape.has(n)) {
            return NONE;
        }
        ceremonies.cut(n);
        tape.clear();
        return what == 0 ? ceremonies.second : ceremonies.best;
    }

    public long stairs(int n, int k, int steps) {
        if (outside(n, 1, Ceremonies.MOST_STAIRS) || outside(k, 3, 5)
                || outside(steps, 0, Ceremonies.MOST_STAIRS)) {
            return NONE;
        }
        return ceremonies.climb(n, k, steps);
    }

    public int heralds(int n, int m) {
        if (outside(n, 0, 10) || outside(m, 0, 10)) {
            return NONE;
        }
        int rows = 1;
        for (int i = 1; i <= m; i++) {
            rows = rows * (n + i) / i;
        }
        return rows;
    }

    public boolean seed(int x) {
        if (outside(x, 0, 65535)) {
            return false;
        }
        now.x = x;
        return true;
    }

    public int keep() {
        kept.become(now);
        hasKept = true;
        return now.breath;
    }

    public boolean undo() {
        if (!hasKept) {
            return false;
        }
        now.become(kept);
        return true;
    }

    public int check() {
        if (!tape.has(4)) {
            return NOT_ENOUGH;
        }
        int wrong = NONE;
        for (int i = 3; i >= 0; i--) {
            King one = now.kingOf(i % 2);
            int is = i < 2 ? one.bow : one.offence % 256;
            if (is != tape.byteAt(i)) {
                wrong = i;
            }
        }
        tape.clear();
        return wrong;
    }

    public int count(int what) {
        switch (what) {
            case 0: return now.breath;
            case 1: return now.haveMet() ? 1 : 0;
            case 2: return now.whoLeft();
            case 3: return treaty.lines;
            case 4: return law.rules;
            case 5: return tape.size;
            case 6: return now.x;
            case 7: return stepTolerance;
            case 8: return bowTolerance;
            case 9: return treaty.named;
            default: return NONE;
        }
    }

    private boolean goesBy(Meeting meeting) {
        return meeting.breathe(law, stepTolerance, bowTolerance);
    }

    private static int triedKing(King one, int what) {
        switch (what) {
            case 1: return one.stepsLeft;
            case 2: return one.offence;
            default: return one.bow;
        }
    }

    private static boolean outside(int number, int least, int most) {
        return number < least || number > most;
    }

    /** Of the bits of one or both KINGS: 0, 1, or 2 for both. */
    private static int whoOfBits(int bits) {
        return bits - 1;
    }

    /** Bytes that were fed and not yet used. */
    private static final class Tape {
        private static final int LONGEST = 260;
        private final int[] bytes = new int[LONGEST];
        private int size;

        boolean has(int n) {
            return n <= size;
        }

        void append(int word) {
            for (int shift = 24; shift >= 0 && size < LONGEST; shift -= 8) {
                bytes[size] = (word >> shift) & 255;
                size++;
            }
        }

        int byteAt(int i) {
            return i >= 0 && i < size ? bytes[i] : NONE;
        }

        void clear() {
            size = 0;
        }
    }

    private static final class King {
        private static final int MOST_OFFENCE = 9999;
        private static final int DEEPEST = 90;
        private int stepsLeft;
        private int bow;
        private int offence;
        private boolean hatOn = true;
        private boolean limps;
        private boolean hasLeft;
        // What THE LAW asks of him: both are asked before either moves.
        private int forward;
        private int deeper;
        private int higher;
        private boolean hatOnNext;
        private boolean leavesNext;

        void begin(int steps, boolean limping) {
            stepsLeft = steps;
            limps = limping;
            bow = 0;
            offence = 0;
            hatOn = true;
            hasLeft = false;
        }

        void become(King other) {
            stepsLeft = other.stepsLeft;
            bow = other.bow;
            offence = other.offence;
            hatOn = other.hatOn;
            limps = other.limps;
            hasLeft = other.hasLeft;
        }

        void ask(Law law) {
            forward = law.amountOf('f', 9);
            deeper = law.amountOf('d', DEEPEST);
            higher = law.amountOf('u', DEEPEST);
            hatOnNext = law.speaksOf('h') ? !law.anyHolds('h') : hatOn;
            leavesNext = law.anyHolds('x');
        }

        void goForward(int steps) {
            stepsLeft = Math.max(0, stepsLeft - steps);
        }

        void appease(int much) {
            offence = Math.max(0, offence - much);
        }

        void move() {
            goForward(limps ? forward / 2 : forward);
            bow = Math.max(0, Math.min(DEEPEST, bow + deeper - higher));
            hatOn = hatOnNext;
        }

        void takeOffence(King other, int stepTolerance, int bowTolerance) {
            int farther = stepsLeft - other.stepsLeft;
            int lower = bow - other.bow;
            int more = farther > stepTolerance ? farther : 0;
            if (lower > bowTolerance) {
                more += lower;
            }
            if (!hatOn && other.hatOn) {
                more++;
            }
            offence = Math.min(MOST_OFFENCE, offence + more);
        }
    }

    /** Both KINGS, THE BREATH and X: what is KEPT, tried and UNDONE together. */
    private static final class Meeting {
        private static final int LAST_BREATH = 9999;
        private final King first = new King();
        private final King other = new King();
        private int breath;
        private int x = 1;

        King kingOf(int k) {
            return k == 1 ? other : first;
        }

        void become(Meeting model) {
            first.become(model.first);
            other.become(model.other);
            breath = model.breath;
            x = model.x;
        }

        int whoArrived() {
            return (first.stepsLeft == 0 ? 1 : 0) + (other.stepsLeft == 0 ? 2 : 0);
        }

        boolean haveMet() {
            return whoArrived() == 3;
        }

        int whoLeft() {
            return (first.hasLeft ? 1 : 0) + (other.hasLeft ? 2 : 0);
        }

        /** By how many STEPS KING 0 is nearer. */
        int lead() {
            return other.stepsLeft - first.stepsLeft;
        }

        int whoIsNearer() {
            if (lead() == 0) {
                return 2;
            }
            return lead() > 0 ? 0 : 1;
        }

        /** A BREATH, if one can go by; whether it did. */
        boolean breathe(Law law, int stepTolerance, int bowTolerance) {
            if (haveMet() || whoLeft() != 0 || breath >= LAST_BREATH) {
                return false;
            }
            law.lookAt(0, first, other, breath, draw());
            first.ask(law);
            law.lookAt(1, other, first, breath, draw());
            other.ask(law);
            first.move();
            other.move();
            first.takeOffence(other, stepTolerance, bowTolerance);
            other.takeOffence(first, stepTolerance, bowTolerance);
            first.hasLeft = first.leavesNext;
            other.hasLeft = other.leavesNext;
            breath++;
            return true;
        }

        private int draw() {
            x = (25173 * x + 13849) & 65535;
            return x % 10;
        }
    }

    /**
     * THE LAW as code that is read from the left with a stack. A sign of the text stands for itself;
     * what goes with it (a number, a letter's place, where to go on) stands in the higher bits.
     */
    private static final class Law {
        private static final int MOST_RULES = 16;
        private static final int NUMBER = '#';
        private static final int LETTER = '@';
        private static final int END = ';';
        private static final String LETTERS = "kpqbcovatr";
        // A sign of the text makes one piece of code at most, so no text makes more than it is long.
        private final int[] code = new int[LONGEST_LAW];
        private final int[] letters = new int[MOST_RULES];
        private final int[] amountAt = new int[MOST_RULES];
        private final int[] testAt = new int[MOST_RULES];
        // Six brackets with three open values in each are the most that a text can ask for.
        private final int[] stack = new int[32];
        private final int[] seen = new int[10];
        private int size;
        private int rules;

        void clear() {
            size = 0;
            rules = 0;
        }

        void become(Law draft) {
            size = draft.size;
            rules = draft.rules;
            System.arraycopy(draft.code, 0, code, 0, code.length);
            System.arraycopy(draft.letters, 0, letters, 0, MOST_RULES);
            System.arraycopy(draft.amountAt, 0, amountAt, 0, MOST_RULES);
            System.arraycopy(draft.testAt, 0, testAt, 0, MOST_RULES);
        }

        void beginRule(int letter) {
            if (rules < MOST_RULES) {
                letters[rules] = letter;
                amountAt[rules] = size;
                testAt[rules] = size;
                rules++;
            }
        }

        void beginTest() {
            if (rules > 0) {
                testAt[rules - 1] = size;
            }
        }

        /** Puts a piece of code behind the rest; where it stands. */
        int put(int sign, int with) {
            if (size < code.length) {
                code[size] = with << 8 | sign;
                size++;
            }
            return size - 1;
        }

        /** Lets a & or | that was put go on behind all that has been put since. */
        void letGoOnHere(int at) {
            if (at >= 0 && at < size) {
                code[at] = size << 8 | (code[at] & 255);
            }
        }

        /** What the LETTERS stand for, till the next look. */
        void lookAt(int k, King king, King other, int breath, int draw) {
            seen[0] = k;
            seen[1] = king.stepsLeft;
            seen[2] = other.stepsLeft;
            seen[3] = king.bow;
            seen[4] = other.bow;
            seen[5] = king.offence;
            seen[6] = other.offence;
            seen[7] = other.hatOn ? 1 : 0;
            seen[8] = breath % 100;
            seen[9] = draw;
        }

        int amountOf(int letter, int most) {
            for (int i = 0; i < rules; i++) {
                if (letters[i] == letter && reckon(testAt[i]) != 0) {
                    return Math.max(0, Math.min(most, reckon(amountAt[i])));
                }
            }
            return 0;
        }

        boolean anyHolds(int letter) {
            for (int i = 0; i < rules; i++) {
                if (letters[i] == letter && reckon(testAt[i]) != 0) {
                    return true;
                }
            }
            return false;
        }

        boolean speaksOf(int letter) {
            for (int i = 0; i < rules; i++) {
                if (letters[i] == letter) {
                    return true;
                }
            }
            return false;
        }

        /** The value of an E or a C (1, 0) whose code begins there; 0, too, for the whole of it if it is REFUSED. */
        private int reckon(int from) {
            int top = 0;
            for (int i = from; i >= 0 && i < size && (code[i] & 255) != END; i++) {
                int sign = code[i] & 255;
                int with = code[i] >> 8;
                if (sign == NUMBER || sign == LETTER) {
                    if (top >= stack.length) {
                        return 0;
                    }
                    stack[top] = sign == NUMBER ? with : seenAt(with);
                    top++;
                } else if (top > 0 && (sign == '&' || sign == '|')) {
                    if ((stack[top - 1] != 0) == (sign == '|')) {
                        i = Math.max(i, with - 1);
                    } else {
                        top--;
                    }
                } else if (top > 0 && sign == '!') {
                    stack[top - 1] = 1 - stack[top - 1];
                } else {
                    if (top < 2 || isRefused(sign, stack[top - 1])) {
                        return 0;
                    }
                    top--;
                    stack[top - 1] = join(stack[top - 1], sign, stack[top]);
                }
            }
            return top > 0 ? stack[top - 1] : 0;
        }

        private int seenAt(int letter) {
            return letter >= 0 && letter < seen.length ? seen[letter] : 0;
        }

        private static boolean isRefused(int sign, int right) {
            return right == 0 && (sign == '/' || sign == '%');
        }

        private static int join(int left, int sign, int right) {
            switch (sign) {
                case '+': return left + right;
                case '-': return left - right;
                case '*': return left * right;
                case '/': return right == 0 ? 0 : left / right;
                case '%': return right == 0 ? 0 : left % right;
                case '<': return left < right ? 1 : 0;
                case '>': return left > right ? 1 : 0;
                default: return left == right ? 1 : 0;
            }
        }
    }

    /** Reads a text of LINES with a ; between two from the tape, up to its first FAULT. */
    private abstract static class Reader {
        private static final String DIGITS = "0123456789";
        private final Tape tape;
        private int end;
        private int fault;
        int at;
        int value;

        Reader(Tape source) {
            tape = source;
        }

        /** Reads the LINE of that number (0 on); whether it has no FAULT. */
        abstract boolean readLine(int number);

        /** How many LINES the first n bytes have, or the FAULT. */
        final int readText(int n) {
            at = 0;
            end = n;
            fault = 0;
            // A LINE takes a byte at least, so the loop ends with the text.
            for (int lines = 0; lines < n; lines++) {
                if (!readLine(lines)) {
                    return fault;
                }
                if (at >= end) {
                    return lines + 1;
                }
                if (!takes(";")) {
                    cannotStand();
                    return fault;
                }
            }
            cannotStand();
            return fault;
        }

        /** Whether the byte here is one of these. */
        final boolean isOn(String signs) {
            return at < end && at < Tape.LONGEST && signs.indexOf((char) tape.bytes[at]) >= 0;
        }

        /** Goes on if the byte here is one of these; whether it did. */
        final boolean takes(String signs) {
            if (!isOn(signs)) {
                return false;
            }
            value = tape.byteAt(at);
            at++;
            return true;
        }

        /** Reads a number of at most so many digits as the value; whether it has no FAULT. */
        final boolean readNumber(int mostDigits) {
            int number = 0;
            int digits = 0;
            while (digits < mostDigits && takes(DIGITS)) {
                number = number * 10 + value - '0';
                digits++;
            }
            if (digits == 0) {
                return cannotStand();
            }
            if (isOn(DIGITS)) {
                return fails(2, at);
            }
            value = number;
            return true;
        }

        final boolean cannotStand() {
            return fails(1, at);
        }

        final boolean fails(int kind, int place) {
            fault = FAULT * kind - place;
            return false;
        }
    }

    /** Reads THE LAW into a draft, so that the one before stays if there is a FAULT. */
    private static final class LawReader extends Reader {
        private static final int MOST_OPEN = 6;
        private final Law draft = new Law();
        private int open;

        LawReader(Tape source) {
            super(source);
        }

        boolean readLine(int number) {
            if (number == 0) {
                draft.clear();
            }
            if (!isOn("fduhx")) {
                return cannotStand();
            }
            if (number >= Law.MOST_RULES) {
                return fails(4, at);
            }
            open = 0;
            boolean hasAmount = isOn("fdu");
            takes("fduhx");
            draft.beginRule(value);
            if (hasAmount && !readSum()) {
                return false;
            }
            if (!isOn("(")) {
                return cannotStand();
            }
            if (hasAmount) {
                draft.put(Law.END, 0);
            }
            draft.beginTest();
            if (!readGroup()) {
                return false;
            }
            draft.put(Law.END, 0);
            return true;
        }

        /** A C in ( ), the ( being here. */
        private boolean readGroup() {
            if (!opens() || !readChoice()) {
                return false;
            }
            if (!takes(")")) {
                return cannotStand();
            }
            open--;
            return true;
        }

        /** A C. */
        private boolean readChoice() {
            if (!readPart()) {
                return false;
            }
            for (int more = 0; more < LONGEST_LAW && takes("|"); more++) {
                int or = draft.put('|', 0);
                if (!readPart()) {
                    return false;
                }
                draft.letGoOnHere(or);
            }
            return true;
        }

        private boolean readPart() {
            if (!readTest()) {
                return false;
            }
            for (int more = 0; more < LONGEST_LAW && takes("&"); more++) {
                int and = draft.put('&', 0);
                if (!readTest()) {
                    return false;
                }
                draft.letGoOnHere(and);
            }
            return true;
        }

        private boolean readTest() {
            if (isOn("(")) {
                return readGroup();
            }
            if (isOn("!")) {
                return readNot();
            }
            if (!readSum()) {
                return false;
            }
            if (!takes("<>=")) {
                return cannotStand();
            }
            int sign = value;
            if (!readSum()) {
                return false;
            }
            draft.put(sign, 0);
            return true;
        }

        private boolean readNot() {
            if (!opens() || !readTest()) {
                return false;
            }
            open--;
            draft.put('!', 0);
            return true;
        }

        /** An E. */
        private boolean readSum() {
            if (!readTerm()) {
                return false;
            }
            for (int more = 0; more < LONGEST_LAW && takes("+-"); more++) {
                int sign = value;
                if (!readTerm()) {
                    return false;
                }
                draft.put(sign, 0);
            }
            return true;
        }

        private boolean readTerm() {
            if (!readFactor()) {
                return false;
            }
            for (int more = 0; more < LONGEST_LAW && takes("*/%"); more++) {
                int sign = value;
                if (!readFactor()) {
                    return false;
                }
                draft.put(sign, 0);
            }
            return true;
        }

        private boolean readFactor() {
            if (isOn("[")) {
                return readBracket();
            }
            if (takes(Law.LETTERS)) {
                draft.put(Law.LETTER, Law.LETTERS.indexOf((char) value));
                return true;
            }
            if (!readNumber(5)) {
                return false;
            }
            draft.put(Law.NUMBER, value);
            return true;
        }

        /** An E in [ ], the [ being here. */
        private boolean readBracket() {
            if (!opens() || !readSum()) {
                return false;
            }
            if (!takes("]")) {
                return cannotStand();
            }
            open--;
            return true;
        }

        /** Takes the ( [ or ! that is here, unless too many are open. */
        private boolean opens() {
            if (open >= MOST_OPEN) {
                return fails(5, at);
            }
            open++;
            return takes("([!");
        }
    }

    /** Reads ORDERS whole before any is obeyed: with a FAULT nothing is done. */
    private static final class OrdersReader extends Reader {
        private static final int MOST_LINES = 20;
        private final int[] whom = new int[MOST_LINES];
        private final int[] what = new int[MOST_LINES];
        private final int[] much = new int[MOST_LINES];

        OrdersReader(Tape source) {
            super(source);
        }

        boolean readLine(int number) {
            if (!isOn("01*")) {
                return cannotStand();
            }
            if (number >= MOST_LINES) {
                return fails(4, at);
            }
            takes("01*");
            whom[number] = value;
            if (!takes("fbhoa")) {
                return cannotStand();
            }
            what[number] = value;
            if (what[number] == 'h' || what[number] == 'o') {
                return true;
            }
            int firstDigit = at;
            if (!readNumber(3)) {
                return false;
            }
            much[number] = value;
            if (what[number] == 'b' && value > King.DEEPEST) {
                return fails(3, firstDigit);
            }
            return true;
        }

        void obey(Meeting meeting, int lines) {
            for (int i = 0; i < lines && i < MOST_LINES; i++) {
                if (whom[i] != '1') {
                    obeyLine(i, meeting.first);
                }
                if (whom[i] != '0') {
                    obeyLine(i, meeting.other);
                }
            }
        }

        private void obeyLine(int i, King one) {
            switch (what[i]) {
                case 'f': one.goForward(much[i]); break;
                case 'b': one.bow = much[i]; break;
                case 'h': one.hatOn = true; break;
                case 'o': one.hatOn = false; break;
                default: one.appease(much[i]); break;
            }
        }
    }

    private static final class TreatyReader extends Reader {
        private static final int MOST_LINES = 24;
        private static final String ACT_LETTERS = "abcdefghijklmnop";
        private final int[] left = new int[MOST_LINES];
        private final int[] sign = new int[MOST_LINES];
        private final int[] right = new int[MOST_LINES];

        TreatyReader(Tape source) {
            super(source);
        }

        boolean readLine(int number) {
            if (!isOn(ACT_LETTERS)) {
                return cannotStand();
            }
            if (number >= MOST_LINES) {
                return fails(4, at);
            }
            takes(ACT_LETTERS);
            left[number] = value - 'a';
            if (!takes("<=")) {
                return cannotStand();
            }
            sign[number] = value;
            if (!takes(ACT_LETTERS)) {
                return cannotStand();
            }
            right[number] = value - 'a';
            if (left[number] == right[number]) {
                return fails(6, at - 1);
            }
            return true;
        }
    }

    /** What follows from a TREATY, worked out once when it is made. */
    private static final class Treaty {
        private final int[] atOnce = new int[ACTS];
        private final int[] ahead = new int[ACTS];
        private final int[] moment = new int[ACTS];
        private int lines;
        private int named;
        private int contradiction = NONE;

        void become(TreatyReader text, int number) {
            lines = number;
            named = 0;
            contradiction = NONE;
            for (int i = 0; i < ACTS; i++) {
                atOnce[i] = 1 << i;
                ahead[i] = 0;
            }
            for (int i = 0; i < lines && i < TreatyReader.MOST_LINES; i++) {
                named |= 1 << text.left[i] | 1 << text.right[i];
                if (contradiction == NONE && !agrees(text.left[i], text.sign[i], text.right[i])) {
                    contradiction = i;
                }
            }
            findMoments();
        }

        boolean names(int a) {
            return (named >> a & 1) != 0;
        }

        int atOnceWith(int a) {
            return a >= 0 && a < ACTS ? atOnce[a] : 0;
        }

        int aheadOf(int a) {
            return a >= 0 && a < ACTS ? ahead[a] : 0;
        }

        int momentOf(int a) {
            return a >= 0 && a < ACTS ? moment[a] : 0;
        }

        int lastMoment() {
            int last = 0;
            for (int a = 0; a < ACTS; a++) {
                if (names(a)) {
                    last = Math.max(last, moment[a]);
                }
            }
            return last;
        }

        /** Adds a LINE to those that are in already; whether they agree then. */
        private boolean agrees(int left, int sign, int right) {
            if (outside(left, 0, ACTS - 1) || outside(right, 0, ACTS - 1)) {
                return true;
            }
            if (sign == '=') {
                joinActs(left, right);
            } else {
                ahead[right] |= 1 << left;
            }
            shareAhead();
            closeAhead();
            for (int a = 0; a < ACTS; a++) {
                if ((ahead[a] & atOnce[a]) != 0) {
                    return false;
                }
            }
            return true;
        }

        private void joinActs(int left, int right) {
            int all = atOnce[left] | atOnce[right];
            for (int a = 0; a < ACTS; a++) {
                if ((all >> a & 1) != 0) {
                    atOnce[a] = all;
                }
            }
        }

        /** ACTS at once have the same ahead of them, and stand ahead together. */
        private void shareAhead() {
            for (int a = 0; a < ACTS; a++) {
                int all = 0;
                for (int b = 0; b < ACTS; b++) {
                    if ((atOnce[a] >> b & 1) != 0) {
                        all |= ahead[b];
                    }
                }
                for (int b = 0; b < ACTS; b++) {
                    if ((all >> b & 1) != 0) {
                        all |= atOnce[b];
                    }
                }
                ahead[a] = all;
            }
        }

        /** What is ahead of one that is ahead is ahead, too. */
        private void closeAhead() {
            for (int between = 0; between < ACTS; between++) {
                for (int a = 0; a < ACTS; a++) {
                    if ((ahead[a] >> between & 1) != 0) {
                        ahead[a] |= ahead[between];
                    }
                }
            }
        }

        private void findMoments() {
            Arrays.fill(moment, 1);
            // A chain of ACTS has 16 at most, so as many rounds reach its end.
            for (int round = 0; round < ACTS; round++) {
                for (int a = 0; a < ACTS; a++) {
                    moment[a] = momentBehind(ahead[a]);
                }
            }
        }

        private int momentBehind(int acts) {
            int last = 0;
            for (int a = 0; a < ACTS; a++) {
                if ((acts >> a & 1) != 0) {
                    last = Math.max(last, moment[a]);
                }
            }
            return last + 1;
        }
    }

    /** A LANE as a number of base 3, a digit each place; all that can come of it is looked at, nearest first. */
    private static final class Lane {
        private static final int LONGEST = 9;
        private static final int FREE = 0;
        private static final int RIGHTWARD = 1;
        private static final int LEFTWARD = 2;
        private static final int BLOCKED = -1;
        private static final int NO_PLACE = 15;
        private static final int[] WEIGHT = {1, 3, 9, 27, 81, 243, 729, 2187, 6561};
        // Mules stay mules: nine places with three of each kind can stand in 1680 ways, other numbers in fewer.
        private final int[] queue = new int[1680];
        private final int[] known = new int[616];
        private final int[] row = new int[LONGEST];
        private int places;
        private int tail;
        private int moves;
        private int firstPlace;

        /** The place of the first byte that is no mule and not free, or NONE. */
        int readFrom(Tape tape, int n) {
            places = Math.min(n, LONGEST);
            for (int i = 0; i < places; i++) {
                switch (tape.byteAt(i)) {
                    case '>': row[i] = RIGHTWARD; break;
                    case '<': row[i] = LEFTWARD; break;
                    case '.': row[i] = FREE; break;
                    default: return i;
                }
            }
            return NONE;
        }

        /** Whether all can pass; then moves and firstPlace are the answers. */
        boolean canPass() {
            Arrays.fill(known, 0);
            tail = 0;
            add(packed(), NO_PLACE);
            moves = 0;
            int endOfMoves = tail;
            for (int head = 0; head < tail && head < queue.length; head++) {
                if (head == endOfMoves) {
                    moves++;
                    endOfMoves = tail;
                }
                int state = queue[head] / 16;
                int first = queue[head] % 16;
                unpack(state);
                // The queue stays in the order of first places, so the first that is found has the lowest.
                if (allHavePassed()) {
                    firstPlace = first == NO_PLACE ? NO_MOVE : first;
                    return true;
                }
                addMoves(state, first);
            }
            return false;
        }

        private void addMoves(int state, int first) {
            for (int i = 0; i < places; i++) {
                int to = landing(i);
                if (to >= 0 && to < places) {
                    add(state + (WEIGHT[to] - WEIGHT[i]) * row[i], first == NO_PLACE ? i : first);
                }
            }
        }

        private void add(int state, int first) {
            int word = state / 32;
            if (word < 0 || word >= known.length || tail >= queue.length) {
                return;
            }
            if ((known[word] >> (state % 32) & 1) == 0) {
                known[word] |= 1 << (state % 32);
                queue[tail] = state * 16 + first;
                tail++;
            }
        }

        private boolean allHavePassed() {
            boolean right = false;
            for (int i = 0; i < places; i++) {
                if (row[i] == RIGHTWARD) {
                    right = true;
                }
                if (row[i] == LEFTWARD && right) {
                    return false;
                }
            }
            return true;
        }

        /** Where the mule of a place goes, or NONE. */
        private int landing(int i) {
            int mule = standsAt(i);
            if (mule == FREE || mule == BLOCKED) {
                return NONE;
            }
            int step = mule == RIGHTWARD ? 1 : -1;
            int met = standsAt(i + step);
            if (met == FREE) {
                return i + step;
            }
            boolean faces = met == (mule == RIGHTWARD ? LEFTWARD : RIGHTWARD);
            return faces && standsAt(i + 2 * step) == FREE ? i + 2 * step : NONE;
        }

        private int standsAt(int i) {
            return i >= 0 && i < places ? row[i] : BLOCKED;
        }

        private int packed() {
            int state = 0;
            for (int i = 0; i < places; i++) {
                state += WEIGHT[i] * row[i];
            }
            return state;
        }

        private void unpack(int state) {
            int rest = state;
            for (int i = 0; i < places; i++) {
                row[i] = rest % 3;
                rest /= 3;
            }
        }
    }

    /** What is reckoned from the tape's bytes at one go; the answers stay till the next one. */
    private static final class Ceremonies {
        private static final int MOST_STAIRS = 40;
        private static final int MOST_TITLES = 10;
        private static final int MOST_GIFTS = 8;
        private static final int MOST_SEATS = 6;
        // Above the most titles that are read at once.
        private static final int BREATH_WEIGHT = 16;
        private final Tape tape;
        private final int[] mine = new int[MOST_GIFTS];
        private final int[] yours = new int[MOST_GIFTS];
        private final int[] pileHeight = new int[1 << MOST_GIFTS];
        private final int[][] readBy = new int[MOST_TITLES + 1][MOST_TITLES + 1];
        private final int[] seats = new int[MOST_SEATS];
        private final int[] leastSeats = new int[MOST_SEATS];
        private final long[] ways = new long[MOST_STAIRS + 1];
        private int best;
        private int second;
        private int third;

        Ceremonies(Tape source) {
            tape = source;
        }

        boolean allWithin(int n, int least, int most) {
            for (int i = 0; i < n; i++) {
                if (outside(tape.byteAt(i), least, most)) {
                    return false;
                }
            }
            return true;
        }

        /** best: the least time; second: whose work. */
        void sign(int n) {
            int first = 0;
            int other = 0;
            int copy = 0;
            for (int i = 0; i < n; i++) {
                int a = tape.byteAt(2 * i);
                int b = tape.byteAt(2 * i + 1);
                first += a;
                other += b;
                copy = Math.max(copy, a + b);
            }
            // Two who sign in any order can always do with the longest of these three.
            best = Math.max(copy, Math.max(first, other));
            second = best == first ? 0 : best == other ? 1 : 2;
        }

        /** best: breaths; second: how many titles are read at once. */
        void readTitles(int n, int m) {
            int[][] cost = readBy;
            cost[0][0] = 0;
            for (int i = 0; i <= n && i <= MOST_TITLES; i++) {
                for (int j = 0; j <= m && j <= MOST_TITLES; j++) {
                    int a = i > 0 ? tape.byteAt(i - 1) : 0;
                    int b = j > 0 ? tape.byteAt(n + j - 1) : 0;
                    if (i > 0) {
                        cost[i][j] = cost[i - 1][j] + a * BREATH_WEIGHT;
                    }
                    if (j > 0) {
                        int alone = cost[i][j - 1] + b * BREATH_WEIGHT;
                        cost[i][j] = i > 0 ? Math.min(cost[i][j], alone) : alone;
                    }
                    if (i > 0 && j > 0) {
                        // One less for what is read at once: of like breaths the most at once cost least.
                        int both = cost[i - 1][j - 1] + Math.max(a, b) * BREATH_WEIGHT - 1;
                        cost[i][j] = Math.min(cost[i][j], both);
                    }
                }
            }
            int least = n <= MOST_TITLES && m <= MOST_TITLES ? cost[n][m] : 0;
            best = (least + BREATH_WEIGHT - 1) / BREATH_WEIGHT;
            second = best * BREATH_WEIGHT - least;
        }

        /** best: the greatest difference; second: the sum. */
        void openGifts(int n) {
            sortInto(mine, 0, n);
            sortInto(yours, n, n);
            best = 0;
            second = 0;
            // In order of worth both the greatest difference and the sum are least.
            for (int i = 0; i < n && i < MOST_GIFTS; i++) {
                int difference = Math.abs(mine[i] - yours[i]);
                best = Math.max(best, difference);
                second += difference;
            }
        }

        private void sortInto(int[] row, int from, int n) {
            for (int i = 0; i < n && i < row.length; i++) {
                int worth = tape.byteAt(from + i);
                int place = i;
                while (place > 0 && row[place - 1] > worth) {
                    row[place] = row[place - 1];
                    place--;
                }
                row[place] = worth;
            }
        }

        /** best: how high, or NONE; second, third: bits of what lies under the first, the second one. */
        void pile(int n, int first, int other) {
            int all = (1 << Math.min(n, MOST_GIFTS)) - 1;
            pileHeight[0] = 0;
            for (int bits = 1; bits <= all; bits++) {
                int lowest = tape.byteAt(Integer.numberOfTrailingZeros(bits));
                pileHeight[bits] = pileHeight[bits & (bits - 1)] + lowest;
            }
            best = NONE;
            for (int bits = 0; bits <= all; bits++) {
                int height = first + pileHeight[bits];
                int match = height > best ? leastPile(all & ~bits, height - other) : NONE;
                if (match != NONE) {
                    best = height;
                    second = bits;
                    third = match;
                }
            }
        }

        /** The least bits of these that are just so high, or NONE. */
        private int leastPile(int rest, int height) {
            int found = NONE;
            int bits = rest;
            for (int i = 0; i <= rest; i++) {
                if (pileHeight[bits] == height) {
                    found = bits;
                }
                if (bits == 0) {
                    break;
                }
                bits = (bits - 1) & rest;
            }
            return found;
        }

        /** best: ways; second: the fewest that sit so; leastSeats: the least row, if there is a way. */
        void seatAll(int n) {
            for (int i = 0; i < n && i < MOST_SEATS; i++) {
                seats[i] = i;
            }
            best = 0;
            second = n;
            // 720 rows of six; they come from the least on.
            for (int i = 0; i < 720; i++) {
                int badly = seatedBadly(n);
                if (badly == 0 && best == 0) {
                    System.arraycopy(seats, 0, leastSeats, 0, MOST_SEATS);
                }
                if (badly == 0) {
                    best++;
                }
                second = Math.min(second, badly);
                if (!goesToNextRow(n)) {
                    return;
                }
            }
        }

        int seatedBehind(int i) {
            return i >= 0 && i < MOST_SEATS ? leastSeats[i] : NONE;
        }

        private int seatedBadly(int n) {
            int badly = 0;
            for (int i = 0; i < n && i < MOST_SEATS; i++) {
                int next = i + 1 < n ? i + 1 : 0;
                int mustNot = tape.byteAt(seats[i]);
                if (((mustNot >> i | mustNot >> next) & 1) != 0) {
                    badly++;
                }
            }
            return badly;
        }

        private boolean goesToNextRow(int n) {
            int last = Math.min(n, MOST_SEATS) - 1;
            int turn = last - 1;
            while (turn >= 0 && seats[turn] > seats[turn + 1]) {
                turn--;
            }
            if (turn < 0) {
                return false;
            }
            int with = last;
            while (with > turn + 1 && seats[with] < seats[turn]) {
                with--;
            }
            swapSeats(turn, with);
            int low = turn + 1;
            for (int high = last; low < high; high--) {
                swapSeats(low, high);
                low++;
            }
            return true;
        }

        private void swapSeats(int i, int j) {
            int one = seats[i];
            seats[i] = seats[j];
            seats[j] = one;
        }

        /** best: how unlike; second: behind how many breadths. */
        void cut(int n) {
            int right = 0;
            for (int i = 0; i < n; i++) {
                right += tape.byteAt(i);
            }
            int left = 0;
            best = NONE;
            for (int i = 1; i < n; i++) {
                left += tape.byteAt(i - 1);
                right -= tape.byteAt(i - 1);
                if (best == NONE || Math.abs(left - right) < best) {
                    best = Math.abs(left - right);
                    second = i;
                }
            }
        }

        /** In how many ways; steps 0: in any number of steps. */
        long climb(int n, int k, int steps) {
            Arrays.fill(ways, 0);
            ways[0] = 1;
            long sum = 0;
            for (int step = 1; step <= MOST_STAIRS; step++) {
                // From above, so that each stair is reached from where one stood a step ago.
                for (int i = MOST_STAIRS; i >= 0; i--) {
                    ways[i] = waysTo(i - 1) + waysTo(i - 2) + waysTo(i - k);
                }
                if (step == steps) {
                    return waysTo(n);
                }
                sum += waysTo(n);
            }
            return sum;
        }

        private long waysTo(int stair) {
            return stair >= 0 && stair <= MOST_STAIRS ? ways[stair] : 0;
        }
    }
}
