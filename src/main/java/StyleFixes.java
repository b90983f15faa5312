/**
 * A desk of fixes in a style: a text in tokens, rules that rewrite runs of tokens, and the rounds
 * in which the worthiest findings that don't clash are made together.
 *
 * Everything that a call needs is made in the constructor and used again, because all that a run
 * of calls makes is counted; only RULES that are taken make something new.
 */
public final class StyleFixes {
    public static final int NONE = -1;

    private static final int TEXT_LIMIT = 200;
    private static final int TAPE_LIMIT = 300;
    private static final int FEED_BYTES = 20;
    private static final int RULE_LIMIT = 6;
    private static final int ROW = 6;
    private static final int WEIGHT_LIMIT = 99;
    private static final int SPAN_LIMIT = 8;
    private static final int YIELD_LIMIT = 8;
    private static final int MOST_LIMIT = 20;
    private static final int ROUND_LIMIT = 30;
    private static final int BOOK_LIMIT = 24;
    private static final int BOOK_ROW = 3;
    private static final int STEP_LIMIT = 20;
    private static final int FINDING_LIMIT = TEXT_LIMIT * RULE_LIMIT;
    private static final int NO_SUCH_ROUND = -2;

    private static final int WORD = 0;
    private static final int NUMBER = 1;
    private static final int BLANKS = 2;
    private static final int SIGN = 3;
    private static final int QUOTED = 4;

    private static final int PART_SAME = 0;
    private static final int PART_MORE = 1;
    private static final int PART_LESS = 2;
    private static final int PART_TURNED = 3;
    private static final int PART_QUOTED = 4;

    private static final int SILENT = 1;
    private static final int YIELDED = 2;

    private static final int STILL = 0;
    private static final int GOES_ROUND = 1;
    private static final int STOPPED = 2;
    private static final int WENT_ON = 3;

    private final byte[] tape;
    private int tapeLength;
    private Rules draft;
    private final RuleReader reader;
    private final State now;
    private final History history;
    private final State kept;
    private final History keptHistory;
    private final Page sparePage = new Page();
    private final Finder finder;
    private boolean looked;
    private final Finder trial;
    private final Journey journey = new Journey();
    private boolean travelled;
    private int remedy;
    private boolean healed;
    private final Brackets brackets = new Brackets();
    private final int[] single = new int[1];

    public StyleFixes() {
        byte[] empty = new byte[TAPE_LIMIT];
        Rules blank = new Rules();
        Rules none = new Rules();
        State first = new State(none);
        tape = empty;
        draft = blank;
        reader = new RuleReader(empty, blank);
        now = first;
        history = new History(none);
        kept = new State(none);
        keptHistory = new History(none);
        finder = new Finder(first);
        trial = new Finder(first);
    }

    // ---- what is told ----

    public int feed(int a, int b, int c, int d, int e) {
        if (tapeLength + FEED_BYTES > TAPE_LIMIT) {
            return NONE;
        }
        spool(a);
        spool(b);
        spool(c);
        spool(d);
        spool(e);
        return tapeLength;
    }

    public int end(int n) {
        if (n < 0 || n > tapeLength) {
            return NONE;
        }
        tapeLength = n;
        return n;
    }

    public int text() {
        int length = tapeLength;
        tapeLength = 0;
        if (length > TEXT_LIMIT) {
            return NONE;
        }
        for (int i = 0; i < length; i++) {
            if (!mayStandInText(tape[i])) {
                return NONE;
            }
        }
        keepStep();
        now.page.tell(tape, length);
        return length;
    }

    public int rules() {
        int length = tapeLength;
        tapeLength = 0;
        if (!reader.read(length, draft)) {
            return NONE;
        }
        keepStep();
        now.takeRules(draft);
        // RULES once taken never change, so that STEPS and THE IMAGE may share them
        draft = new Rules();
        return now.rules.count;
    }

    public int fault(int what) {
        if (what == 0) {
            return reader.fault;
        }
        return what == 1 ? reader.place : NONE;
    }

    public boolean on(int rule, boolean is) {
        if (!isRule(rule) || now.isOn(rule) == is) {
            return false;
        }
        keepStep();
        now.onBits = now.onBits ^ (1 << rule);
        return true;
    }

    public int silence(int from, int to) {
        Page page = now.page;
        if (from < 0 || from >= to || to > page.length || page.spans >= SPAN_LIMIT) {
            return NONE;
        }
        keepStep();
        page.addSpan(from, to);
        return page.spans;
    }

    public boolean hear(int i) {
        if (i < 0 || i >= now.page.spans) {
            return false;
        }
        keepStep();
        now.page.removeSpan(i);
        return true;
    }

    public boolean measure(int measure) {
        if (measure < 0 || measure > 1) {
            return false;
        }
        keepStep();
        now.measure = measure;
        return true;
    }

    public boolean most(int most) {
        if (most < 0 || most > MOST_LIMIT) {
            return false;
        }
        keepStep();
        now.most = most;
        return true;
    }

    public boolean put(int at, int b) {
        Page page = now.page;
        if (!isByte(at) || !mayStandInText(b) || page.hides(at, at + 1)) {
            return false;
        }
        keepStep();
        page.bytes[at] = (byte) b;
        page.paints[at] = (byte) NONE;
        return true;
    }

    public boolean yields(int rule, int other) {
        if (!isRule(rule) || !isRule(other) || now.yieldCount >= YIELD_LIMIT) {
            return false;
        }
        if (now.isYieldTold(rule, other) || now.reachesByYielding(rule, other)) {
            return false;
        }
        keepStep();
        now.addYield(rule, other);
        return true;
    }

    public int insist() {
        int count = now.yieldCount;
        keepStep();
        now.yieldCount = 0;
        return count;
    }

    public int apply(int i) {
        Finder found = found();
        if (!found.has(i) || found.isMarked(i, SILENT)) {
            return NONE;
        }
        single[0] = i;
        if (found.lengthBehind(single, 1) > TEXT_LIMIT) {
            return NONE;
        }
        found.rewrite(single, 1, sparePage);
        keepStep();
        now.page.copyFrom(sparePage);
        return now.page.length;
    }

    public int make(int n) {
        if (n < 1 || n > ROUND_LIMIT) {
            return NONE;
        }
        // one STEP for all that the call makes, be it no ROUND at all
        history.keep(now);
        int made = 0;
        while (made < n && found().canBeMade()) {
            makeRound();
            made++;
        }
        return made;
    }

    public int undo() {
        if (history.count == 0) {
            return NONE;
        }
        history.takeBack(now);
        forget();
        return history.count;
    }

    // ---- what is asked ----

    public int is(int what) {
        switch (what) {
            case 0: return now.page.length;
            case 1: return found().tokens.count;
            case 2: return now.rules.count;
            case 3: return now.onBits;
            case 4: return found().count;
            case 5: return found().countMarked(SILENT);
            case 6: return now.page.spans;
            case 7: return now.measure;
            case 8: return now.most;
            case 9: return now.rounds;
            case 10: return tapeLength;
            case 11: return found().countMarked(YIELDED);
            case 12: return now.yieldCount;
            case 13: return brackets.countUnpaired(now.page);
            case 14: return now.page.countLines();
            case 15: return now.page.longestLine();
            default: return NONE;
        }
    }

    public int at(int i) {
        return isByte(i) ? now.page.bytes[i] : NONE;
    }

    public int token(int i, int what) {
        Tokens tokens = found().tokens;
        if (i < 0 || i >= tokens.count) {
            return NONE;
        }
        switch (what) {
            case 0: return tokens.sorts[i];
            case 1: return tokens.begins[i];
            case 2: return tokens.begins[i + 1] - tokens.begins[i];
            default: return NONE;
        }
    }

    public int tokenAt(int i) {
        return isByte(i) ? found().tokens.holding(i) : NONE;
    }

    public int rule(int rule, int what) {
        if (!isRule(rule)) {
            return NONE;
        }
        switch (what) {
            case 0: return now.rules.weights[rule];
            case 1: return now.rules.elements[rule];
            case 2: return now.rules.parts[rule];
            case 3: return now.isOn(rule) ? 1 : 0;
            case 4: return found().countOfRule(rule);
            default: return NONE;
        }
    }

    public boolean fits(int rule, int token) {
        return isRule(rule) && found().fitsFrom(rule, token);
    }

    public int finding(int i, int what) {
        Finder found = found();
        if (!found.has(i)) {
            return NONE;
        }
        switch (what) {
            case 0: return found.rule[i];
            case 1: return found.beginOf(i);
            case 2: return found.endOf(i);
            case 3: return found.size[i];
            case 4: return found.value[i];
            case 5: return found.isMarked(i, SILENT) ? 1 : 0;
            case 6: return found.isPicked(i) ? 1 : 0;
            case 7: return found.isMarked(i, YIELDED) ? 1 : 0;
            default: return NONE;
        }
    }

    public int fresh(int i, int k) {
        Finder found = found();
        if (!found.has(i) || k < 0 || k >= found.size[i]) {
            return NONE;
        }
        return found.freshByte(i, k);
    }

    public int clashes(int i) {
        Finder found = found();
        return found.has(i) ? found.countClashes(i) : NONE;
    }

    public int set(int i) {
        Finder found = found();
        if (i == NONE) {
            return found.pickedCount;
        }
        return i >= 0 && i < found.pickedCount ? found.picked[i] : NONE;
    }

    public int worth() {
        return found().pickedValue();
    }

    public int chosen(int rule) {
        return isRule(rule) ? found().countPicked(rule) : NONE;
    }

    public int without(int rule) {
        if (!isRule(rule)) {
            return NONE;
        }
        trial.look(now.page, now, now.onBits & ~(1 << rule));
        return trial.pickedValue();
    }

    public int span(int rule, int token) {
        Finder found = found();
        if (!isRule(rule) || !found.fitsFrom(rule, token)) {
            return NONE;
        }
        int behind = token + now.rules.elements[rule];
        return found.tokens.begins[behind] - found.tokens.begins[token];
    }

    public int silenced(int i, int what) {
        Page page = now.page;
        if (i < 0 || i >= page.spans) {
            return NONE;
        }
        if (what == 0) {
            return page.spanFrom[i];
        }
        return what == 1 ? page.spanTo[i] : NONE;
    }

    public boolean isSilent(int i) {
        return isByte(i) && now.page.hides(i, i + 1);
    }

    public int yielding(int i) {
        if (i < 0 || i >= now.yieldCount) {
            return NONE;
        }
        return 10 * now.yieldFirst[i] + now.yieldSecond[i];
    }

    public int paint(int i) {
        return isByte(i) ? now.page.paints[i] : NONE;
    }

    public int painted(int rule) {
        return isRule(rule) ? now.page.countPainted(rule) : NONE;
    }

    public int book(int i, int what) {
        if (i == NONE) {
            return now.bookCount;
        }
        if (i < 0 || i >= now.bookCount || what < 0 || what >= BOOK_ROW) {
            return NO_SUCH_ROUND;
        }
        return now.book[i * BOOK_ROW + what];
    }

    public int common(int what) {
        Finder found = found();
        int token = found.commonWord();
        if (token == NONE || what < 0 || what > 1) {
            return NONE;
        }
        return what == 0 ? token : found.countLike(token);
    }

    public int paired(int i) {
        return isByte(i) ? brackets.partnerOf(now.page, i) : NONE;
    }

    public int line(int i, int what) {
        if (!isByte(i)) {
            return NONE;
        }
        if (what == 0) {
            return now.page.lineOf(i);
        }
        return what == 1 ? now.page.columnOf(i) : NONE;
    }

    // ---- what would be ----

    public int circling() {
        Journey way = way();
        return way.ending == GOES_ROUND ? way.rulesMade(way.firstLike) : 0;
    }

    public int course(int what) {
        Journey way = way();
        boolean round = way.ending == GOES_ROUND;
        switch (what) {
            case 0: return way.ending;
            case 1: return way.rounds;
            case 2: return round ? way.firstLike : NONE;
            case 3: return round ? way.rounds - way.firstLike : NONE;
            case 4: return way.pageBehind(way.rounds).length;
            case 5: return way.findings;
            default: return NONE;
        }
    }

    public int later(int n, int i) {
        if (n < 0 || n > ROUND_LIMIT) {
            return NONE;
        }
        Page page = way().pageBehind(n);
        return i >= 0 && i < page.length ? page.bytes[i] : NONE;
    }

    public int digest(int n) {
        if (n < 0 || n > ROUND_LIMIT) {
            return 0;
        }
        return way().pageBehind(n).hash();
    }

    public int used() {
        return way().rulesMade(0);
    }

    public int cure() {
        if (healed) {
            return remedy;
        }
        // the journey is lent for the trials, so what it held is lost
        travelled = false;
        healed = true;
        remedy = NONE;
        for (int size = 0; size <= RULE_LIMIT && remedy == NONE; size++) {
            for (int bits = 0; bits < 1 << RULE_LIMIT && remedy == NONE; bits++) {
                if (Integer.bitCount(bits) == size && (bits & ~now.onBits) == 0) {
                    journey.travel(now, now.onBits & ~bits, trial);
                    remedy = journey.ending == STILL ? bits : NONE;
                }
            }
        }
        return remedy;
    }

    public int mean() {
        Finder found = found();
        int count = found.count - found.countMarked(SILENT);
        if (count < 1) {
            return 0;
        }
        return bitsOfFloat((float) found.loudValue() / (float) count);
    }

    public long share() {
        int length = now.page.length;
        if (length < 1) {
            return 0L;
        }
        return bitsOfDouble((double) found().pickedBytes() / (double) length);
    }

    // ---- what was ----

    public int image() {
        kept.copyFrom(now);
        keptHistory.copyFrom(history);
        return now.page.length;
    }

    public int back() {
        now.copyFrom(kept);
        history.copyFrom(keptHistory);
        forget();
        return now.page.length;
    }

    public int steps() {
        return history.count;
    }

    // ---- inside the desk ----

    private void spool(int four) {
        for (int shift = 24; shift >= 0; shift -= 8) {
            if (tapeLength < TAPE_LIMIT) {
                tape[tapeLength] = (byte) (four >>> shift);
                tapeLength++;
            }
        }
    }

    private boolean isRule(int rule) {
        return rule >= 0 && rule < now.rules.count;
    }

    private boolean isByte(int i) {
        return i >= 0 && i < now.page.length;
    }

    private void keepStep() {
        history.keep(now);
        forget();
    }

    private void forget() {
        looked = false;
        travelled = false;
        healed = false;
    }

    private Finder found() {
        if (!looked) {
            finder.look(now.page, now, now.onBits);
            looked = true;
        }
        return finder;
    }

    private Journey way() {
        if (!travelled) {
            journey.travel(now, now.onBits, trial);
            travelled = true;
        }
        return journey;
    }

    private void makeRound() {
        Finder found = found();
        found.rewrite(found.picked, found.pickedCount, sparePage);
        now.enterRound(found.pickedCount, found.pickedValue(), sparePage.length);
        now.page.copyFrom(sparePage);
        forget();
    }

    private static boolean mayStandInText(int b) {
        return b == 10 || (b >= 32 && b <= 126);
    }

    private static int sortOf(int b) {
        if (b >= 'a' && b <= 'z') {
            return WORD;
        }
        if (b >= '0' && b <= '9') {
            return NUMBER;
        }
        return b == 32 || b == 10 ? BLANKS : SIGN;
    }

    /** The library that would tell the bits is not at hand, so they are found by halving; x is 0 or normal. */
    private static int bitsOfFloat(float x) {
        if (x <= 0f) {
            return 0;
        }
        float rest = x;
        int power = 0;
        for (int i = 0; i < 128 && rest >= 2f; i++) {
            rest = rest / 2f;
            power++;
        }
        for (int i = 0; i < 128 && rest < 1f; i++) {
            rest = rest * 2f;
            power--;
        }
        return ((power + 127) << 23) | (int) ((rest - 1f) * 8388608f);
    }

    private static long bitsOfDouble(double x) {
        if (x <= 0d) {
            return 0L;
        }
        double rest = x;
        long power = 0;
        for (int i = 0; i < 1024 && rest >= 2d; i++) {
            rest = rest / 2d;
            power++;
        }
        for (int i = 0; i < 1024 && rest < 1d; i++) {
            rest = rest * 2d;
            power--;
        }
        return ((power + 1023L) << 52) | (long) ((rest - 1d) * 4503599627370496d);
    }

    /** THE TEXT with all that goes along with its bytes: PAINTS and SILENCED spans. */
    private static final class Page {
        final byte[] bytes = new byte[TEXT_LIMIT];
        final byte[] paints = new byte[TEXT_LIMIT];
        int length;
        final int[] spanFrom = new int[SPAN_LIMIT];
        final int[] spanTo = new int[SPAN_LIMIT];
        int spans;

        void copyFrom(Page other) {
            length = 0;
            carry(other, 0, other.length);
            copySpans(other);
        }

        void copySpans(Page other) {
            spans = other.spans;
            System.arraycopy(other.spanFrom, 0, spanFrom, 0, spans);
            System.arraycopy(other.spanTo, 0, spanTo, 0, spans);
        }

        void tell(byte[] told, int count) {
            length = 0;
            spans = 0;
            write(told, count, NONE);
        }

        void write(byte[] more, int count, int paint) {
            if (count < 0 || count > more.length || length + count > TEXT_LIMIT) {
                return;
            }
            for (int i = 0; i < count; i++) {
                bytes[length + i] = more[i];
                paints[length + i] = (byte) paint;
            }
            length += count;
        }

        void carry(Page other, int from, int to) {
            if (from < 0 || from > to || to > other.length || length + to - from > TEXT_LIMIT) {
                return;
            }
            System.arraycopy(other.bytes, from, bytes, length, to - from);
            System.arraycopy(other.paints, from, paints, length, to - from);
            length += to - from;
        }

        void addSpan(int from, int to) {
            if (spans < SPAN_LIMIT) {
                spanFrom[spans] = from;
                spanTo[spans] = to;
                spans++;
            }
        }

        void removeSpan(int i) {
            for (int k = i + 1; k > 0 && k < spans; k++) {
                spanFrom[k - 1] = spanFrom[k];
                spanTo[k - 1] = spanTo[k];
            }
            spans--;
        }

        /** Old places decide, since the spans here may have been moved by changes further ahead. */
        void shiftSpans(Page old, int behind, int by) {
            for (int k = 0; k < spans; k++) {
                if (old.spanFrom[k] >= behind) {
                    spanFrom[k] += by;
                    spanTo[k] += by;
                }
            }
        }

        boolean hides(int from, int to) {
            for (int k = 0; k < spans; k++) {
                if (from < spanTo[k] && spanFrom[k] < to) {
                    return true;
                }
            }
            return false;
        }

        /** PAINTS are left out: a COURSE goes round by THE TEXT and its SILENCED spans alone. */
        boolean isLike(Page other) {
            if (length != other.length || spans != other.spans) {
                return false;
            }
            for (int k = 0; k < spans; k++) {
                if (spanFrom[k] != other.spanFrom[k] || spanTo[k] != other.spanTo[k]) {
                    return false;
                }
            }
            for (int i = 0; i < length; i++) {
                if (bytes[i] != other.bytes[i]) {
                    return false;
                }
            }
            return true;
        }

        int countPainted(int rule) {
            int count = 0;
            for (int i = 0; i < length; i++) {
                if (paints[i] == rule) {
                    count++;
                }
            }
            return count;
        }

        int lineOf(int i) {
            int line = 0;
            for (int k = 0; k < i && k < length; k++) {
                if (bytes[k] == 10) {
                    line++;
                }
            }
            return line;
        }

        int columnOf(int i) {
            int column = 0;
            for (int k = 0; k < i && k < length; k++) {
                column = bytes[k] == 10 ? 0 : column + 1;
            }
            return column;
        }

        int countLines() {
            return lineOf(length) + 1;
        }

        int longestLine() {
            int longest = 0;
            int column = 0;
            for (int k = 0; k < length; k++) {
                column = bytes[k] == 10 ? 0 : column + 1;
                longest = Math.max(longest, column);
            }
            return longest;
        }

        int hash() {
            int h = 0;
            for (int i = 0; i < length; i++) {
                h = 31 * h + bytes[i];
            }
            return h;
        }
    }

    /** RULES as they were read: rows of ROW places a RULE. Never changed once they are taken. */
    private static final class Rules {
        final byte[] bytes = new byte[TAPE_LIMIT];
        int count;
        final int[] weights = new int[RULE_LIMIT];
        final int[] elements = new int[RULE_LIMIT];
        final int[] parts = new int[RULE_LIMIT];
        // FINDINGS of one beginning come by their end, which grows with the ELEMENTS
        final int[] order = new int[RULE_LIMIT];
        final int[] elementSort = new int[RULE_LIMIT * ROW];
        final int[] elementName = new int[RULE_LIMIT * ROW];
        // of a name: the first ELEMENT that has it; of a quote: where its bytes begin
        final int[] elementFrom = new int[RULE_LIMIT * ROW];
        final int[] elementTo = new int[RULE_LIMIT * ROW];
        final int[] partKind = new int[RULE_LIMIT * ROW];
        final int[] partFrom = new int[RULE_LIMIT * ROW];
        final int[] partTo = new int[RULE_LIMIT * ROW];

        /** The first ELEMENT of a RULE that is being read with this name, NONE if there is none. */
        int elementNamed(int rule, int name) {
            if (rule < 0 || rule >= RULE_LIMIT) {
                return NONE;
            }
            for (int e = 0; e < elements[rule] && e < ROW; e++) {
                if (elementName[rule * ROW + e] == name) {
                    return e;
                }
            }
            return NONE;
        }

        void putInOrder() {
            for (int r = 0; r < count; r++) {
                int place = 0;
                for (int other = 0; other < count; other++) {
                    if (elements[other] < elements[r] || (elements[other] == elements[r] && other < r)) {
                        place++;
                    }
                }
                order[place] = r;
            }
        }
    }

    /** Reads RULES from the tape; keeps the latest FAULT and its place. */
    private static final class RuleReader {
        private final byte[] source;
        private int length;
        private int spot;
        private Rules target;
        int fault;
        int place = NONE;

        RuleReader(byte[] tape, Rules draft) {
            source = tape;
            target = draft;
        }

        boolean read(int tapeLength, Rules into) {
            length = Math.max(0, Math.min(tapeLength, Math.min(source.length, TAPE_LIMIT)));
            target = into;
            target.count = 0;
            spot = 0;
            fault = 0;
            place = NONE;
            // one more than may stand: the seventh is where a FAULT is told
            for (int r = 0; r <= RULE_LIMIT && length > 0; r++) {
                if (!readWeight() || !readElements() || !readParts()) {
                    return false;
                }
                target.count++;
                if (spot >= length) {
                    break;
                }
                spot++;
            }
            System.arraycopy(source, 0, target.bytes, 0, length);
            target.putInOrder();
            return true;
        }

        private boolean readWeight() {
            int start = spot;
            int weight = 0;
            while (spot < length && sortOf(peek()) == NUMBER) {
                weight = Math.min(WEIGHT_LIMIT + 1, weight * 10 + peek() - '0');
                spot++;
            }
            if (spot == start) {
                return fail(1, spot);
            }
            if (weight < 1 || weight > WEIGHT_LIMIT) {
                return fail(2, start);
            }
            if (target.count >= RULE_LIMIT) {
                return fail(3, start);
            }
            if (peek() != ':') {
                return fail(1, spot);
            }
            spot++;
            target.weights[target.count] = weight;
            target.elements[target.count] = 0;
            target.parts[target.count] = 0;
            return true;
        }

        private boolean readElements() {
            for (int e = 0; e <= ROW; e++) {
                int b = peek();
                if (b == '>' && e > 0) {
                    spot++;
                    return true;
                }
                if (!isNamedSort(b) && b != '_' && b != '\'') {
                    return fail(1, spot);
                }
                if (e == ROW) {
                    return fail(4, spot);
                }
                if (!readElement(b)) {
                    return false;
                }
            }
            return false;
        }

        private boolean readElement(int b) {
            int element = target.elements[target.count];
            int slot = target.count * ROW + element;
            int start = spot;
            int name = NONE;
            int from = element;
            int sort = BLANKS;
            if (b == '\'') {
                if (!readQuote()) {
                    return false;
                }
                if (!isOneToken(start + 1, spot - 1)) {
                    return fail(6, start);
                }
                sort = QUOTED;
                from = start + 1;
            } else if (b == '_') {
                spot++;
            } else {
                name = readName();
                if (name == NONE) {
                    return false;
                }
                sort = namedSort(b);
                int first = target.elementNamed(target.count, name);
                from = first == NONE ? element : first;
            }
            target.elementSort[slot] = sort;
            target.elementName[slot] = name;
            target.elementFrom[slot] = from;
            target.elementTo[slot] = spot - 1;
            target.elements[target.count] = element + 1;
            return true;
        }

        private boolean readParts() {
            for (int p = 0; p <= ROW; p++) {
                int b = peek();
                if (b == NONE || b == ';') {
                    return true;
                }
                if (!isNamedSort(b) && b != '+' && b != '-' && b != '~' && b != '\'') {
                    return fail(1, spot);
                }
                if (p == ROW) {
                    return fail(4, spot);
                }
                if (!readPart(b)) {
                    return false;
                }
            }
            return false;
        }

        private boolean readPart(int b) {
            int part = target.parts[target.count];
            int slot = target.count * ROW + part;
            int start = spot;
            int kind = partKindOf(b);
            int from = start + 1;
            if (kind == PART_QUOTED) {
                if (!readQuote()) {
                    return false;
                }
            } else {
                from = readKnownName(kind);
                if (from == NONE) {
                    return false;
                }
            }
            target.partKind[slot] = kind;
            target.partFrom[slot] = from;
            target.partTo[slot] = spot - 1;
            target.parts[target.count] = part + 1;
            return true;
        }

        /** The ELEMENT whose name a PART of this kind tells, NONE if there is a FAULT. */
        private int readKnownName(int kind) {
            if (kind != PART_SAME) {
                spot++;
                if (peek() != (kind == PART_TURNED ? 'w' : 'n')) {
                    fail(1, spot);
                    return NONE;
                }
            }
            int start = spot;
            int name = readName();
            if (name == NONE) {
                return NONE;
            }
            int element = target.elementNamed(target.count, name);
            if (element == NONE) {
                fail(5, start);
            }
            return element;
        }

        /** A sort and a name as one number, so that like names of two sorts are two names. */
        private int readName() {
            int sort = namedSort(peek());
            spot++;
            int b = peek();
            if (b < 'a' || b > 'd') {
                fail(1, spot);
                return NONE;
            }
            spot++;
            return sort * 4 + b - 'a';
        }

        private boolean readQuote() {
            spot++;
            while (spot < length && peek() >= 32 && peek() <= 126 && peek() != '\'') {
                spot++;
            }
            if (peek() != '\'') {
                return fail(1, spot);
            }
            spot++;
            return true;
        }

        private boolean isOneToken(int from, int to) {
            if (from < 0 || from >= to || to > length) {
                return false;
            }
            int sort = sortOf(source[from]);
            if (sort == SIGN) {
                return to - from == 1;
            }
            for (int i = from; i < to; i++) {
                if (sortOf(source[i]) != sort) {
                    return false;
                }
            }
            return true;
        }

        private int peek() {
            return spot >= 0 && spot < length ? source[spot] & 255 : NONE;
        }

        private boolean fail(int kind, int where) {
            fault = kind;
            place = where;
            return false;
        }

        private static boolean isNamedSort(int b) {
            return b == 'w' || b == 'n' || b == 's';
        }

        private static int namedSort(int b) {
            if (b == 'w') {
                return WORD;
            }
            return b == 'n' ? NUMBER : SIGN;
        }

        private static int partKindOf(int b) {
            switch (b) {
                case '+': return PART_MORE;
                case '-': return PART_LESS;
                case '~': return PART_TURNED;
                case '\'': return PART_QUOTED;
                default: return PART_SAME;
            }
        }
    }

    /** All that a STEP or THE IMAGE brings back. */
    private static final class State {
        final Page page = new Page();
        Rules rules;
        int onBits;
        int measure;
        int most = MOST_LIMIT;
        final int[] yieldFirst = new int[YIELD_LIMIT];
        final int[] yieldSecond = new int[YIELD_LIMIT];
        int yieldCount;
        final int[] book = new int[BOOK_LIMIT * BOOK_ROW];
        int bookCount;
        int rounds;

        State(Rules rules) {
            this.rules = rules;
        }

        void copyFrom(State other) {
            page.copyFrom(other.page);
            rules = other.rules;
            onBits = other.onBits;
            measure = other.measure;
            most = other.most;
            yieldCount = other.yieldCount;
            System.arraycopy(other.yieldFirst, 0, yieldFirst, 0, yieldCount);
            System.arraycopy(other.yieldSecond, 0, yieldSecond, 0, yieldCount);
            bookCount = other.bookCount;
            System.arraycopy(other.book, 0, book, 0, bookCount * BOOK_ROW);
            rounds = other.rounds;
        }

        void takeRules(Rules told) {
            rules = told;
            onBits = (1 << told.count) - 1;
            yieldCount = 0;
        }

        boolean isOn(int rule) {
            return (onBits >> rule & 1) == 1;
        }

        boolean isYieldTold(int first, int second) {
            for (int i = 0; i < yieldCount; i++) {
                if (yieldFirst[i] == first && yieldSecond[i] == second) {
                    return true;
                }
            }
            return false;
        }

        void addYield(int first, int second) {
            if (yieldCount < YIELD_LIMIT) {
                yieldFirst[yieldCount] = first;
                yieldSecond[yieldCount] = second;
                yieldCount++;
            }
        }

        /** RULES to which one of these RULES YIELDS, as bits. */
        int yieldsTo(int rulesAsBits) {
            int bits = 0;
            for (int i = 0; i < yieldCount; i++) {
                if ((rulesAsBits >> yieldSecond[i] & 1) == 1) {
                    bits |= 1 << yieldFirst[i];
                }
            }
            return bits;
        }

        /** Whether a RULE is another one, or YIELDS to it by one YIELDS or more. */
        boolean reachesByYielding(int rule, int other) {
            int reached = 1 << rule;
            for (int i = 0; i < RULE_LIMIT; i++) {
                reached |= yieldsTo(reached);
            }
            return (reached >> other & 1) == 1;
        }

        void enterRound(int findings, int value, int bytes) {
            if (bookCount >= BOOK_LIMIT) {
                System.arraycopy(book, BOOK_ROW, book, 0, (BOOK_LIMIT - 1) * BOOK_ROW);
                bookCount = BOOK_LIMIT - 1;
            }
            int slot = bookCount * BOOK_ROW;
            book[slot] = findings;
            book[slot + 1] = value;
            book[slot + 2] = bytes;
            bookCount++;
            rounds++;
        }
    }

    /** The latest STEPS: a ring of what was ahead of each. */
    private static final class History {
        private final State[] ring = new State[STEP_LIMIT];
        private int first;
        int count;

        History(Rules rules) {
            for (int i = 0; i < STEP_LIMIT; i++) {
                ring[i] = new State(rules);
            }
        }

        void keep(State state) {
            if (count >= STEP_LIMIT) {
                first = (first + 1) % STEP_LIMIT;
                count = STEP_LIMIT - 1;
            }
            kept(count).copyFrom(state);
            count++;
        }

        void takeBack(State into) {
            if (count > 0) {
                count--;
                into.copyFrom(kept(count));
            }
        }

        void copyFrom(History other) {
            first = 0;
            count = other.count;
            for (int i = 0; i < count; i++) {
                kept(i).copyFrom(other.kept(i));
            }
        }

        private State kept(int i) {
            return ring[Math.floorMod(first + i, STEP_LIMIT)];
        }
    }

    private static final class Tokens {
        // one place more: where the last TOKEN ends
        final int[] begins = new int[TEXT_LIMIT + 1];
        final int[] sorts = new int[TEXT_LIMIT];
        int count;

        void split(Page page) {
            count = 0;
            for (int i = 0; i < page.length; i++) {
                int sort = sortOf(page.bytes[i]);
                if (count == 0 || sort == SIGN || sort != sorts[count - 1]) {
                    begins[count] = i;
                    sorts[count] = sort;
                    count++;
                }
            }
            begins[count] = page.length;
        }

        int holding(int i) {
            for (int t = 0; t < count; t++) {
                if (i < begins[t + 1]) {
                    return t;
                }
            }
            return NONE;
        }
    }

    /** FINDINGS of a text, and THE SET of them. */
    private static final class Finder {
        // 6 PARTS: names of at most 200 bytes each, quotes of less than 300 together
        private static final int FRESH_LIMIT = ROW * TEXT_LIMIT + TAPE_LIMIT;
        private static final int DIGIT_LIMIT = 9;
        private static final int WIDTH = MOST_LIMIT + 1;
        // more than FINDINGS can be in THE SET: one VALUE more is always worth more than fewer FINDINGS
        private static final int VALUE_UNIT = 256;

        private Page page;
        private Rules rules;
        final Tokens tokens = new Tokens();
        private final byte[] freshBytes = new byte[FRESH_LIMIT];
        private int freshLength;
        int count;
        final int[] rule = new int[FINDING_LIMIT];
        private final int[] token = new int[FINDING_LIMIT];
        // the first TOKEN behind a FINDING's SPAN
        private final int[] after = new int[FINDING_LIMIT];
        final int[] size = new int[FINDING_LIMIT];
        final int[] value = new int[FINDING_LIMIT];
        private final int[] marks = new int[FINDING_LIMIT];
        // the first FINDING from each TOKEN on or behind it
        private final int[] firstFrom = new int[TEXT_LIMIT + 1];
        // by TOKEN and how many may be taken yet: the best that can come from there on
        private final int[] best = new int[(TEXT_LIMIT + 1) * WIDTH];
        final int[] picked = new int[TEXT_LIMIT];
        int pickedCount;

        Finder(State state) {
            page = state.page;
            rules = state.rules;
        }

        void look(Page at, State state, int onBits) {
            page = at;
            rules = state.rules;
            tokens.split(page);
            count = 0;
            for (int t = 0; t < tokens.count; t++) {
                firstFrom[t] = count;
                for (int k = 0; k < rules.count; k++) {
                    int r = rules.order[k];
                    if ((onBits >> r & 1) == 1 && fitsFrom(r, t)) {
                        consider(r, t, state.measure);
                    }
                }
            }
            firstFrom[tokens.count] = count;
            markYielded(state);
            // the best without a limit is the best with it too where it keeps it, and is found far sooner
            weigh(1, 0);
            pick(1, 0);
            if (pickedCount > state.most) {
                weigh(state.most, 1);
                pick(state.most, 1);
            }
        }

        // -- fitting --

        boolean fitsFrom(int r, int t) {
            if (r < 0 || r >= rules.count || t < 0 || t >= tokens.count) {
                return false;
            }
            int wanted = rules.elements[r];
            if (t + wanted > tokens.count) {
                return false;
            }
            for (int e = 0; e < wanted; e++) {
                if (!fitsElement(r * ROW + e, t, e)) {
                    return false;
                }
            }
            return true;
        }

        private boolean fitsElement(int slot, int t, int e) {
            int sort = rules.elementSort[slot];
            int from = rules.elementFrom[slot];
            if (sort == QUOTED) {
                return hasBytes(t + e, rules.bytes, from, rules.elementTo[slot]);
            }
            return sort == tokens.sorts[t + e]
                && (from == e || hasBytes(t + e, page.bytes, tokens.begins[t + from], tokens.begins[t + from + 1]));
        }

        private boolean hasBytes(int t, byte[] source, int from, int to) {
            int begin = tokens.begins[t];
            if (tokens.begins[t + 1] - begin != to - from) {
                return false;
            }
            for (int i = from; i < to; i++) {
                if (page.bytes[begin + i - from] != source[i]) {
                    return false;
                }
            }
            return true;
        }

        private void consider(int r, int t, int measure) {
            int behind = t + rules.elements[r];
            int begin = tokens.begins[t];
            int end = tokens.begins[behind];
            writeFresh(r, t);
            if (isFreshLike(begin, end) || count >= FINDING_LIMIT) {
                return;
            }
            rule[count] = r;
            token[count] = t;
            after[count] = behind;
            size[count] = freshLength;
            value[count] = valueOf(rules.weights[r], end - begin, measure);
            marks[count] = page.hides(begin, end) ? SILENT : 0;
            count++;
        }

        private static int valueOf(int weight, int bytes, int measure) {
            if (measure == 0 || bytes < 1) {
                return weight;
            }
            return (int) ((float) weight * 100f / (float) bytes);
        }

        // -- what stands in the place --

        private void writeFresh(int r, int t) {
            freshLength = 0;
            for (int p = 0; p < rules.parts[r]; p++) {
                int kind = rules.partKind[r * ROW + p];
                int from = rules.partFrom[r * ROW + p];
                if (kind == PART_QUOTED) {
                    writeBytes(rules.bytes, from, rules.partTo[r * ROW + p]);
                } else {
                    int begin = tokens.begins[t + from];
                    int end = tokens.begins[t + from + 1];
                    if (kind == PART_TURNED) {
                        writeTurned(begin, end);
                    } else if (kind == PART_SAME || end - begin > DIGIT_LIMIT) {
                        writeBytes(page.bytes, begin, end);
                    } else {
                        writeNumber(begin, end, kind == PART_MORE ? 1 : -1);
                    }
                }
            }
        }

        private void writeBytes(byte[] source, int from, int to) {
            for (int i = from; i < to && freshLength < FRESH_LIMIT; i++) {
                freshBytes[freshLength] = source[i];
                freshLength++;
            }
        }

        private void writeTurned(int from, int to) {
            for (int i = to - 1; i >= from && freshLength < FRESH_LIMIT; i--) {
                freshBytes[freshLength] = page.bytes[i];
                freshLength++;
            }
        }

        private void writeNumber(int from, int to, int more) {
            int number = 0;
            for (int i = from; i < to; i++) {
                number = number * 10 + page.bytes[i] - '0';
            }
            number = Math.max(0, number + more);
            int unit = 1;
            while (unit < 1000000000 && number / unit >= 10) {
                unit = unit * 10;
            }
            for (int left = unit; left > 0 && freshLength < FRESH_LIMIT; left = left / 10) {
                freshBytes[freshLength] = (byte) ('0' + number / left % 10);
                freshLength++;
            }
        }

        private boolean isFreshLike(int begin, int end) {
            if (freshLength != end - begin) {
                return false;
            }
            for (int i = 0; i < freshLength; i++) {
                if (freshBytes[i] != page.bytes[begin + i]) {
                    return false;
                }
            }
            return true;
        }

        int freshByte(int f, int k) {
            writeFresh(rule[f], token[f]);
            return k >= 0 && k < freshLength ? freshBytes[k] : NONE;
        }

        // -- yielding and clashing: SPANS of at most 6 TOKENS, so only near ones share a byte --

        private int firstNear(int f) {
            return firstFrom[Math.max(0, token[f] - ROW + 1)];
        }

        /** For a FINDING between firstNear(f) and the first one behind f. */
        private boolean isLoudAndShares(int other, int f) {
            return (marks[other] & SILENT) == 0 && after[other] > token[f];
        }

        private void markYielded(State state) {
            for (int f = 0; f < count; f++) {
                int stronger = state.yieldsTo(1 << rule[f]);
                if (stronger != 0 && sharesWithOneOf(f, stronger)) {
                    marks[f] |= YIELDED;
                }
            }
        }

        private boolean sharesWithOneOf(int f, int ruleBits) {
            int last = firstFrom[after[f]];
            for (int other = firstNear(f); other < last; other++) {
                if ((ruleBits >> rule[other] & 1) == 1 && isLoudAndShares(other, f)) {
                    return true;
                }
            }
            return false;
        }

        int countClashes(int f) {
            int clashing = 0;
            int last = firstFrom[after[f]];
            for (int other = firstNear(f); other < last; other++) {
                if (other != f && isLoudAndShares(other, f)) {
                    clashing++;
                }
            }
            return clashing;
        }

        // -- THE SET --

        /** By how many may be taken yet; a FINDING costs 1 of these, or 0 where there is no limit. */
        private void weigh(int levels, int cost) {
            for (int k = 0; k <= levels; k++) {
                best[tokens.count * WIDTH + k] = 0;
            }
            for (int t = tokens.count - 1; t >= 0; t--) {
                best[t * WIDTH] = 0;
                for (int k = 1; k <= levels; k++) {
                    int top = best[(t + 1) * WIDTH + k];
                    for (int f = firstFrom[t]; f < firstFrom[t + 1]; f++) {
                        if (marks[f] == 0) {
                            top = Math.max(top, gain(f, k - cost));
                        }
                    }
                    best[t * WIDTH + k] = top;
                }
            }
        }

        private int gain(int f, int left) {
            return value[f] * VALUE_UNIT - 1 + best[after[f] * WIDTH + left];
        }

        private void pick(int levels, int cost) {
            pickedCount = 0;
            int left = levels;
            int next = 0;
            for (int t = 0; t < tokens.count && left > 0; t++) {
                int f = t < next ? NONE : firstBest(t, left, cost);
                if (f != NONE) {
                    picked[pickedCount] = f;
                    pickedCount++;
                    left -= cost;
                    next = after[f];
                }
            }
        }

        /** The first FINDING from a TOKEN on with which the best can be: of like sets the lesser one wins. */
        private int firstBest(int t, int left, int cost) {
            int top = best[t * WIDTH + left];
            for (int f = firstFrom[t]; f < firstFrom[t + 1]; f++) {
                if (marks[f] == 0 && gain(f, left - cost) == top) {
                    return f;
                }
            }
            return NONE;
        }

        boolean canBeMade() {
            return pickedCount > 0 && lengthBehind(picked, pickedCount) <= TEXT_LIMIT;
        }

        int lengthBehind(int[] list, int listed) {
            int length = page.length;
            for (int i = 0; i < listed; i++) {
                length += growth(list[i]);
            }
            return length;
        }

        private int growth(int f) {
            return size[f] - (tokens.begins[after[f]] - tokens.begins[token[f]]);
        }

        /** Only for what lengthBehind allows; target is another page than the one looked at. */
        void rewrite(int[] list, int listed, Page target) {
            target.length = 0;
            target.copySpans(page);
            int done = 0;
            for (int i = 0; i < listed; i++) {
                int f = list[i];
                target.carry(page, done, beginOf(f));
                writeFresh(rule[f], token[f]);
                target.write(freshBytes, freshLength, rule[f]);
                done = endOf(f);
                target.shiftSpans(page, done, growth(f));
            }
            target.carry(page, done, page.length);
        }

        // -- asked of them --

        boolean has(int f) {
            return f >= 0 && f < count;
        }

        boolean isMarked(int f, int mark) {
            return (marks[f] & mark) != 0;
        }

        boolean isPicked(int f) {
            for (int i = 0; i < pickedCount; i++) {
                if (picked[i] == f) {
                    return true;
                }
            }
            return false;
        }

        int beginOf(int f) {
            return tokens.begins[token[f]];
        }

        int endOf(int f) {
            return tokens.begins[after[f]];
        }

        int countMarked(int mark) {
            int marked = 0;
            for (int f = 0; f < count; f++) {
                if (isMarked(f, mark)) {
                    marked++;
                }
            }
            return marked;
        }

        int countOfRule(int r) {
            int same = 0;
            for (int f = 0; f < count; f++) {
                if (rule[f] == r) {
                    same++;
                }
            }
            return same;
        }

        int countPicked(int r) {
            int same = 0;
            for (int i = 0; i < pickedCount; i++) {
                if (rule[picked[i]] == r) {
                    same++;
                }
            }
            return same;
        }

        int pickedRules() {
            int bits = 0;
            for (int i = 0; i < pickedCount; i++) {
                bits |= 1 << rule[picked[i]];
            }
            return bits;
        }

        int pickedValue() {
            int sum = 0;
            for (int i = 0; i < pickedCount; i++) {
                sum += value[picked[i]];
            }
            return sum;
        }

        int pickedBytes() {
            int sum = 0;
            for (int i = 0; i < pickedCount; i++) {
                sum += endOf(picked[i]) - beginOf(picked[i]);
            }
            return sum;
        }

        int loudValue() {
            int sum = 0;
            for (int f = 0; f < count; f++) {
                if (!isMarked(f, SILENT)) {
                    sum += value[f];
                }
            }
            return sum;
        }

        int countLike(int t) {
            int like = 0;
            for (int other = 0; other < tokens.count; other++) {
                if (hasBytes(other, page.bytes, tokens.begins[t], tokens.begins[t + 1])) {
                    like++;
                }
            }
            return like;
        }

        int commonWord() {
            int common = NONE;
            int most = 0;
            for (int t = 0; t < tokens.count; t++) {
                int like = tokens.sorts[t] == WORD ? countLike(t) : 0;
                if (like > most) {
                    most = like;
                    common = t;
                }
            }
            return common;
        }
    }

    /** The COURSE of a state with some RULES ON: the pages round by round, and how it ends. */
    private static final class Journey {
        private final Page[] pages = new Page[ROUND_LIMIT + 1];
        private final int[] ruleBits = new int[ROUND_LIMIT];
        int rounds;
        int findings;
        int ending;
        int firstLike;

        Journey() {
            for (int i = 0; i <= ROUND_LIMIT; i++) {
                pages[i] = new Page();
            }
        }

        void travel(State state, int onBits, Finder finder) {
            pages[0].copyFrom(state.page);
            rounds = 0;
            findings = 0;
            firstLike = NONE;
            ending = NONE;
            for (int i = 0; i <= ROUND_LIMIT && ending == NONE; i++) {
                finder.look(pages[i], state, onBits);
                ending = endingOf(i, finder);
                if (ending == NONE && i < ROUND_LIMIT) {
                    finder.rewrite(finder.picked, finder.pickedCount, pages[i + 1]);
                    ruleBits[i] = finder.pickedRules();
                    findings += finder.pickedCount;
                    rounds = i + 1;
                }
            }
        }

        /** How it ends behind so many ROUNDS, NONE if it goes on. */
        private int endingOf(int behind, Finder finder) {
            firstLike = earlierLike(behind);
            if (firstLike != NONE) {
                return GOES_ROUND;
            }
            if (finder.pickedCount == 0) {
                return STILL;
            }
            if (!finder.canBeMade()) {
                return STOPPED;
            }
            return behind < ROUND_LIMIT ? NONE : WENT_ON;
        }

        private int earlierLike(int behind) {
            for (int i = 0; i < behind; i++) {
                if (pages[i].isLike(pages[behind])) {
                    return i;
                }
            }
            return NONE;
        }

        Page pageBehind(int n) {
            return pages[Math.max(0, Math.min(n, rounds))];
        }

        int rulesMade(int from) {
            int bits = 0;
            for (int i = Math.max(0, from); i < rounds; i++) {
                bits |= ruleBits[i];
            }
            return bits;
        }
    }

    private static final class Brackets {
        private final int[] partners = new int[TEXT_LIMIT];
        private final int[] open = new int[TEXT_LIMIT];

        int partnerOf(Page page, int i) {
            pair(page);
            return i >= 0 && i < page.length ? partners[i] : NONE;
        }

        int countUnpaired(Page page) {
            pair(page);
            int unpaired = 0;
            for (int i = 0; i < page.length; i++) {
                boolean bracket = closerOf(page.bytes[i]) != NONE || isCloser(page.bytes[i]);
                if (bracket && partners[i] == NONE) {
                    unpaired++;
                }
            }
            return unpaired;
        }

        private void pair(Page page) {
            int opened = 0;
            for (int i = 0; i < page.length; i++) {
                int b = page.bytes[i];
                partners[i] = NONE;
                if (closerOf(b) != NONE) {
                    open[opened] = i;
                    opened++;
                } else if (isCloser(b) && opened > 0 && closerOf(page.bytes[open[opened - 1]]) == b) {
                    opened--;
                    partners[i] = open[opened];
                    partners[open[opened]] = i;
                }
            }
        }

        private static int closerOf(int b) {
            switch (b) {
                case '(': return ')';
                case '[': return ']';
                case '{': return '}';
                default: return NONE;
            }
        }

        private static boolean isCloser(int b) {
            return b == ')' || b == ']' || b == '}';
        }
    }
}
