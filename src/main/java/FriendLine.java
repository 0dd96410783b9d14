/** A line for night calls that volunteers answer: training, shifts, rules, bars, notes, care and foretelling. */
public final class FriendLine {
    public static final int NONE = -1;

    private static final int NIGHTS = 200;
    private static final int WEEK = 7;
    private static final int HOURS = 6;
    private static final int ALL_HOURS = 63;
    private static final int HOUR_MINUTES = 60;
    private static final int MINUTES = 360;
    private static final int CALLERS = 20;
    private static final int TOP_RANK = 3;
    private static final int TOP_NEED = 9;
    private static final int TOP_TOPIC = 7;
    private static final int TOP_LENGTH = 90;
    private static final int MOST_SHIFT_HOURS = 3;
    private static final int FEED_BYTES = 20;

    private final Tape tape;
    private final RuleReader reader;
    private Rules rules;
    private Rules spareRules;
    private final Team team;
    private final Calendar calendar;
    private final Offers offers;
    private final ShiftSearch search;
    private final CallBook book;
    private final NightRun nightRun;
    private final NoteBook noteBook;
    private int tonight;

    public FriendLine() {
        tape = new Tape();
        rules = new Rules();
        spareRules = new Rules();
        reader = new RuleReader(spareRules);
        team = new Team();
        calendar = new Calendar();
        offers = new Offers();
        search = new ShiftSearch();
        book = new CallBook();
        nightRun = new NightRun(team, calendar, book, rules);
        noteBook = new NoteBook();
        tonight = 0;
    }

    public int feed(int a, int b, int c, int d, int e) {
        if (!tape.hasRoomFor(FEED_BYTES)) {
            return NONE;
        }
        tape.append(a);
        tape.append(b);
        tape.append(c);
        tape.append(d);
        tape.append(e);
        return tape.length();
    }

    public int back(int n) {
        if (!isWithin(n, 0, tape.length())) {
            return NONE;
        }
        tape.cutTo(tape.length() - n);
        return tape.length();
    }

    public int read() {
        int fault = reader.readRules(tape, spareRules);
        tape.cutTo(0);
        if (fault == RuleReader.FINE) {
            // The two are exchanged so that a faulty text can be read without harm to the rules in force.
            Rules old = rules;
            rules = spareRules;
            spareRules = old;
        }
        return fault;
    }

    public int place() {
        return reader.faultPlace();
    }

    public int volunteer(int rank) {
        return isWithin(rank, 0, TOP_RANK) ? team.addVolunteer(rank) : NONE;
    }

    public int step(int behind, int lasts) {
        boolean isPlaced = behind == NONE || team.isStep(behind);
        return isPlaced && isWithin(lasts, 1, NIGHTS) ? team.addStep(behind, lasts) : NONE;
    }

    public boolean learn(int v, int step) {
        return team.teach(v, step, tonight);
    }

    public int has(int v, int step, int night) {
        if (!team.isVolunteer(v) || !team.isStep(step) || !isNight(night)) {
            return NONE;
        }
        return team.hasStep(v, step, night) ? 1 : 0;
    }

    public boolean bar(int caller, int v) {
        return team.addBar(caller, v, tonight);
    }

    public boolean care(int v) {
        if (!team.isVolunteer(v) || !careIsDue(v)) {
            return false;
        }
        team.giveCare(v, tonight);
        return true;
    }

    public int due(int v) {
        if (!team.isVolunteer(v)) {
            return NONE;
        }
        return careIsDue(v) ? 1 : 0;
    }

    public boolean clock(int n) {
        if (!isWithin(n, tonight, NIGHTS - 1)) {
            return false;
        }
        if (n != tonight) {
            tonight = n;
            offers.clear();
            book.beginNight();
        }
        return true;
    }

    public boolean holiday(int night) {
        if (!isNight(night) || calendar.isHoliday(night) || calendar.isGone(night)) {
            return false;
        }
        calendar.setHoliday(night);
        return true;
    }

    public int offer(int v, int hours, int most) {
        boolean isSound = team.isVolunteer(v) && isWithin(hours, 1, ALL_HOURS) && isWithin(most, 1, MOST_SHIFT_HOURS);
        if (!isSound || calendar.isFound(tonight) || calendar.isGone(tonight)) {
            return NONE;
        }
        return offers.add(v, hours, most);
    }

    public int shifts() {
        if (calendar.isFound(tonight) || calendar.isGone(tonight)) {
            return NONE;
        }
        search.clear();
        for (int i = 0; i < offers.size(); i++) {
            int v = offers.volunteerOf(i);
            int hours = careIsDue(v) ? 0 : offers.hoursOf(i);
            search.add(hours, offers.mostOf(i), team.hasStep(v, 0, tonight));
        }
        int kept = search.findBest();
        for (int i = 0; i < offers.size(); i++) {
            calendar.setHours(offers.volunteerOf(i), tonight, search.shiftOf(i));
        }
        calendar.setFound(tonight);
        return kept;
    }

    public int there(int v, int night) {
        return team.isVolunteer(v) && isNight(night) ? calendar.hoursOf(v, night) : NONE;
    }

    public int lacks(int night) {
        return isNight(night) && calendar.isFound(night) ? ALL_HOURS & ~keptHours(night) : NONE;
    }

    public int call(int minute, int caller, int need, int topic, int length) {
        boolean isSound = isWithin(minute, 0, MINUTES - 1) && isCaller(caller) && isWithin(need, 0, TOP_NEED)
                && isWithin(topic, 0, TOP_TOPIC) && isWithin(length, 1, TOP_LENGTH);
        if (!isSound || calendar.isGone(tonight)) {
            return NONE;
        }
        return book.add(tonight, minute, caller, need, topic, length);
    }

    public int go() {
        if (calendar.isGone(tonight)) {
            return NONE;
        }
        calendar.setGone(tonight);
        return nightRun.goThrough(tonight, rules);
    }

    public int told(int call, int what) {
        if (!book.isCall(call)) {
            return NONE;
        }
        switch (what) {
            case 0: return book.nightOf(call);
            case 1: return book.stateOf(call);
            case 2: return book.takerOf(call);
            case 3: return book.sinceOf(call);
            case 4: return book.endOf(call);
            case 5: return book.callerOf(call);
            default: return NONE;
        }
    }

    public int talked(int v, int night) {
        return team.isVolunteer(v) && calendar.isGone(night) ? book.minutesOf(v, night) : NONE;
    }

    public int note(int call, int rank) {
        if (!isWithin(rank, 0, TOP_RANK) || book.stateOf(call) != CallBook.TAKEN) {
            return NONE;
        }
        return noteBook.add(call, rank, tonight);
    }

    public int see(int v, int note, int night) {
        if (!team.isVolunteer(v) || !noteBook.isNote(note) || !isNight(night)) {
            return NONE;
        }
        return maySee(v, note, night) ? 1 : 0;
    }

    public int foretold(int hour, int night) {
        if (!isWithin(hour, 0, HOURS - 1) || !isNight(night)) {
            return NONE;
        }
        int likeNights = 0;
        for (int n = 0; n < tonight; n++) {
            if (isForerunner(n, night)) {
                likeNights++;
            }
        }
        int came = 0;
        for (int call = 0; call < book.size(); call++) {
            if (book.minuteOf(call) / HOUR_MINUTES == hour && isForerunner(book.nightOf(call), night)) {
                came++;
            }
        }
        return likeNights == 0 ? NONE : came * 100 / likeNights;
    }

    public int count(int what) {
        switch (what) {
            case 0: return team.size();
            case 1: return team.stepCount();
            case 2: return tonight;
            case 3: return book.size();
            case 4: return book.countState(CallBook.TAKEN);
            case 5: return book.countState(CallBook.DROPPED);
            case 6: return book.countState(CallBook.LEFT);
            case 7: return noteBook.size();
            case 8: return rules.size();
            case 9: return calendar.countGone();
            case 10: return tape.length();
            default: return NONE;
        }
    }

    private static boolean isWithin(int x, int least, int most) {
        return x >= least && x <= most;
    }

    private static boolean isNight(int n) {
        return n >= 0 && n < NIGHTS;
    }

    private static boolean isCaller(int caller) {
        return caller >= 0 && caller < CALLERS;
    }

    private boolean careIsDue(int v) {
        return book.hasHardCall(v, team.caredFrom(v), tonight);
    }

    private int keptHours(int night) {
        int one = 0;
        int two = 0;
        int skilled = 0;
        for (int v = 0; v < team.size(); v++) {
            int hours = calendar.hoursOf(v, night);
            two |= one & hours;
            one |= hours;
            skilled |= team.hasStep(v, 0, night) ? hours : 0;
        }
        return two & skilled;
    }

    private boolean maySee(int v, int note, int night) {
        if (night < noteBook.nightOf(note)) {
            return false;
        }
        int call = noteBook.callOf(note);
        if (book.takerOf(call) == v) {
            return true;
        }
        return team.rankOf(v) >= noteBook.rankOf(note) && !team.isBarred(book.callerOf(call), v, night);
    }

    // The night of the clock itself is not ahead of the clock, so it never counts, gone through or not.
    private boolean isForerunner(int past, int night) {
        return past < tonight && calendar.isGone(past) && calendar.areAlike(past, night);
    }

    /** The bytes that were fed and not yet read. */
    private static final class Tape {
        static final int MOST = 2000;

        private final byte[] bytes;
        private int length;

        Tape() {
            bytes = new byte[MOST];
            length = 0;
        }

        int length() {
            return length;
        }

        boolean hasRoomFor(int n) {
            return length + n <= MOST;
        }

        void append(int word) {
            for (int shift = 24; shift >= 0; shift -= 8) {
                if (length < MOST) {
                    bytes[length] = (byte) (word >>> shift);
                    length++;
                }
            }
        }

        void cutTo(int n) {
            if (n >= 0 && n <= length) {
                length = n;
            }
        }

        /** NONE stands for the text's end, so that a reader may look one byte too far. */
        int byteAt(int i) {
            return i >= 0 && i < length ? bytes[i] & 255 : NONE;
        }
    }

    /** Cuts a tape into tokens, one at a time. */
    private static final class TokenScanner {
        static final int END = 0;
        static final int BAD = 1;
        static final int NUMBER = 2;
        static final int FACT = 3;
        static final int FIRST = 4;
        static final int STEP = 5;
        static final int DROP = 6;
        static final int REST = 7;
        static final int IF = 8;
        static final int AND = 9;
        static final int SEMICOLON = 10;
        static final int OPEN = 11;
        static final int CLOSE = 12;
        static final int PLUS = 13;
        static final int MINUS = 14;
        static final int TIMES = 15;
        static final int EQUAL = 16;
        static final int UNEQUAL = 17;
        static final int LESS = 18;
        static final int NOT_MORE = 19;

        private static final int WORD_LETTERS = 8;
        private static final int NUMBER_DIGITS = 4;

        private int next;
        private int start;
        private int kind;
        private int value;

        TokenScanner() {
            next = 0;
            start = 0;
            kind = END;
            value = 0;
        }

        void restart() {
            next = 0;
        }

        int start() {
            return start;
        }

        int kind() {
            return kind;
        }

        int value() {
            return value;
        }

        void scan(Tape tape) {
            skipBlanks(tape);
            start = next;
            value = 0;
            int c = tape.byteAt(start);
            if (c == NONE) {
                kind = END;
            } else if (isLetter(c)) {
                scanWord(tape);
            } else if (isDigit(c)) {
                scanNumber(tape);
            } else {
                scanSign(c, tape.byteAt(start + 1));
            }
        }

        private void skipBlanks(Tape tape) {
            for (int i = 0; i < Tape.MOST && isBlank(tape.byteAt(next)); i++) {
                next++;
            }
        }

        private void scanWord(Tape tape) {
            for (int i = 0; i < Tape.MOST && isLetter(tape.byteAt(next)); i++) {
                next++;
            }
            kind = next - start > WORD_LETTERS ? BAD : keywordKind(tape);
            if (kind == BAD) {
                value = factIndex(tape);
                kind = value == NONE ? BAD : FACT;
            }
        }

        private void scanNumber(Tape tape) {
            int number = 0;
            for (int i = 0; i < Tape.MOST && isDigit(tape.byteAt(next)); i++) {
                number = number * 10 + tape.byteAt(next) - '0';
                next++;
            }
            kind = next - start > NUMBER_DIGITS ? BAD : NUMBER;
            value = kind == NUMBER ? number : 0;
        }

        private void scanSign(int c, int following) {
            boolean isDouble = following == '=' && (c == '=' || c == '!' || c == '<');
            next = isDouble ? start + 2 : start + 1;
            kind = isDouble ? doubleSignKind(c) : singleSignKind(c);
        }

        private static int doubleSignKind(int c) {
            switch (c) {
                case '=': return EQUAL;
                case '!': return UNEQUAL;
                default: return NOT_MORE;
            }
        }

        private static int singleSignKind(int c) {
            switch (c) {
                case ';': return SEMICOLON;
                case '+': return PLUS;
                case '-': return MINUS;
                case '*': return TIMES;
                case '<': return LESS;
                case '(': return OPEN;
                case ')': return CLOSE;
                default: return BAD;
            }
        }

        private int keywordKind(Tape tape) {
            if (spells(tape, "first")) {
                return FIRST;
            }
            if (spells(tape, "step")) {
                return STEP;
            }
            if (spells(tape, "drop")) {
                return DROP;
            }
            if (spells(tape, "rest")) {
                return REST;
            }
            if (spells(tape, "if")) {
                return IF;
            }
            return spells(tape, "and") ? AND : BAD;
        }

        private int factIndex(Tape tape) {
            if (spells(tape, "need")) {
                return Rules.NEED;
            }
            if (spells(tape, "topic")) {
                return Rules.TOPIC;
            }
            if (spells(tape, "waited")) {
                return Rules.WAITED;
            }
            if (spells(tape, "hour")) {
                return Rules.HOUR;
            }
            if (spells(tape, "known")) {
                return Rules.KNOWN;
            }
            return spells(tape, "talked") ? Rules.TALKED : NONE;
        }

        private boolean spells(Tape tape, String word) {
            if (next - start != word.length()) {
                return false;
            }
            for (int i = 0; i < word.length(); i++) {
                if (tape.byteAt(start + i) != word.charAt(i)) {
                    return false;
                }
            }
            return true;
        }

        private static boolean isBlank(int c) {
            return c == 9 || c == 10 || c == 13 || c == 32;
        }

        private static boolean isLetter(int c) {
            return c >= 'a' && c <= 'z';
        }

        private static boolean isDigit(int c) {
            return c >= '0' && c <= '9';
        }
    }

    /**
     * Turns a tape into rules, token by token, without recursion: operators wait on a stack until what binds closer
     * has been written. A token is looked at by the grammar first, so that of one place SYNTAX goes ahead of ROOM.
     */
    private static final class RuleReader {
        static final int FINE = 0;

        private static final int SYNTAX = 1;
        private static final int ROOM = 2;
        private static final int WRONG = 5;
        private static final int MOST_TOKENS = 400;
        private static final int MOST_OPEN = 6;
        private static final int TOP_STEP = 7;
        private static final int TOP_REST = 60;
        // Six parentheses, and a sum and a product at each of seven levels.
        private static final int STACK = 20;

        private static final int AT_RULE = 0;
        private static final int AT_NUMBER = 1;
        private static final int AT_IF = 2;
        private static final int AT_OPERAND = 3;
        private static final int BEHIND_OPERAND = 4;

        private static final int IN_FIRST = 0;
        private static final int IN_LEFT = 1;
        private static final int IN_RIGHT = 2;

        private final TokenScanner scanner;
        private final int[] stack;
        private int stacked;
        private int open;
        private int state;
        private int side;
        private int relation;
        private boolean isJoined;
        private int wrongPlace;
        private int faultPlace;
        private Rules rules;

        RuleReader(Rules into) {
            scanner = new TokenScanner();
            stack = new int[STACK];
            rules = into;
            faultPlace = NONE;
            prepare(into);
        }

        int faultPlace() {
            return faultPlace;
        }

        int readRules(Tape tape, Rules into) {
            prepare(into);
            int fault = FINE;
            boolean isOver = false;
            for (int tokens = 1; tokens <= Tape.MOST + 1 && fault == FINE && !isOver; tokens++) {
                scanner.scan(tape);
                isOver = scanner.kind() == TokenScanner.END && state == AT_RULE;
                if (!isOver) {
                    fault = take(scanner.kind(), scanner.value());
                    if (fault == FINE && tokens > MOST_TOKENS) {
                        fault = ROOM;
                    }
                }
            }
            if (fault != FINE) {
                faultPlace = scanner.start();
                return fault;
            }
            faultPlace = wrongPlace;
            return wrongPlace == NONE ? FINE : WRONG;
        }

        private void prepare(Rules into) {
            rules = into;
            rules.clear();
            scanner.restart();
            stacked = 0;
            open = 0;
            state = AT_RULE;
            side = IN_FIRST;
            relation = 0;
            isJoined = false;
            wrongPlace = NONE;
        }

        private int take(int kind, int value) {
            switch (state) {
                case AT_RULE: return takeRuleStart(kind);
                case AT_NUMBER: return takeNumber(kind, value);
                case AT_IF: return takeIf(kind);
                case AT_OPERAND: return takeOperand(kind, value);
                default: return takeBehindOperand(kind);
            }
        }

        private int takeRuleStart(int kind) {
            switch (kind) {
                case TokenScanner.FIRST:
                    state = AT_OPERAND;
                    break;
                case TokenScanner.STEP:
                case TokenScanner.REST:
                    state = AT_NUMBER;
                    break;
                case TokenScanner.DROP:
                    state = AT_IF;
                    break;
                default:
                    return SYNTAX;
            }
            side = IN_FIRST;
            return rules.begin(kind) ? FINE : ROOM;
        }

        private int takeNumber(int kind, int value) {
            if (kind != TokenScanner.NUMBER) {
                return SYNTAX;
            }
            boolean isRest = rules.lastKind() == TokenScanner.REST;
            boolean isRight = isRest ? isWithin(value, 1, TOP_REST) : value <= TOP_STEP;
            if (!isRight && wrongPlace == NONE) {
                wrongPlace = scanner.start();
            }
            rules.setNumber(value);
            state = AT_IF;
            return FINE;
        }

        private int takeIf(int kind) {
            if (kind != TokenScanner.IF) {
                return SYNTAX;
            }
            beginCondition();
            return FINE;
        }

        private int takeOperand(int kind, int value) {
            if (kind == TokenScanner.NUMBER || kind == TokenScanner.FACT) {
                rules.write(kind, value);
                state = BEHIND_OPERAND;
                return FINE;
            }
            if (kind != TokenScanner.OPEN) {
                return SYNTAX;
            }
            if (open == MOST_OPEN) {
                return ROOM;
            }
            open++;
            push(kind);
            return FINE;
        }

        private int takeBehindOperand(int kind) {
            if (isArithmetic(kind)) {
                writeOperators(rankOf(kind));
                push(kind);
                state = AT_OPERAND;
                return FINE;
            }
            if (open > 0) {
                return takeClose(kind);
            }
            switch (side) {
                case IN_FIRST: return takeBehindFirst(kind);
                case IN_LEFT: return takeRelation(kind);
                default: return takeBehindRelation(kind);
            }
        }

        private int takeClose(int kind) {
            if (kind != TokenScanner.CLOSE) {
                return SYNTAX;
            }
            writeOperators(1);
            if (stacked > 0) {
                stacked--;
            }
            open--;
            return FINE;
        }

        private int takeBehindFirst(int kind) {
            if (kind != TokenScanner.IF && kind != TokenScanner.SEMICOLON) {
                return SYNTAX;
            }
            writeOperators(1);
            if (kind == TokenScanner.IF) {
                beginCondition();
            } else {
                rules.beginCondition();
                endRule();
            }
            return FINE;
        }

        private int takeRelation(int kind) {
            if (!isRelation(kind)) {
                return SYNTAX;
            }
            writeOperators(1);
            relation = kind;
            side = IN_RIGHT;
            state = AT_OPERAND;
            return FINE;
        }

        private int takeBehindRelation(int kind) {
            if (kind != TokenScanner.AND && kind != TokenScanner.SEMICOLON) {
                return SYNTAX;
            }
            writeOperators(1);
            rules.write(relation, 0);
            if (isJoined) {
                rules.write(TokenScanner.AND, 0);
            }
            if (kind == TokenScanner.AND) {
                isJoined = true;
                side = IN_LEFT;
                state = AT_OPERAND;
            } else {
                endRule();
            }
            return FINE;
        }

        private void beginCondition() {
            rules.beginCondition();
            isJoined = false;
            side = IN_LEFT;
            state = AT_OPERAND;
        }

        private void endRule() {
            rules.end();
            state = AT_RULE;
        }

        private void push(int kind) {
            if (stacked < STACK) {
                stack[stacked] = kind;
                stacked++;
            }
        }

        /** Writes the operators on top that bind at least so closely; a parenthesis, of rank 0, stops it. */
        private void writeOperators(int rank) {
            for (int i = stacked - 1; i >= 0 && rankOf(stack[i]) >= rank; i--) {
                rules.write(stack[i], 0);
                stacked = i;
            }
        }

        private static boolean isArithmetic(int kind) {
            return rankOf(kind) > 0;
        }

        private static boolean isRelation(int kind) {
            return isWithin(kind, TokenScanner.EQUAL, TokenScanner.NOT_MORE);
        }

        private static int rankOf(int kind) {
            switch (kind) {
                case TokenScanner.TIMES: return 2;
                case TokenScanner.PLUS:
                case TokenScanner.MINUS: return 1;
                default: return 0;
            }
        }
    }

    /** Rules as they are worked out: the terms of all of them stand in one row, operators behind their operands. */
    private static final class Rules {
        static final int NEED = 0;
        static final int TOPIC = 1;
        static final int WAITED = 2;
        static final int HOUR = 3;
        static final int KNOWN = 4;
        static final int TALKED = 5;
        static final int FACTS = 6;

        private static final int MOST = 20;
        private static final int MOST_CODE = 400;
        private static final int STACK = 32;
        private static final int KIND_BITS = 5;
        private static final int KIND_MASK = 31;

        private final int[] kinds;
        private final int[] numbers;
        private final int[] starts;
        private final int[] conditions;
        private final int[] ends;
        private final int[] code;
        private final int[] stack;
        private int size;
        private int codeSize;

        Rules() {
            kinds = new int[MOST];
            numbers = new int[MOST];
            starts = new int[MOST];
            conditions = new int[MOST];
            ends = new int[MOST];
            code = new int[MOST_CODE];
            stack = new int[STACK];
            size = 0;
            codeSize = 0;
        }

        void clear() {
            size = 0;
            codeSize = 0;
        }

        int size() {
            return size;
        }

        boolean begin(int kind) {
            if (size >= MOST) {
                return false;
            }
            kinds[size] = kind;
            numbers[size] = 0;
            starts[size] = codeSize;
            conditions[size] = codeSize;
            ends[size] = codeSize;
            size++;
            return true;
        }

        int lastKind() {
            return kindOf(size - 1);
        }

        void setNumber(int number) {
            if (size > 0) {
                numbers[size - 1] = number;
            }
        }

        void beginCondition() {
            if (size > 0) {
                conditions[size - 1] = codeSize;
            }
        }

        void end() {
            if (size > 0) {
                ends[size - 1] = codeSize;
            }
        }

        void write(int kind, int value) {
            if (codeSize < MOST_CODE) {
                code[codeSize] = value << KIND_BITS | kind;
                codeSize++;
            }
        }

        int kindOf(int rule) {
            return rule >= 0 && rule < size ? kinds[rule] : NONE;
        }

        int numberOf(int rule) {
            return rule >= 0 && rule < size ? numbers[rule] : 0;
        }

        /** A rule without a condition always holds. */
        boolean holds(int rule, int[] facts) {
            if (rule < 0 || rule >= size) {
                return false;
            }
            return conditions[rule] == ends[rule] || workOut(conditions[rule], ends[rule], facts) != 0;
        }

        /** The first rule of a kind that holds, or NONE. */
        int firstHolding(int kind, int[] facts) {
            for (int rule = 0; rule < size; rule++) {
                if (kinds[rule] == kind && holds(rule, facts)) {
                    return rule;
                }
            }
            return NONE;
        }

        int termOf(int rule, int[] facts) {
            return rule >= 0 && rule < size ? workOut(starts[rule], conditions[rule], facts) : 0;
        }

        private int workOut(int from, int to, int[] facts) {
            int high = 0;
            for (int i = Math.max(from, 0); i < to && i < codeSize; i++) {
                int kind = code[i] & KIND_MASK;
                int value = code[i] >> KIND_BITS;
                if (kind == TokenScanner.NUMBER && high < STACK) {
                    stack[high] = value;
                    high++;
                } else if (kind == TokenScanner.FACT && high < STACK && value >= 0 && value < facts.length) {
                    stack[high] = facts[value];
                    high++;
                } else if (high >= 2) {
                    high--;
                    stack[high - 1] = combine(kind, stack[high - 1], stack[high]);
                }
            }
            return stack[0];
        }

        private static int combine(int kind, int left, int right) {
            switch (kind) {
                case TokenScanner.PLUS: return left + right;
                case TokenScanner.MINUS: return left - right;
                case TokenScanner.TIMES: return left * right;
                case TokenScanner.EQUAL: return left == right ? 1 : 0;
                case TokenScanner.UNEQUAL: return left != right ? 1 : 0;
                case TokenScanner.LESS: return left < right ? 1 : 0;
                case TokenScanner.NOT_MORE: return left <= right ? 1 : 0;
                default: return left & right;
            }
        }
    }

    /** Volunteers, what they learned, what care they got, and from whom they are barred. */
    private static final class Team {
        private static final int MOST = 8;
        private static final int MOST_STEPS = 8;

        private final int[] ranks;
        private final int[] cares;
        private int size;
        private final int[] behinds;
        private final int[] lasting;
        private int steps;
        // For each night a bit for each volunteer and step: learning anew must not undo what was had before.
        private final long[] learned;
        private final int[] bars;

        Team() {
            ranks = new int[MOST];
            cares = new int[MOST];
            size = 0;
            behinds = new int[MOST_STEPS];
            lasting = new int[MOST_STEPS];
            steps = 0;
            learned = new long[NIGHTS];
            bars = new int[CALLERS * MOST];
            for (int i = 0; i < CALLERS * MOST; i++) {
                bars[i] = NONE;
            }
        }

        int size() {
            return size;
        }

        int stepCount() {
            return steps;
        }

        boolean isVolunteer(int v) {
            return v >= 0 && v < size;
        }

        boolean isStep(int step) {
            return step >= 0 && step < steps;
        }

        int addVolunteer(int rank) {
            if (size >= MOST) {
                return NONE;
            }
            ranks[size] = rank;
            size++;
            return size - 1;
        }

        int addStep(int behind, int lasts) {
            if (steps >= MOST_STEPS) {
                return NONE;
            }
            behinds[steps] = behind;
            lasting[steps] = lasts;
            steps++;
            return steps - 1;
        }

        int rankOf(int v) {
            return isVolunteer(v) ? ranks[v] : NONE;
        }

        boolean teach(int v, int step, int night) {
            if (!isVolunteer(v) || !isStep(step)) {
                return false;
            }
            if (behinds[step] != NONE && !hasStep(v, behinds[step], night)) {
                return false;
            }
            for (int n = night; n < night + lasting[step] && isNight(n); n++) {
                learned[n] |= learnedBit(v, step);
            }
            return true;
        }

        boolean hasStep(int v, int step, int night) {
            if (!isVolunteer(v) || !isStep(step) || !isNight(night)) {
                return false;
            }
            int asked = step;
            for (int depth = 0; depth < MOST_STEPS && isStep(asked); depth++) {
                if ((learned[night] & learnedBit(v, asked)) == 0) {
                    return false;
                }
                asked = behinds[asked];
            }
            return true;
        }

        boolean addBar(int caller, int v, int night) {
            if (!isCaller(caller) || !isVolunteer(v) || bars[barIndex(caller, v)] != NONE) {
                return false;
            }
            bars[barIndex(caller, v)] = night;
            return true;
        }

        boolean isBarred(int caller, int v, int night) {
            if (!isCaller(caller) || !isVolunteer(v)) {
                return false;
            }
            int since = bars[barIndex(caller, v)];
            return since != NONE && since <= night;
        }

        void giveCare(int v, int night) {
            if (isVolunteer(v)) {
                cares[v] = night;
            }
        }

        /** Care was given for all calls ahead of this night. */
        int caredFrom(int v) {
            return isVolunteer(v) ? cares[v] : 0;
        }

        private static long learnedBit(int v, int step) {
            return 1L << (v * MOST_STEPS + step);
        }

        private static int barIndex(int caller, int v) {
            return caller * MOST + v;
        }
    }

    /** What each night is, and who is there in which of its hours. */
    private static final class Calendar {
        private static final int HOLIDAY = 1;
        private static final int FOUND = 2;
        private static final int GONE = 4;

        private final int[] marks;
        // Six bits, one an hour, for each volunteer.
        private final long[] present;

        Calendar() {
            marks = new int[NIGHTS];
            present = new long[NIGHTS];
        }

        boolean isHoliday(int night) {
            return isMarked(night, HOLIDAY);
        }

        boolean isFound(int night) {
            return isMarked(night, FOUND);
        }

        boolean isGone(int night) {
            return isMarked(night, GONE);
        }

        void setHoliday(int night) {
            mark(night, HOLIDAY);
        }

        void setFound(int night) {
            mark(night, FOUND);
        }

        void setGone(int night) {
            mark(night, GONE);
        }

        int countGone() {
            int gone = 0;
            for (int night = 0; night < NIGHTS; night++) {
                if (isGone(night)) {
                    gone++;
                }
            }
            return gone;
        }

        boolean areAlike(int one, int other) {
            if (isHoliday(one) != isHoliday(other)) {
                return false;
            }
            return isHoliday(one) || one % WEEK == other % WEEK;
        }

        void setHours(int v, int night, int hours) {
            if (isNight(night) && v >= 0 && v < Team.MOST) {
                present[night] |= (long) hours << (v * HOURS);
            }
        }

        int hoursOf(int v, int night) {
            return isNight(night) && v >= 0 && v < Team.MOST ? (int) (present[night] >>> (v * HOURS)) & ALL_HOURS : 0;
        }

        private boolean isMarked(int night, int mark) {
            return isNight(night) && (marks[night] & mark) != 0;
        }

        private void mark(int night, int mark) {
            if (isNight(night)) {
                marks[night] |= mark;
            }
        }
    }

    /** The offers for the clock's night. */
    private static final class Offers {
        static final int MOST = 5;

        private final int[] volunteers;
        private final int[] hours;
        private final int[] mosts;
        private int size;

        Offers() {
            volunteers = new int[MOST];
            hours = new int[MOST];
            mosts = new int[MOST];
            size = 0;
        }

        void clear() {
            size = 0;
        }

        int size() {
            return size;
        }

        int add(int v, int offered, int most) {
            if (size >= MOST || isOfOffer(v)) {
                return NONE;
            }
            volunteers[size] = v;
            hours[size] = offered;
            mosts[size] = most;
            size++;
            return size - 1;
        }

        int volunteerOf(int i) {
            return i >= 0 && i < size ? volunteers[i] : NONE;
        }

        int hoursOf(int i) {
            return i >= 0 && i < size ? hours[i] : 0;
        }

        int mostOf(int i) {
            return i >= 0 && i < size ? mosts[i] : 0;
        }

        private boolean isOfOffer(int v) {
            for (int i = 0; i < size; i++) {
                if (volunteers[i] == v) {
                    return true;
                }
            }
            return false;
        }
    }

    /**
     * Looks through all ways to give shifts, in the order that settles ties, and leaves out those that cannot be
     * better than the best so far.
     */
    private static final class ShiftSearch {
        private final int[] hours;
        private final int[] mosts;
        private final boolean[] isSkilled;
        // What the offers from each on could still bring: which hours of one of them, of two, of a skilled one, and
        // how many hours of all, of the skilled ones.
        private final int[] laterOne;
        private final int[] laterTwo;
        private final int[] laterSkilled;
        private final int[] laterHours;
        private final int[] laterSkilledHours;
        private final int[] chosen;
        private final int[] best;
        private int size;
        private int bestKept;
        private int bestHours;

        ShiftSearch() {
            hours = new int[Offers.MOST];
            mosts = new int[Offers.MOST];
            isSkilled = new boolean[Offers.MOST];
            laterOne = new int[Offers.MOST + 1];
            laterTwo = new int[Offers.MOST + 1];
            laterSkilled = new int[Offers.MOST + 1];
            laterHours = new int[Offers.MOST + 1];
            laterSkilledHours = new int[Offers.MOST + 1];
            chosen = new int[Offers.MOST];
            best = new int[Offers.MOST];
            size = 0;
            bestKept = NONE;
            bestHours = 0;
        }

        void clear() {
            size = 0;
        }

        void add(int offered, int most, boolean skilled) {
            if (size < Offers.MOST) {
                hours[size] = offered;
                mosts[size] = most;
                isSkilled[size] = skilled;
                size++;
            }
        }

        int shiftOf(int i) {
            return i >= 0 && i < size ? best[i] : 0;
        }

        int findBest() {
            lookAhead();
            bestKept = NONE;
            bestHours = 0;
            tryFrom(0, 0, 0, 0, 0);
            return bestKept;
        }

        private void lookAhead() {
            laterOne[size] = 0;
            laterTwo[size] = 0;
            laterSkilled[size] = 0;
            laterHours[size] = 0;
            laterSkilledHours[size] = 0;
            for (int i = size - 1; i >= 0; i--) {
                int most = Math.min(mosts[i], Integer.bitCount(hours[i]));
                laterOne[i] = laterOne[i + 1] | hours[i];
                laterTwo[i] = laterTwo[i + 1] | (laterOne[i + 1] & hours[i]);
                laterSkilled[i] = laterSkilled[i + 1] | (isSkilled[i] ? hours[i] : 0);
                laterHours[i] = laterHours[i + 1] + most;
                laterSkilledHours[i] = laterSkilledHours[i + 1] + (isSkilled[i] ? most : 0);
            }
        }

        /** one, two, skilled: hours in which one, two, a skilled one are there by the shifts chosen ahead of i. */
        private void tryFrom(int i, int one, int two, int skilled, int given) {
            if (i < 0 || i > size || !canBeBetter(i, one, two, skilled, given)) {
                return;
            }
            if (i == size) {
                bestKept = Integer.bitCount(two & skilled);
                bestHours = given;
                System.arraycopy(chosen, 0, best, 0, size);
                return;
            }
            chosen[i] = 0;
            tryFrom(i + 1, one, two, skilled, given);
            for (int first = 0; first < HOURS; first++) {
                for (int length = 1; length <= mosts[i]; length++) {
                    int shift = ((1 << length) - 1) << first;
                    if ((shift & ~hours[i]) != 0) {
                        break;
                    }
                    chosen[i] = shift;
                    int nowSkilled = isSkilled[i] ? skilled | shift : skilled;
                    tryFrom(i + 1, one | shift, two | (one & shift), nowSkilled, given + length);
                }
            }
        }

        private boolean canBeBetter(int i, int one, int two, int skilled, int given) {
            int open = (two | (one & laterOne[i]) | laterTwo[i]) & (skilled | laterSkilled[i]);
            // A kept hour takes two places, one of them a skilled one's: the hours yet to give must be enough for it.
            int filled = Integer.bitCount(one & open) + Integer.bitCount(two & open);
            int kept = Math.min(Integer.bitCount(open), (filled + laterHours[i]) / 2);
            kept = Math.min(kept, Integer.bitCount(skilled & open) + laterSkilledHours[i]);
            if (kept != bestKept) {
                return kept > bestKept;
            }
            return given + Math.max(0, 2 * bestKept - filled) < bestHours;
        }
    }

    /** All calls, in the order of their numbers. */
    private static final class CallBook {
        static final int MOST_A_NIGHT = 40;
        static final int OPEN = 0;
        static final int TAKEN = 1;
        static final int DROPPED = 2;
        static final int LEFT = 3;

        private static final int MOST = 400;
        private static final int HARD_NEED = 8;

        private final int[] nights;
        private final int[] minutes;
        private final int[] callers;
        private final int[] needs;
        private final int[] topics;
        private final int[] lengths;
        private final int[] states;
        private final int[] takers;
        // The minute at which it was taken or dropped.
        private final int[] sinces;
        private int size;
        private int nightStart;

        CallBook() {
            nights = new int[MOST];
            minutes = new int[MOST];
            callers = new int[MOST];
            needs = new int[MOST];
            topics = new int[MOST];
            lengths = new int[MOST];
            states = new int[MOST];
            takers = new int[MOST];
            sinces = new int[MOST];
            size = 0;
            nightStart = 0;
        }

        int size() {
            return size;
        }

        void beginNight() {
            nightStart = size;
        }

        /** The first call of the clock's night: as the clock only goes on, its calls are the last ones. */
        int nightStart() {
            return nightStart;
        }

        int add(int night, int minute, int caller, int need, int topic, int length) {
            if (size >= MOST || size - nightStart >= MOST_A_NIGHT) {
                return NONE;
            }
            nights[size] = night;
            minutes[size] = minute;
            callers[size] = caller;
            needs[size] = need;
            topics[size] = topic;
            lengths[size] = length;
            states[size] = OPEN;
            takers[size] = NONE;
            sinces[size] = NONE;
            size++;
            return size - 1;
        }

        boolean isCall(int call) {
            return call >= 0 && call < size;
        }

        int nightOf(int call) {
            return isCall(call) ? nights[call] : NONE;
        }

        int minuteOf(int call) {
            return isCall(call) ? minutes[call] : NONE;
        }

        int callerOf(int call) {
            return isCall(call) ? callers[call] : NONE;
        }

        int needOf(int call) {
            return isCall(call) ? needs[call] : NONE;
        }

        int topicOf(int call) {
            return isCall(call) ? topics[call] : NONE;
        }

        int lengthOf(int call) {
            return isCall(call) ? lengths[call] : 0;
        }

        int stateOf(int call) {
            return isCall(call) ? states[call] : NONE;
        }

        int takerOf(int call) {
            return isCall(call) ? takers[call] : NONE;
        }

        int sinceOf(int call) {
            return isCall(call) ? sinces[call] : NONE;
        }

        int endOf(int call) {
            return isCall(call) && states[call] == TAKEN ? sinces[call] + lengths[call] : NONE;
        }

        boolean isWaiting(int call, int minute) {
            return isCall(call) && states[call] == OPEN && minutes[call] <= minute;
        }

        void give(int call, int v, int minute) {
            if (isCall(call)) {
                states[call] = TAKEN;
                takers[call] = v;
                sinces[call] = minute;
            }
        }

        void drop(int call, int minute) {
            if (isCall(call)) {
                states[call] = DROPPED;
                sinces[call] = minute;
            }
        }

        void leave(int call) {
            if (isCall(call)) {
                states[call] = LEFT;
            }
        }

        int countState(int state) {
            int counted = 0;
            for (int call = 0; call < size; call++) {
                if (states[call] == state) {
                    counted++;
                }
            }
            return counted;
        }

        int minutesOf(int v, int night) {
            int sum = 0;
            for (int call = 0; call < size; call++) {
                if (nights[call] == night && takers[call] == v) {
                    sum += lengths[call];
                }
            }
            return sum;
        }

        boolean hasHardCall(int v, int fromNight, int aheadOfNight) {
            for (int call = 0; call < size; call++) {
                boolean isInTime = nights[call] >= fromNight && nights[call] < aheadOfNight;
                if (isInTime && takers[call] == v && needs[call] >= HARD_NEED) {
                    return true;
                }
            }
            return false;
        }
    }

    /** Goes through a night, minute by minute. */
    private static final class NightRun {
        private final Team team;
        private final Calendar calendar;
        private final CallBook book;
        private final int[] current;
        private final int[] restUntil;
        private final int[] talkedMinutes;
        private final int[] known;
        private final int[] firsts;
        private final int[] inLine;
        private final int[] facts;
        private Rules rules;
        private int night;
        private int taken;

        NightRun(Team team, Calendar calendar, CallBook book, Rules rules) {
            this.team = team;
            this.calendar = calendar;
            this.book = book;
            this.rules = rules;
            current = new int[Team.MOST];
            restUntil = new int[Team.MOST];
            talkedMinutes = new int[Team.MOST];
            known = new int[CALLERS];
            firsts = new int[CallBook.MOST_A_NIGHT];
            inLine = new int[CallBook.MOST_A_NIGHT];
            facts = new int[Rules.FACTS];
            night = 0;
            taken = 0;
        }

        int goThrough(int nightNow, Rules rulesNow) {
            begin(nightNow, rulesNow);
            for (int minute = 0; minute < MINUTES; minute++) {
                endCalls(minute);
                dropCalls(minute);
                if (isAnyFree(minute)) {
                    giveCalls(minute, lineUp(minute));
                }
            }
            leaveCalls();
            return taken;
        }

        private void begin(int nightNow, Rules rulesNow) {
            night = nightNow;
            rules = rulesNow;
            taken = 0;
            for (int v = 0; v < Team.MOST; v++) {
                current[v] = NONE;
                restUntil[v] = 0;
                talkedMinutes[v] = 0;
            }
            for (int caller = 0; caller < CALLERS; caller++) {
                known[caller] = 0;
            }
            for (int call = 0; call < book.nightStart(); call++) {
                int caller = book.callerOf(call);
                if (book.stateOf(call) == CallBook.TAKEN && isCaller(caller)) {
                    known[caller]++;
                }
            }
        }

        private void endCalls(int minute) {
            for (int v = 0; v < Team.MOST; v++) {
                int call = current[v];
                if (call != NONE && book.endOf(call) == minute) {
                    current[v] = NONE;
                    talkedMinutes[v] += book.lengthOf(call);
                    setFacts(call, book.sinceOf(call), minute, talkedMinutes[v]);
                    int rule = rules.firstHolding(TokenScanner.REST, facts);
                    restUntil[v] = minute + rules.numberOf(rule);
                }
            }
        }

        private void dropCalls(int minute) {
            for (int call = book.nightStart(); call < book.size(); call++) {
                if (book.isWaiting(call, minute)) {
                    setFacts(call, minute, minute, 0);
                    if (rules.firstHolding(TokenScanner.DROP, facts) != NONE) {
                        book.drop(call, minute);
                    }
                }
            }
        }

        /** Lines up the calls that wait, the one with the greatest FIRST ahead; how many there are. */
        private int lineUp(int minute) {
            int waiting = 0;
            for (int call = book.nightStart(); call < book.size(); call++) {
                if (book.isWaiting(call, minute)) {
                    setFacts(call, minute, minute, 0);
                    int rule = rules.firstHolding(TokenScanner.FIRST, facts);
                    putInLine(call, rule == NONE ? book.needOf(call) : rules.termOf(rule, facts), waiting);
                    waiting++;
                }
            }
            return waiting;
        }

        /** Calls come by their numbers, so that one goes behind those of the same FIRST. */
        private void putInLine(int call, int first, int waiting) {
            if (waiting < 0 || waiting >= CallBook.MOST_A_NIGHT) {
                return;
            }
            int at = waiting;
            for (int i = waiting - 1; i >= 0 && firsts[i] < first; i--) {
                firsts[i + 1] = firsts[i];
                inLine[i + 1] = inLine[i];
                at = i;
            }
            firsts[at] = first;
            inLine[at] = call;
        }

        private void giveCalls(int minute, int waiting) {
            for (int i = 0; i < waiting && i < CallBook.MOST_A_NIGHT; i++) {
                int v = volunteerFor(inLine[i], minute);
                if (v != NONE) {
                    book.give(inLine[i], v, minute);
                    current[v] = inLine[i];
                    taken++;
                }
            }
        }

        private boolean isAnyFree(int minute) {
            for (int v = 0; v < team.size(); v++) {
                if (isFree(v, minute)) {
                    return true;
                }
            }
            return false;
        }

        private int volunteerFor(int call, int minute) {
            int found = NONE;
            for (int v = 0; v < team.size() && v < Team.MOST; v++) {
                boolean isBetter = found == NONE || talkedMinutes[v] < talkedMinutes[found];
                if (isBetter && isFree(v, minute) && !team.isBarred(book.callerOf(call), v, night)
                        && isTrained(v, call, minute)) {
                    found = v;
                }
            }
            return found;
        }

        private boolean isFree(int v, int minute) {
            if (v < 0 || v >= Team.MOST || current[v] != NONE || minute < restUntil[v]) {
                return false;
            }
            return (calendar.hoursOf(v, night) >> (minute / HOUR_MINUTES) & 1) != 0;
        }

        private boolean isTrained(int v, int call, int minute) {
            if (v < 0 || v >= Team.MOST) {
                return false;
            }
            setFacts(call, minute, minute, talkedMinutes[v]);
            for (int rule = 0; rule < rules.size(); rule++) {
                if (rules.kindOf(rule) == TokenScanner.STEP && !team.hasStep(v, rules.numberOf(rule), night)
                        && rules.holds(rule, facts)) {
                    return false;
                }
            }
            return true;
        }

        private void leaveCalls() {
            for (int call = book.nightStart(); call < book.size(); call++) {
                if (book.stateOf(call) == CallBook.OPEN) {
                    book.leave(call);
                }
            }
        }

        private void setFacts(int call, int waitedTill, int minute, int talkedSoFar) {
            int caller = book.callerOf(call);
            facts[Rules.NEED] = book.needOf(call);
            facts[Rules.TOPIC] = book.topicOf(call);
            facts[Rules.WAITED] = waitedTill - book.minuteOf(call);
            facts[Rules.HOUR] = minute / HOUR_MINUTES;
            facts[Rules.KNOWN] = isCaller(caller) ? known[caller] : 0;
            facts[Rules.TALKED] = talkedSoFar;
        }
    }

    /** Notes to calls that were taken. */
    private static final class NoteBook {
        private static final int MOST = 60;

        private final int[] calls;
        private final int[] ranks;
        private final int[] nights;
        private int size;

        NoteBook() {
            calls = new int[MOST];
            ranks = new int[MOST];
            nights = new int[MOST];
            size = 0;
        }

        int size() {
            return size;
        }

        boolean isNote(int i) {
            return i >= 0 && i < size;
        }

        int add(int call, int rank, int night) {
            if (size >= MOST) {
                return NONE;
            }
            calls[size] = call;
            ranks[size] = rank;
            nights[size] = night;
            size++;
            return size - 1;
        }

        int callOf(int i) {
            return isNote(i) ? calls[i] : NONE;
        }

        int rankOf(int i) {
            return isNote(i) ? ranks[i] : NONE;
        }

        int nightOf(int i) {
            return isNote(i) ? nights[i] : NONE;
        }
    }
}
