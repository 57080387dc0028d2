/**
 * A macro processor of the kind that typesetters have. A text is typed in, run, and leaves bytes in OUT;
 * README.md says how it is used.
 */
public final class MacroPress {
    private static final int MAX_TEXT = 4000;
    private static final int MAX_OUT = 8000;
    private static final int MAX_TICKS = 30000;
    private static final int MAX_PENDING = 10000;
    private static final int MAX_ARGUMENT = 10000;
    private static final int MAX_STORED = 10000;
    private static final int MAX_NAME = 40;
    private static final int MAX_NAMES = 1000;
    private static final int MAX_DEPTH = 40;
    private static final int MAX_OPEN = 100;
    private static final int MAX_NUMBER = 2147483647;

    /** Far above the tokens that 30000 expansions of 10000 tokens each can bring. */
    private static final int FAR = 1000000000;

    private static final int FAULT_CHARACTER = 1;
    private static final int FAULT_LIMIT = 2;
    private static final int FAULT_DEPTH = 3;
    private static final int FAULT_DELIMITER = 4;
    private static final int FAULT_BRACE = 5;
    private static final int FAULT_KIND = 6;
    private static final int FAULT_RANGE = 7;
    private static final int FAULT_CONDITION = 8;
    private static final int FAULT_END = 9;
    private static final int FAULT_TICKS = 10;
    private static final int FAULT_MEANING = 11;
    private static final int FAULT_PARAMETER = 12;
    private static final int FAULT_GROUP = 13;

    private static final int ESCAPE = 0;
    private static final int OPENING = 1;
    private static final int CLOSING = 2;
    private static final int LINE_END = 5;
    private static final int PARAMETER = 6;
    private static final int IGNORED = 9;
    private static final int BLANK = 10;
    private static final int LETTER = 11;
    private static final int OTHER = 12;
    private static final int ACTIVE = 13;
    private static final int COMMENT = 14;
    private static final int INVALID = 15;

    /** The primitives' names by code, from 1; a primitive's name has the number one below its code. */
    private static final String PRIMITIVES = "expandafter noexpand csname string number romannumeral the if ifcat ifx ifnum ifodd iftrue iffalse ifcase else or fi relax par begingroup endgroup endcsname end def edef gdef xdef let chardef count catcode advance multiply divide global ";
    private static final int NO_CODE = 0;
    private static final int EXPANDAFTER = 1;
    private static final int NOEXPAND = 2;
    private static final int CSNAME = 3;
    private static final int STRING = 4;
    private static final int NUMBER = 5;
    private static final int ROMANNUMERAL = 6;
    private static final int THE = 7;
    private static final int IF = 8;
    private static final int IFCAT = 9;
    private static final int IFX = 10;
    private static final int IFNUM = 11;
    private static final int IFODD = 12;
    private static final int IFTRUE = 13;
    private static final int IFFALSE = 14;
    private static final int IFCASE = 15;
    private static final int ELSE = 16;
    private static final int OR = 17;
    private static final int FI = 18;
    private static final int RELAX = 19;
    private static final int PAR = 20;
    private static final int BEGINGROUP = 21;
    private static final int ENDGROUP = 22;
    private static final int ENDCSNAME = 23;
    private static final int END = 24;
    private static final int DEF = 25;
    private static final int EDEF = 26;
    private static final int GDEF = 27;
    private static final int XDEF = 28;
    private static final int LET = 29;
    private static final int CHARDEF = 30;
    private static final int COUNT = 31;
    private static final int CATCODE = 32;
    private static final int ADVANCE = 33;
    private static final int MULTIPLY = 34;
    private static final int DIVIDE = 35;
    private static final int GLOBAL = 36;
    private static final int PRIMITIVE_COUNT = 36;

    private static final int MEANS_NOTHING = 0;
    private static final int MEANS_PRIMITIVE = 1;
    private static final int MEANS_MACRO = 2;
    private static final int MEANS_CHARACTER = 3;
    private static final int MEANS_NUMBER = 4;

    private static final int COUNTERS = 0;
    private static final int CATEGORIES = 256;
    private static final int ACTIVES = 512;
    private static final int NAMES = 768;
    private static final int SLOTS = NAMES + PRIMITIVE_COUNT + MAX_NAMES;

    private final Progress progress;
    private final Names names;
    private final Store store;
    private final Source source;
    private final Macros macros;
    private final Conditions conditions;
    private final Expander expander;
    private final Performer performer;

    public MacroPress() {
        progress = new Progress();
        names = new Names();
        store = new Store(progress);
        source = new Source(names, store, progress);
        macros = new Macros(progress);
        conditions = new Conditions(source, store, progress);
        expander = new Expander(source, names, store, macros, conditions, progress);
        performer = new Performer(expander, source, store, macros, progress);
    }

    public boolean type(long w, int n) {
        if (n < 1 || n > 8 || n > MAX_TEXT - source.textLength) {
            return false;
        }
        for (int i = 0; i < n; i++) {
            source.append((int) (w >>> (8 * i)) & 255);
        }
        return true;
    }

    public int run(int ticks) throws IllegalArgumentException {
        refuseTicks(ticks);
        beginRun(ticks);
        int fault = 0;
        try {
            for (int i = 0; i <= MAX_TICKS; i++) {
                int token = expander.expanded(true);
                if (token == Token.END_OF_TEXT) {
                    break;
                }
                progress.tick();
                int code = performer.perform(token);
                if (code == END) {
                    break;
                }
                if (code != NO_CODE) {
                    performer.assign(code);
                }
            }
            if (store.groups > 0 || conditions.open > 0) {
                progress.fail(FAULT_END);
            }
        } catch (IllegalStateException e) {
            fault = progress.fault;
        }
        store.closeAll();
        source.textLength = 0;
        return fault == 0 ? 0 : 10000 * fault + source.line;
    }

    public int ticks() {
        return progress.ticks;
    }

    public int size() {
        return performer.outLength;
    }

    public int out(int i) throws IndexOutOfBoundsException {
        if (i < 0 || i >= performer.outLength) {
            throw new IndexOutOfBoundsException("no such byte");
        }
        return performer.out[i];
    }

    public int count(int k) throws IndexOutOfBoundsException {
        if (k < 0 || k > 255) {
            throw new IndexOutOfBoundsException("no such counter");
        }
        return store.value[COUNTERS + k];
    }

    /** Apart from run, since a method with a try may hold no throw. */
    private static void refuseTicks(int ticks) {
        if (ticks < 0 || ticks > MAX_TICKS) {
            throw new IllegalArgumentException("ticks are 0 .. 30000");
        }
    }

    private void beginRun(int ticks) {
        progress.begin(ticks);
        names.begin();
        store.begin();
        source.begin();
        macros.begin();
        conditions.open = 0;
        expander.madeLength = 0;
        performer.outLength = 0;
    }

    /**
     * A token is one int: a character with its category or an active character (category 13) is
     * 256 times the category and the character; a name is NAME and its number; a mark is a bit more.
     * In macros alone there are places of parameters: PLACE and 1 .. 9.
     */
    private static final class Token {
        static final int END_OF_TEXT = -1;
        static final int NAME = 0x10000;
        static final int MARK = 0x100000;
        static final int PLACE = 0x200000;
        static final int SPACE = 256 * BLANK + ' ';
        static final int PLUS = 256 * OTHER + '+';
        static final int MINUS = 256 * OTHER + '-';
        static final int EQUALS = 256 * OTHER + '=';
        static final int LESS = 256 * OTHER + '<';
        static final int MORE = 256 * OTHER + '>';
        static final int QUOTE = 256 * OTHER + '`';
        static final int PARAGRAPH = NAME + PAR - 1;
        static final int MARKED_RELAX = MARK + NAME + RELAX - 1;

        static int plain(int token) {
            return token & ~MARK;
        }

        static boolean isMarked(int token) {
            return (token & MARK) != 0;
        }

        static boolean isPlace(int token) {
            return (token & PLACE) != 0;
        }

        static boolean isName(int token) {
            return token >= 0 && (token & NAME) != 0;
        }

        static boolean isActive(int token) {
            return (token & ~MARK) >> 8 == ACTIVE;
        }

        static boolean isCharacter(int token) {
            return token >= 0 && token < 256 * ACTIVE;
        }

        /** The category of a character token; 16, which is none, for all others. */
        static int category(int token) {
            return token >= 0 && token < 256 * ACTIVE ? token >> 8 : 16;
        }

        static boolean isSpace(int token) {
            return category(token) == BLANK;
        }

        /** The digit that a token is, or -1. */
        static int digit(int token) {
            int c = token - 256 * OTHER;
            return c >= '0' && c <= '9' ? c - '0' : -1;
        }

        /** Where the meaning of a name or an active character stands in the store. */
        static int slot(int token) {
            return (token & NAME) != 0 ? NAMES + (token & 0xffff) : ACTIVES + (token & 255);
        }
    }

    /** How far a run is: its ticks, what it is within, and the fault that ends it. */
    private static final class Progress {
        int fault;
        int ticks;
        int allowed;
        int depth;

        void begin(int ticksAllowed) {
            fault = 0;
            ticks = 0;
            allowed = ticksAllowed;
            depth = 0;
        }

        void tick() {
            ticks++;
            if (ticks > allowed) {
                fail(FAULT_TICKS);
            }
        }

        /** Begins an expansion or a number: the limit also keeps the Java calls from going deeper. */
        void enter() {
            if (depth >= MAX_DEPTH) {
                fail(FAULT_DEPTH);
            }
            depth++;
        }

        void leave() {
            depth--;
        }

        /** Never returns; its type lets it stand where a value is due. */
        int fail(int number) {
            fault = number;
            throw new IllegalStateException("a fault ends the run");
        }
    }

    /** All names that a run has met, each with a number; the primitives' come first and stay. */
    private static final class Names {
        private static final int BUCKETS = 256;

        final char[] letters = new char[MAX_NAMES * MAX_NAME + PRIMITIVES.length()];
        /** Where each name's letters begin; the next name's beginning is their end. */
        final int[] start = new int[PRIMITIVE_COUNT + MAX_NAMES + 1];
        private final int[] first = new int[BUCKETS];
        private final int[] firstAtBegin;
        private final int[] next = new int[PRIMITIVE_COUNT + MAX_NAMES];
        private int known;

        Names() {
            for (int i = 0; i < BUCKETS; i++) {
                first[i] = -1;
            }
            int[] row = new int[MAX_NAME];
            int length = 0;
            for (int i = 0; i < PRIMITIVES.length(); i++) {
                char c = PRIMITIVES.charAt(i);
                if (c == ' ') {
                    find(row, 0, length);
                    length = 0;
                } else if (length < MAX_NAME) {
                    row[length] = c;
                    length++;
                }
            }
            firstAtBegin = first.clone();
        }

        void begin() {
            System.arraycopy(firstAtBegin, 0, first, 0, BUCKETS);
            known = PRIMITIVE_COUNT;
        }

        int lengthOf(int id) {
            return start[id + 1] - start[id];
        }

        /** The number of the name that row has from there on; -1 if it would be one name too many. */
        int find(int[] row, int from, int length) {
            int hash = length;
            for (int i = 0; i < length; i++) {
                hash = 31 * hash + row[from + i];
            }
            int bucket = hash & (BUCKETS - 1);
            int id = first[bucket];
            for (int i = 0; i < known && id >= 0; i++) {
                int same = start[id + 1] - start[id] == length ? 0 : -1;
                while (same >= 0 && same < length) {
                    same = letters[start[id] + same] == row[from + same] ? same + 1 : -1;
                }
                if (same == length) {
                    return id;
                }
                id = next[id];
            }
            if (known >= PRIMITIVE_COUNT + MAX_NAMES) {
                return -1;
            }
            int begin = start[known];
            for (int i = 0; i < length; i++) {
                letters[begin + i] = (char) row[from + i];
            }
            start[known + 1] = begin + length;
            next[known] = first[bucket];
            first[bucket] = known;
            known++;
            return known - 1;
        }
    }

    /**
     * All that groups bring back: counters, categories and meanings, each in a slot. A slot's level is
     * the group in which its value was set, 0 when it holds outside of all groups.
     */
    private static final class Store {
        /** Each tick sets one slot at most. */
        private static final int MAX_SAVED = MAX_TICKS + 1;

        final int[] value = new int[SLOTS];
        private final int[] valueAtBegin = new int[SLOTS];
        private final int[] level = new int[SLOTS];
        private final int[] savedSlot = new int[MAX_SAVED];
        private final int[] savedValue = new int[MAX_SAVED];
        private int saved;
        private final int[] groupKind = new int[MAX_OPEN];
        private final int[] groupStart = new int[MAX_OPEN];
        int groups;
        private final Progress progress;

        Store(Progress progress) {
            this.progress = progress;
            for (int c = 0; c < 256; c++) {
                valueAtBegin[CATEGORIES + c] = firstCategory(c);
            }
            for (int id = 0; id < PRIMITIVE_COUNT; id++) {
                valueAtBegin[NAMES + id] = meaningOf(MEANS_PRIMITIVE, id + 1);
            }
        }

        /** Levels and groups need no care here: the end of the run before has closed all groups. */
        void begin() {
            System.arraycopy(valueAtBegin, 0, value, 0, SLOTS);
        }

        private static int firstCategory(int c) {
            if (c >= 'a' && c <= 'z' || c >= 'A' && c <= 'Z') {
                return LETTER;
            }
            switch (c) {
                case '\\': return ESCAPE;
                case '{': return OPENING;
                case '}': return CLOSING;
                case '$': return 3;
                case '&': return 4;
                case 13: return LINE_END;
                case '#': return PARAMETER;
                case '^': return 7;
                case '_': return 8;
                case 0: return IGNORED;
                case ' ':
                case 9: return BLANK;
                case '~': return ACTIVE;
                case '%': return COMMENT;
                case 127: return INVALID;
                default: return OTHER;
            }
        }

        static int meaningOf(int kind, int data) {
            return (kind << 16) + data;
        }

        static int kindOf(int meaning) {
            return meaning >> 16;
        }

        static int dataOf(int meaning) {
            return meaning & 0xffff;
        }

        static boolean isExpandable(int meaning) {
            int kind = kindOf(meaning);
            return kind == MEANS_MACRO || kind == MEANS_PRIMITIVE && dataOf(meaning) <= FI;
        }

        int meaning(int token) {
            if (Token.isMarked(token)) {
                return meaningOf(MEANS_PRIMITIVE, RELAX);
            }
            return Token.isCharacter(token) ? meaningOf(MEANS_CHARACTER, token) : value[Token.slot(token)];
        }

        /** The code of the primitive that a token means, NO_CODE if it means none. */
        int primitive(int token) {
            int meaning = meaning(token);
            return kindOf(meaning) == MEANS_PRIMITIVE ? dataOf(meaning) : NO_CODE;
        }

        void set(int slot, int newValue, boolean global) {
            if (global) {
                level[slot] = 0;
            } else if (level[slot] != groups) {
                if (saved >= MAX_SAVED) {
                    progress.fail(FAULT_LIMIT);
                }
                savedSlot[saved] = SLOTS * level[slot] + slot;
                savedValue[saved] = value[slot];
                saved++;
                level[slot] = groups;
            }
            value[slot] = newValue;
        }

        void openGroup(int kind) {
            if (groups >= MAX_OPEN) {
                progress.fail(FAULT_LIMIT);
            }
            groupKind[groups] = kind;
            groupStart[groups] = saved;
            groups++;
        }

        void closeGroup(int kind) {
            if (groups == 0 || groupKind[groups - 1] != kind) {
                progress.fail(FAULT_GROUP);
            }
            bringBack();
        }

        void closeAll() {
            for (int i = 0; i < MAX_OPEN && groups > 0; i++) {
                bringBack();
            }
        }

        /** What is at level 0 by now was set globally, and stays. */
        private void bringBack() {
            groups--;
            int begin = groupStart[groups];
            for (int i = saved - 1; i >= begin; i--) {
                int slot = savedSlot[i] % SLOTS;
                if (level[slot] != 0) {
                    value[slot] = savedValue[i];
                    level[slot] = savedSlot[i] / SLOTS;
                }
            }
            saved = begin;
        }
    }

    /** Where tokens come from: the pending ones, and behind them the text. */
    private static final class Source {
        private static final int NEW = 0;
        private static final int MIDDLE = 1;
        private static final int SKIPPING = 2;
        private static final int RETURN = 13;
        /** A name is put as up to 41 tokens before the limit of pending tokens is looked at. */
        private static final int ROOM = MAX_PENDING + 100;

        /** One more than the text may have, for the line end behind its last line. */
        private final int[] text = new int[MAX_TEXT + 1];
        int textLength;
        private int nextLine;
        private int at;
        private int lineEnd;
        private int state;
        int line;
        private final int[] pending = new int[ROOM];
        int waiting;
        private final int[] name = new int[MAX_NAME + 1];
        private final Names names;
        private final Store store;
        private final Progress progress;

        Source(Names names, Store store, Progress progress) {
            this.names = names;
            this.store = store;
            this.progress = progress;
        }

        void append(int b) {
            if (textLength < MAX_TEXT) {
                text[textLength] = b;
                textLength++;
            }
        }

        void begin() {
            nextLine = 0;
            line = 0;
            waiting = 0;
            lineEnd = 0;
            dropLine();
        }

        void put(int token) {
            if (waiting >= ROOM) {
                progress.fail(FAULT_LIMIT);
            }
            pending[waiting] = token;
            waiting++;
        }

        /** The next token; at the end of the text END_OF_TEXT, or fault 9 if that may not be. */
        int get(boolean mayEnd) {
            if (waiting > 0) {
                waiting--;
                return pending[waiting];
            }
            for (int i = 0; i <= 2 * MAX_TEXT && (at <= lineEnd || beginLine()); i++) {
                int c = text[at];
                int category = store.value[CATEGORIES + c];
                at++;
                if (category == ESCAPE) {
                    int length = scanName();
                    int id = length > MAX_NAME ? -1 : names.find(name, 0, length);
                    return id < 0 ? progress.fail(FAULT_LIMIT) : Token.NAME + id;
                }
                if (category == INVALID) {
                    return progress.fail(FAULT_CHARACTER);
                }
                if (category == LINE_END || category == COMMENT) {
                    dropLine();
                }
                if (category == LINE_END && state == NEW) {
                    return Token.PARAGRAPH;
                }
                if (category == BLANK || category == LINE_END) {
                    if (state == MIDDLE) {
                        state = SKIPPING;
                        return Token.SPACE;
                    }
                } else if (category != IGNORED && category != COMMENT) {
                    state = MIDDLE;
                    return 256 * category + c;
                }
            }
            return mayEnd ? Token.END_OF_TEXT : progress.fail(FAULT_END);
        }

        private void dropLine() {
            at = lineEnd + 1;
        }

        /** The line end takes the place of what parted the lines, as no line is read twice. */
        private boolean beginLine() {
            if (nextLine >= textLength) {
                return false;
            }
            int end = nextLine;
            while (end < textLength && text[end] != 10) {
                end++;
            }
            at = nextLine;
            nextLine = end + 1;
            while (end > at && text[end - 1] == ' ') {
                end--;
            }
            text[end] = RETURN;
            lineEnd = end;
            state = NEW;
            line++;
            return true;
        }

        /** Reads a name's characters behind its escape character; how many there are, at most 41. */
        private int scanName() {
            int length = 0;
            state = MIDDLE;
            while (at <= lineEnd && store.value[CATEGORIES + text[at]] == LETTER) {
                if (length <= MAX_NAME) {
                    name[length] = text[at];
                    length++;
                }
                state = SKIPPING;
                at++;
            }
            if (length == 0 && at <= lineEnd) {
                name[0] = text[at];
                length = 1;
                state = store.value[CATEGORIES + text[at]] == BLANK ? SKIPPING : MIDDLE;
                at++;
            }
            return length;
        }
    }

    /**
     * The macros of a run, each a row in one pool: its delimiters with its parameters among them as
     * places, then its body. Macro 0 is the empty one, so that no other can be without tokens.
     */
    private static final class Macros {
        final int[] pool = new int[MAX_STORED];
        private final int[] start = new int[MAX_STORED + 2];
        private final int[] body = new int[MAX_STORED + 2];
        private int used;
        private int made;
        private final Progress progress;

        Macros(Progress progress) {
            this.progress = progress;
        }

        void begin() {
            used = 0;
            made = 1;
        }

        int startOf(int id) {
            return start[id];
        }

        int bodyOf(int id) {
            return body[id];
        }

        int endOf(int id) {
            return start[id + 1];
        }

        void add(int token) {
            if (used >= MAX_STORED) {
                progress.fail(FAULT_LIMIT);
            }
            pool[used] = token;
            used++;
        }

        /** What is added from now on is the body of the next macro. */
        void beginBody() {
            body[made] = used;
        }

        /** Makes a macro of what was added since the latest one was made. */
        int make() {
            if (used == start[made]) {
                return 0;
            }
            start[made + 1] = used;
            made++;
            return made - 1;
        }

        boolean isSame(int a, int b) {
            int length = endOf(a) - start[a];
            if (length != endOf(b) - start[b] || body[a] - start[a] != body[b] - start[b]) {
                return false;
            }
            for (int i = 0; i < length; i++) {
                if (pool[start[a] + i] != pool[start[b] + i]) {
                    return false;
                }
            }
            return true;
        }
    }

    /** Gets the arguments of a macro, and puts its body with them. */
    private static final class Arguments {
        /** No tokens come but the pending ones and one for each byte and line end of the text. */
        private static final int ROOM = MAX_PENDING + 100 + MAX_TEXT + 1;

        private final int[] tokens = new int[ROOM];
        /** A place's lowest four bits are its parameter: 1 .. 9 of 0 .. 15. */
        private final int[] from = new int[16];
        private final int[] to = new int[16];
        private int filled;
        private final Source source;
        private final Macros macros;
        private final Progress progress;

        Arguments(Source source, Macros macros, Progress progress) {
            this.source = source;
            this.macros = macros;
            this.progress = progress;
        }

        void collect(int macro) {
            filled = 0;
            int bodyStart = macros.bodyOf(macro);
            int i = macros.startOf(macro);
            for (; i < bodyStart && !Token.isPlace(macros.pool[i]); i++) {
                if (Token.plain(source.get(false)) != macros.pool[i]) {
                    progress.fail(FAULT_DELIMITER);
                }
            }
            while (i < bodyStart) {
                int parameter = macros.pool[i] & 15;
                int first = i + 1;
                i = first;
                while (i < bodyStart && !Token.isPlace(macros.pool[i])) {
                    i++;
                }
                if (first == i) {
                    collectUndelimited(parameter);
                } else {
                    collectDelimited(parameter, first, i);
                }
            }
        }

        private void collectUndelimited(int parameter) {
            int token = source.get(false);
            for (int i = 0; i < FAR && Token.isSpace(token); i++) {
                token = source.get(false);
            }
            from[parameter] = filled;
            int category = Token.category(token);
            if (category == CLOSING) {
                progress.fail(FAULT_BRACE);
            }
            int depth = category == OPENING ? 1 : 0;
            if (depth == 0) {
                add(token);
            }
            for (int got = 2; depth > 0 && got < FAR; got++) {
                token = source.get(false);
                category = Token.category(token);
                if (got > MAX_ARGUMENT) {
                    progress.fail(FAULT_LIMIT);
                }
                depth += category == OPENING ? 1 : category == CLOSING ? -1 : 0;
                if (depth > 0) {
                    add(token);
                }
            }
            to[parameter] = filled;
        }

        /** The delimiters are those of the pool from first to before last. */
        private void collectDelimited(int parameter, int first, int last) {
            int begin = filled;
            int depth = 0;
            int closed = -1;
            boolean found = false;
            for (int got = 1; !found && got < FAR; got++) {
                int token = source.get(false);
                int category = Token.category(token);
                if (got > MAX_ARGUMENT) {
                    progress.fail(FAULT_LIMIT);
                }
                add(token);
                depth += category == OPENING ? 1 : category == CLOSING ? -1 : 0;
                if (depth < 0) {
                    progress.fail(FAULT_BRACE);
                }
                if (depth == 0 && category == CLOSING && closed < 0) {
                    closed = filled;
                }
                found = depth == 0 && endsWith(begin, first, last);
            }
            int end = filled - (last - first);
            boolean isBraced = closed == end && Token.category(tokens[begin]) == OPENING;
            from[parameter] = isBraced ? begin + 1 : begin;
            to[parameter] = isBraced ? end - 1 : end;
        }

        /** Whether the last tokens since begin are the delimiters. No brace is one, so none is within braces. */
        private boolean endsWith(int begin, int first, int last) {
            int at = filled - (last - first);
            if (at < begin) {
                return false;
            }
            for (int i = last - first - 1; i >= 0; i--) {
                if (Token.plain(tokens[at + i]) != macros.pool[first + i]) {
                    return false;
                }
            }
            return true;
        }

        private void add(int token) {
            if (filled >= ROOM) {
                progress.fail(FAULT_LIMIT);
            }
            tokens[filled] = token;
            filled++;
        }

        void putBody(int macro) {
            int begin = macros.bodyOf(macro);
            int end = macros.endOf(macro);
            int length = 0;
            for (int i = begin; i < end; i++) {
                int token = macros.pool[i];
                length += Token.isPlace(token) ? to[token & 15] - from[token & 15] : 1;
            }
            if (source.waiting + length > MAX_PENDING) {
                progress.fail(FAULT_LIMIT);
            }
            for (int i = end - 1; i >= begin; i--) {
                int token = macros.pool[i];
                if (Token.isPlace(token)) {
                    putArgument(token & 15);
                } else {
                    source.put(token);
                }
            }
        }

        private void putArgument(int parameter) {
            for (int i = to[parameter] - 1; i >= from[parameter]; i--) {
                source.put(tokens[i]);
            }
        }
    }

    /** The open conditions, and the dropping of what they leave out. */
    private static final class Conditions {
        private static final int UNDECIDED = 0;
        private static final int DECIDED = 1;
        private static final int BEHIND_ELSE = 2;

        private final int[] state = new int[MAX_OPEN];
        private final boolean[] hasCases = new boolean[MAX_OPEN];
        int open;
        private final Source source;
        private final Store store;
        private final Progress progress;

        Conditions(Source source, Store store, Progress progress) {
            this.source = source;
            this.store = store;
            this.progress = progress;
        }

        /** Opens a condition that is not decided yet, and answers where it stands. */
        int begin(boolean isCase) {
            if (open >= MAX_OPEN) {
                progress.fail(FAULT_LIMIT);
            }
            state[open] = UNDECIDED;
            hasCases[open] = isCase;
            open++;
            return open - 1;
        }

        /** With ors = 0 the tokens that follow go their way, otherwise they do so behind that or, or else. */
        void decide(int condition, int ors) {
            state[condition] = DECIDED;
            int left = ors;
            int within = open - 1 - condition;
            for (int i = 0; i < FAR && left != 0; i++) {
                int code = store.primitive(source.get(false));
                if (code >= IF && code <= IFCASE) {
                    within++;
                } else if (within > 0) {
                    within -= code == FI ? 1 : 0;
                } else if (code == FI) {
                    open = condition;
                    return;
                } else if (code == ELSE) {
                    state[condition] = BEHIND_ELSE;
                    left = 0;
                } else if (code == OR) {
                    if (!hasCases[condition]) {
                        progress.fail(FAULT_CONDITION);
                    }
                    left -= left > 0 ? 1 : 0;
                }
            }
            open = ors == 0 ? open : condition + 1;
        }

        /** An else, or or fi that is expanded. */
        void meet(int code, int token) {
            if (open == 0) {
                progress.fail(FAULT_CONDITION);
            }
            int innermost = open - 1;
            if (state[innermost] == UNDECIDED) {
                source.put(token);
                source.put(Token.MARKED_RELAX);
                return;
            }
            boolean isLate = code != FI && state[innermost] == BEHIND_ELSE;
            if (isLate || code == OR && !hasCases[innermost]) {
                progress.fail(FAULT_CONDITION);
            }
            int within = code == FI ? 0 : 1;
            for (int i = 0; i < FAR && within > 0; i++) {
                int dropped = store.primitive(source.get(false));
                if (dropped >= IF && dropped <= IFCASE) {
                    within++;
                } else if (dropped == FI) {
                    within--;
                }
            }
            open = innermost;
        }
    }

    /** Expansion and numbers, which call one another: at most 40 deep, by Progress.enter. */
    private static final class Expander {
        private static final int NO_CHARACTER = 256;
        private static final int NO_CATEGORY = 16;
        private static final String ROMAN_LETTERS = "ivxlcdm";

        /** The characters of the names that csname is making, one within the other. */
        private final int[] made = new int[MAX_DEPTH * MAX_NAME];
        int madeLength;
        private final Source source;
        private final Names names;
        private final Store store;
        private final Macros macros;
        private final Conditions conditions;
        private final Progress progress;
        private final Arguments arguments;

        Expander(Source source, Names names, Store store, Macros macros, Conditions conditions,
                Progress progress) {
            this.source = source;
            this.names = names;
            this.store = store;
            this.macros = macros;
            this.conditions = conditions;
            this.progress = progress;
            arguments = new Arguments(source, macros, progress);
        }

        /** Gets a token expanded; at the end of the text as Source.get. */
        int expanded(boolean mayEnd) {
            int token = source.get(mayEnd);
            for (int i = 0; i <= MAX_TICKS && isExpandable(token); i++) {
                expand(token);
                token = source.get(mayEnd);
            }
            return token;
        }

        /** Gets a token expanded that is no space. */
        int expandedBehindSpaces() {
            int token = expanded(false);
            for (int i = 0; i < FAR && Token.isSpace(token); i++) {
                token = expanded(false);
            }
            return token;
        }

        private boolean isExpandable(int token) {
            return token != Token.END_OF_TEXT && Store.isExpandable(store.meaning(token));
        }

        private void expand(int token) {
            progress.tick();
            progress.enter();
            int meaning = store.meaning(token);
            if (Store.kindOf(meaning) == MEANS_MACRO) {
                arguments.collect(Store.dataOf(meaning));
                arguments.putBody(Store.dataOf(meaning));
            } else {
                expandPrimitive(Store.dataOf(meaning), token);
            }
            progress.leave();
            if (source.waiting > MAX_PENDING) {
                progress.fail(FAULT_LIMIT);
            }
        }

        private void expandPrimitive(int code, int token) {
            switch (code) {
                case EXPANDAFTER:
                    expandAfter();
                    break;
                case NOEXPAND:
                    int next = source.get(false);
                    source.put(isExpandable(next) ? next | Token.MARK : next);
                    break;
                case CSNAME:
                    makeName();
                    break;
                case STRING:
                    putString(source.get(false));
                    break;
                case NUMBER:
                    putNumber(number());
                    break;
                case ROMANNUMERAL:
                    putRoman(number());
                    break;
                case THE:
                    putNumber(valueOf(expanded(false)));
                    break;
                case ELSE:
                case OR:
                case FI:
                    conditions.meet(code, token);
                    break;
                default:
                    int condition = conditions.begin(code == IFCASE);
                    conditions.decide(condition, code == IFCASE ? number() : holds(code) ? 0 : -1);
                    break;
            }
        }

        private void expandAfter() {
            int first = source.get(false);
            int second = source.get(false);
            if (isExpandable(second)) {
                expand(second);
            } else {
                source.put(second);
            }
            source.put(first);
        }

        private void makeName() {
            int begin = madeLength;
            int token = expanded(false);
            for (int i = 0; i <= MAX_NAME && store.primitive(token) != ENDCSNAME; i++) {
                if (!Token.isCharacter(token)) {
                    progress.fail(FAULT_KIND);
                }
                if (i == MAX_NAME || madeLength >= made.length) {
                    progress.fail(FAULT_LIMIT);
                }
                made[madeLength] = token & 255;
                madeLength++;
                token = expanded(false);
            }
            int id = names.find(made, begin, madeLength - begin);
            madeLength = begin;
            if (id < 0) {
                progress.fail(FAULT_LIMIT);
            }
            if (store.value[NAMES + id] == MEANS_NOTHING) {
                store.set(NAMES + id, Store.meaningOf(MEANS_PRIMITIVE, RELAX), false);
            }
            source.put(Token.NAME + id);
        }

        private void putString(int token) {
            if (!Token.isName(token)) {
                putCharacter(token & 255);
                return;
            }
            int id = token & 0xffff;
            for (int i = names.start[id + 1] - 1; i >= names.start[id]; i--) {
                putCharacter(names.letters[i]);
            }
            putCharacter('\\');
        }

        private void putCharacter(int c) {
            source.put(c == ' ' ? Token.SPACE : 256 * OTHER + c);
        }

        /** What is put later stands before: so the last digit is the first to be put. */
        private void putNumber(int n) {
            int left = Math.abs(n);
            for (int i = 0; i < 10 && (i == 0 || left > 0); i++) {
                putCharacter('0' + left % 10);
                left /= 10;
            }
            if (n < 0) {
                putCharacter('-');
            }
        }

        private void putRoman(int n) {
            if (n > 9999) {
                progress.fail(FAULT_RANGE);
            }
            int left = Math.max(n, 0);
            for (int place = 0; place < 3; place++) {
                putRomanDigit(left % 10, 2 * place);
                left /= 10;
            }
            for (int i = 0; i < left; i++) {
                source.put(256 * OTHER + 'm');
            }
        }

        /** The letters for 1, 5 and 10 of the digit's place stand from one on. */
        private void putRomanDigit(int digit, int one) {
            int ones = digit % 5;
            if (ones == 4) {
                source.put(256 * OTHER + ROMAN_LETTERS.charAt(digit == 9 ? one + 2 : one + 1));
                source.put(256 * OTHER + ROMAN_LETTERS.charAt(one));
                return;
            }
            for (int i = 0; i < ones; i++) {
                source.put(256 * OTHER + ROMAN_LETTERS.charAt(one));
            }
            if (digit >= 5) {
                source.put(256 * OTHER + ROMAN_LETTERS.charAt(one + 1));
            }
        }

        private boolean holds(int code) {
            switch (code) {
                case IF:
                    return characterOf(expanded(false)) == characterOf(expanded(false));
                case IFCAT:
                    return categoryOf(expanded(false)) == categoryOf(expanded(false));
                case IFX:
                    return meansSame(source.get(false), source.get(false));
                case IFNUM:
                    int left = number();
                    int relation = expandedBehindSpaces();
                    if (relation != Token.LESS && relation != Token.EQUALS && relation != Token.MORE) {
                        progress.fail(FAULT_KIND);
                    }
                    int right = number();
                    return left < right ? relation == Token.LESS
                            : relation == (left == right ? Token.EQUALS : Token.MORE);
                case IFODD:
                    return (number() & 1) == 1;
                default:
                    return code == IFTRUE;
            }
        }

        private int characterOf(int token) {
            int meaning = store.meaning(token);
            return Store.kindOf(meaning) == MEANS_CHARACTER ? Store.dataOf(meaning) & 255 : NO_CHARACTER;
        }

        private int categoryOf(int token) {
            int meaning = store.meaning(token);
            return Store.kindOf(meaning) == MEANS_CHARACTER ? Store.dataOf(meaning) >> 8 : NO_CATEGORY;
        }

        private boolean meansSame(int a, int b) {
            int first = store.meaning(a);
            int second = store.meaning(b);
            if (Store.kindOf(first) == MEANS_MACRO && Store.kindOf(second) == MEANS_MACRO) {
                return macros.isSame(Store.dataOf(first), Store.dataOf(second));
            }
            return first == second;
        }

        /** Reads a NUMBER. */
        int number() {
            progress.enter();
            boolean isNegative = false;
            int token = expanded(false);
            for (int i = 0; i < FAR && isSpaceOrSign(token); i++) {
                isNegative ^= token == Token.MINUS;
                token = expanded(false);
            }
            int n;
            if (Token.digit(token) >= 0) {
                n = digits(token);
            } else if (token == Token.QUOTE) {
                n = characterNumber(source.get(false));
                dropSpace(expanded(true));
            } else {
                n = valueOf(token);
            }
            progress.leave();
            return isNegative ? -n : n;
        }

        private static boolean isSpaceOrSign(int token) {
            return token == Token.PLUS || token == Token.MINUS || Token.isSpace(token);
        }

        private int digits(int first) {
            int token = first;
            int digit = Token.digit(token);
            long n = 0;
            for (int i = 0; i < FAR && digit >= 0; i++) {
                n = 10 * n + digit;
                if (n > MAX_NUMBER) {
                    progress.fail(FAULT_RANGE);
                }
                token = expanded(true);
                digit = Token.digit(token);
            }
            dropSpace(token);
            return (int) n;
        }

        /** Drops the space behind a number; another token is put. */
        private void dropSpace(int token) {
            if (token != Token.END_OF_TEXT && !Token.isSpace(token)) {
                source.put(token);
            }
        }

        private int characterNumber(int token) {
            if (!Token.isName(token)) {
                return token & 255;
            }
            int id = token & 0xffff;
            return names.lengthOf(id) == 1 ? names.letters[names.start[id]] : progress.fail(FAULT_KIND);
        }

        /** The value of a token that means count, catcode or a number. */
        int valueOf(int token) {
            int meaning = store.meaning(token);
            if (Store.kindOf(meaning) == MEANS_NUMBER) {
                return Store.dataOf(meaning);
            }
            int code = store.primitive(token);
            if (code != COUNT && code != CATCODE) {
                progress.fail(FAULT_KIND);
            }
            return store.value[(code == COUNT ? COUNTERS : CATEGORIES) + numberUpTo(255)];
        }

        /** Reads a NUMBER that is 0 .. most. */
        int numberUpTo(int most) {
            int n = number();
            return n < 0 || n > most ? progress.fail(FAULT_RANGE) : n;
        }
    }

    /** Does what is not expandable: OUT, groups, definitions. */
    private static final class Performer {
        private static final int BRACES = 0;
        private static final int WORDS = 1;

        final int[] out = new int[MAX_OUT];
        int outLength;
        private final Expander expander;
        private final Source source;
        private final Store store;
        private final Macros macros;
        private final Progress progress;

        Performer(Expander expander, Source source, Store store, Macros macros, Progress progress) {
            this.expander = expander;
            this.source = source;
            this.store = store;
            this.macros = macros;
            this.progress = progress;
        }

        /** Does a token; of end and of what assign must do the code is answered, otherwise NO_CODE. */
        int perform(int token) {
            int meaning = store.meaning(token);
            int data = Store.dataOf(meaning);
            switch (Store.kindOf(meaning)) {
                case MEANS_CHARACTER:
                    performCharacter(data >> 8, data & 255);
                    return NO_CODE;
                case MEANS_NUMBER:
                    emit(data);
                    return NO_CODE;
                case MEANS_PRIMITIVE:
                    return performPrimitive(data);
                default:
                    return progress.fail(FAULT_MEANING);
            }
        }

        private void performCharacter(int category, int c) {
            switch (category) {
                case OPENING:
                    store.openGroup(BRACES);
                    break;
                case CLOSING:
                    store.closeGroup(BRACES);
                    break;
                case PARAMETER:
                    progress.fail(FAULT_PARAMETER);
                    break;
                default:
                    emit(c);
                    break;
            }
        }

        private void emit(int b) {
            if (outLength >= MAX_OUT) {
                progress.fail(FAULT_LIMIT);
            }
            out[outLength] = b;
            outLength++;
        }

        private int performPrimitive(int code) {
            switch (code) {
                case RELAX:
                    return NO_CODE;
                case PAR:
                    emit(10);
                    return NO_CODE;
                case BEGINGROUP:
                    store.openGroup(WORDS);
                    return NO_CODE;
                case ENDGROUP:
                    store.closeGroup(WORDS);
                    return NO_CODE;
                case ENDCSNAME:
                    return progress.fail(FAULT_KIND);
                default:
                    return code;
            }
        }

        /** The code of the assignment behind global. */
        private int prefixed() {
            int code = GLOBAL;
            for (int i = 0; i < FAR && (code == GLOBAL || code == RELAX); i++) {
                code = store.primitive(expander.expandedBehindSpaces());
            }
            return code >= DEF && code <= DIVIDE ? code : progress.fail(FAULT_KIND);
        }

        void assign(int given) {
            boolean isGlobal = given == GLOBAL;
            int code = isGlobal ? prefixed() : given;
            int slot;
            switch (code) {
                case DEF:
                case EDEF:
                case GDEF:
                case XDEF:
                    define(code == EDEF || code == XDEF, isGlobal || code == GDEF || code == XDEF);
                    break;
                case LET:
                    slot = target();
                    store.set(slot, store.meaning(letToken()), isGlobal);
                    break;
                case CHARDEF:
                    slot = target();
                    dropEquals();
                    store.set(slot, Store.meaningOf(MEANS_NUMBER, expander.numberUpTo(255)), isGlobal);
                    break;
                case COUNT:
                    slot = COUNTERS + expander.numberUpTo(255);
                    dropEquals();
                    store.set(slot, expander.number(), isGlobal);
                    break;
                case CATCODE:
                    slot = CATEGORIES + expander.numberUpTo(255);
                    dropEquals();
                    store.set(slot, expander.numberUpTo(15), isGlobal);
                    break;
                default:
                    slot = counter();
                    dropBy();
                    store.set(slot, result(code, store.value[slot], expander.number()), isGlobal);
                    break;
            }
        }

        /** The slot of the name or active character that is to be defined. */
        private int target() {
            int token = source.get(false);
            for (int i = 0; i < FAR && Token.isSpace(token); i++) {
                token = source.get(false);
            }
            if (!Token.isName(token) && !Token.isActive(token)) {
                progress.fail(FAULT_KIND);
            }
            return Token.slot(token);
        }

        private void define(boolean isExpanded, boolean global) {
            int slot = target();
            int parameters = defineParameters();
            macros.beginBody();
            int depth = 0;
            boolean isBehindSign = false;
            for (int i = 0; i < FAR && depth >= 0; i++) {
                int token = isExpanded ? expander.expanded(false) : source.get(false);
                int category = Token.category(token);
                if (isBehindSign) {
                    macros.add(placeOrSign(token, parameters));
                    isBehindSign = false;
                } else if (category == PARAMETER) {
                    isBehindSign = true;
                } else {
                    depth += category == OPENING ? 1 : category == CLOSING ? -1 : 0;
                    if (depth >= 0) {
                        macros.add(Token.plain(token));
                    }
                }
            }
            store.set(slot, Store.meaningOf(MEANS_MACRO, macros.make()), global);
        }

        /** Reads delimiters and parameters up to the brace that opens the body; how many parameters there are. */
        private int defineParameters() {
            int parameters = 0;
            int token = source.get(false);
            for (int i = 0; i < FAR && Token.category(token) != OPENING; i++) {
                int category = Token.category(token);
                if (category == CLOSING) {
                    progress.fail(FAULT_BRACE);
                }
                if (category == PARAMETER) {
                    parameters++;
                    if (Token.digit(source.get(false)) != parameters) {
                        progress.fail(FAULT_PARAMETER);
                    }
                    macros.add(Token.PLACE + parameters);
                } else {
                    macros.add(Token.plain(token));
                }
                token = source.get(false);
            }
            return parameters;
        }

        /** What a token behind one of category 6 stands for in a body. */
        private int placeOrSign(int token, int parameters) {
            int digit = Token.digit(token);
            if (digit >= 1 && digit <= parameters) {
                return Token.PLACE + digit;
            }
            return Token.category(token) == PARAMETER ? token : progress.fail(FAULT_PARAMETER);
        }

        private int letToken() {
            int token = source.get(false);
            for (int i = 0; i < FAR && Token.isSpace(token); i++) {
                token = source.get(false);
            }
            if (token == Token.EQUALS) {
                token = source.get(false);
                if (Token.isSpace(token)) {
                    token = source.get(false);
                }
            }
            return token;
        }

        private void dropEquals() {
            int token = expander.expandedBehindSpaces();
            if (token != Token.EQUALS) {
                source.put(token);
            }
        }

        /** The slot of the counter that advance, multiply or divide is to change. */
        private int counter() {
            if (store.primitive(expander.expandedBehindSpaces()) != COUNT) {
                progress.fail(FAULT_KIND);
            }
            return COUNTERS + expander.numberUpTo(255);
        }

        private void dropBy() {
            int first = expander.expandedBehindSpaces();
            if (!isLetter(first, 'b', 'B')) {
                source.put(first);
                return;
            }
            int second = expander.expanded(false);
            if (!isLetter(second, 'y', 'Y')) {
                source.put(second);
                source.put(first);
            }
        }

        private static boolean isLetter(int token, int small, int capital) {
            int c = token & 255;
            return Token.isCharacter(token) && (c == small || c == capital);
        }

        private int result(int code, long a, long b) {
            if (code == DIVIDE && b == 0) {
                return progress.fail(FAULT_RANGE);
            }
            long n = code == ADVANCE ? a + b : code == MULTIPLY ? a * b : a / b;
            return n > MAX_NUMBER || n < -MAX_NUMBER ? progress.fail(FAULT_RANGE) : (int) n;
        }
    }
}
