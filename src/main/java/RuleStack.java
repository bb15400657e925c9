/**
 * A table for games whose rules are told in a small language: acts and replies come onto a stack,
 * and are done from above when nobody answers any more; games are recorded, taken back and played
 * again.
 */
public final class RuleStack {
    private static final int MOST_BYTES = 2000;
    private static final int MOST_TOKENS = 450;
    private static final int LONGEST_WORD = 8;
    private static final int LONGEST_NUMBER = 4;
    private static final int MOST_DEPTH = 8;
    private static final int MOST_NESTING = 4;
    private static final int GREATEST_WHOLE = 999;

    private static final int MOST_TRACKS = 6;
    private static final int MOST_POOLS = 6;
    private static final int MOST_PHASES = 6;
    private static final int MOST_ACTS = 12;
    private static final int MOST_REPLIES = 8;
    private static final int MOST_RULES = 8;
    // In the order of the item keywords, the win last.
    private static final int[] MOST_ITEMS = {MOST_TRACKS, MOST_POOLS, MOST_PHASES, MOST_ACTS, MOST_REPLIES, MOST_RULES, 1};

    private static final int FEWEST_PLAYERS = 2;
    private static final int MOST_PLAYERS = 4;
    private static final int MOST_HEIGHT = 10;
    private static final int MOST_MOVES = 250;
    private static final int MOST_TURNS = 100;
    private static final int LAST_ROUND = 50;
    private static final int MOST_SIDES = 1000;
    private static final long DIE_FACTOR = 6364136223846793005L;
    private static final long DIE_SUMMAND = 1442695040888963407L;
    // 450 tokens within four alls of four players are some 115,000 steps.
    private static final int MOST_STEPS = 1000000;
    // Nine depths of an expression, each with at most five operands that wait.
    private static final int MOST_OPERANDS = 64;

    // Sorts of tokens; most are operations of the code, too.
    private static final int NO_TOKEN = 0;
    private static final int TAPE_END = 1;
    private static final int NAME = 2;
    private static final int NUMBER = 3;

    // The sort of a keyword is its place in this text, counted from TRACK.
    private static final String KEYWORDS = "track pool phase act reply rule win to at when do end set add if then else cancel again skip all my their die round depth me them players and or not";
    private static final int KEYWORD_COUNT = 32;
    private static final int TRACK = 4;
    private static final int POOL = 5;
    private static final int PHASE = 6;
    private static final int ACT = 7;
    private static final int REPLY = 8;
    private static final int RULE = 9;
    private static final int WIN = 10;
    private static final int TO = 11;
    private static final int AT = 12;
    private static final int WHEN = 13;
    private static final int DO = 14;
    private static final int END = 15;
    private static final int SET = 16;
    private static final int ADD = 17;
    private static final int IF = 18;
    private static final int THEN = 19;
    private static final int ELSE = 20;
    private static final int CANCEL = 21;
    private static final int AGAIN = 22;
    private static final int SKIP = 23;
    private static final int ALL = 24;
    private static final int MY = 25;
    private static final int THEIR = 26;
    private static final int DIE = 27;
    private static final int ROUND = 28;
    private static final int DEPTH = 29;
    private static final int ME = 30;
    private static final int THEM = 31;
    private static final int PLAYERS = 32;
    private static final int AND = 33;
    private static final int OR = 34;
    private static final int NOT = 35;

    // The sort of a symbol of one byte is its place in this text, counted from OPEN.
    private static final String SYMBOLS = "(),;:=+-*/%<>";
    private static final int OPEN = 36;
    private static final int CLOSE = 37;
    private static final int COMMA = 38;
    private static final int SEMICOLON = 39;
    private static final int COLON = 40;
    private static final int EQUAL = 41;
    private static final int PLUS = 42;
    private static final int MINUS = 43;
    private static final int TIMES = 44;
    private static final int DIVIDE = 45;
    private static final int REMAINDER = 46;
    private static final int LESS = 47;
    private static final int GREATER = 48;
    private static final int AT_MOST = 49;
    private static final int AT_LEAST = 50;
    private static final int UNEQUAL = 51;

    // Operations of the code that no token stands for.
    private static final int NEGATE = 52;
    private static final int NEXT_OF_ALL = 53;
    private static final int STOP = 54;

    private static final int LEVEL_OR = 0;
    private static final int LEVEL_AND = 1;
    private static final int LEVEL_RELATION = 2;
    private static final int LEVEL_SUM = 3;
    private static final int LEVEL_PRODUCT = 4;
    private static final int LEVEL_FACTOR = 5;

    private static final int ERROR_FORM = 1;
    private static final int ERROR_UNKNOWN = 2;
    private static final int ERROR_TAKEN = 3;
    private static final int ERROR_TOO_MANY = 4;
    private static final int ERROR_WHOLE = 5;
    private static final int ERROR_DIE = 6;
    private static final int ERROR_LACKING = 7;

    private static final int NO_GAME = -1;
    private static final int GOES_ON = 0;
    private static final int WON = 1;
    private static final int OVER = 2;

    private static final int AN_ACT = 0;
    private static final int A_REPLY = 1;
    private static final int A_PASS = 2;
    private static final int ROW = 4;

    private final Tape tape;
    private final Tokens tokens;
    private final Code code;
    private final Form form;
    private final Program program;
    private final Meaning meaning;
    private final Table table;
    private final Game game;
    private int errorPosition;

    public RuleStack() {
        tape = new Tape();
        tokens = new Tokens();
        code = new Code();
        form = new Form(tokens, code);
        program = new Program();
        meaning = new Meaning(tokens, program);
        table = new Table();
        game = new Game(program, table, new Machine(code, program, table));
        errorPosition = -1;
    }

    // ---- programs

    public int feed(int a, int b, int c, int d, int e) throws IllegalStateException {
        if (tape.length + 20 > MOST_BYTES) {
            throw new IllegalStateException("the tape is full");
        }
        tape.append(a);
        tape.append(b);
        tape.append(c);
        tape.append(d);
        tape.append(e);
        return tape.length;
    }

    public int trim(int n) throws IllegalArgumentException {
        if (n < 0 || n > tape.length) {
            throw new IllegalArgumentException("the tape has not so many bytes");
        }
        tape.length = n;
        return n;
    }

    public int compile() {
        game.forget();
        program.forget();
        tokens.read(tape);
        tape.length = 0;
        int wrong = form.firstWrong();
        int error = ERROR_FORM;
        if (wrong < 0) {
            error = meaning.look();
            wrong = meaning.wrong;
        }
        if (error != 0) {
            program.forget();
            errorPosition = tokens.startOf(wrong);
            return error;
        }
        code.link(tokens);
        program.stands = true;
        errorPosition = -1;
        return 0;
    }

    public int errorAt() {
        return errorPosition;
    }

    public int count(int what) throws IndexOutOfBoundsException {
        if (what < 0 || what > 9) {
            throw new IndexOutOfBoundsException("what is 0 to 9");
        }
        return counted(what);
    }

    private int counted(int what) {
        switch (what) {
            case 6:
                return tape.length;
            case 7:
                return table.players;
            case 8:
                return game.made;
            case 9:
                return table.height;
            default:
                return program.countOf(what);
        }
    }

    // ---- games

    public int begin(int players, long z) throws IllegalArgumentException, IllegalStateException {
        if (players < FEWEST_PLAYERS || players > MOST_PLAYERS) {
            throw new IllegalArgumentException("players are 2 to 4");
        }
        if (!program.stands) {
            throw new IllegalStateException("there is no program");
        }
        game.start(players, z);
        return game.outcome;
    }

    public int act(int act, int target) throws IndexOutOfBoundsException, IllegalStateException {
        if (!isThere(AN_ACT, act, target)) {
            throw new IndexOutOfBoundsException("no such act or player");
        }
        if (!game.allows(AN_ACT, act, target)) {
            throw new IllegalStateException("the act cannot be done now");
        }
        game.make(AN_ACT, act, target);
        return table.height;
    }

    public int reply(int reply, int target) throws IndexOutOfBoundsException, IllegalStateException {
        if (!isThere(A_REPLY, reply, target)) {
            throw new IndexOutOfBoundsException("no such reply or player");
        }
        if (!game.allows(A_REPLY, reply, target)) {
            throw new IllegalStateException("the reply cannot be given now");
        }
        game.make(A_REPLY, reply, target);
        return table.height;
    }

    public int pass() throws IllegalStateException {
        if (game.outcome != GOES_ON) {
            throw new IllegalStateException("there is no game that goes on");
        }
        game.make(A_PASS, -1, -1);
        return game.outcome;
    }

    public boolean can(boolean isReply, int number, int target) throws IndexOutOfBoundsException {
        int sort = isReply ? A_REPLY : AN_ACT;
        if (!isThere(sort, number, target)) {
            throw new IndexOutOfBoundsException("no such act, reply or player");
        }
        return game.allows(sort, number, target);
    }

    public int moves() {
        if (game.outcome != GOES_ON) {
            return 0;
        }
        int sort = table.height == 0 ? AN_ACT : A_REPLY;
        int numbers = Math.min(program.countOf(3 + sort), MOST_ACTS);
        int seats = Math.min(table.players, MOST_PLAYERS);
        int possible = 1;
        for (int number = 0; number < numbers; number++) {
            for (int target = 0; target < seats; target++) {
                if (game.allows(sort, number, target)) {
                    possible++;
                }
            }
        }
        return possible;
    }

    public int state() {
        return game.outcome;
    }

    public int told(int what) throws IndexOutOfBoundsException {
        if (what < 0 || what > 7) {
            throw new IndexOutOfBoundsException("what is 0 to 7");
        }
        return toldOf(what);
    }

    public int track(int player, int track) throws IndexOutOfBoundsException {
        if (player < 0 || player >= table.players || track < 0 || track >= program.countOf(0)) {
            throw new IndexOutOfBoundsException("no such player or track");
        }
        return table.valueOf(player * MOST_TRACKS + track);
    }

    public int pool(int pool) throws IndexOutOfBoundsException {
        if (pool < 0 || pool >= program.countOf(1)) {
            throw new IndexOutOfBoundsException("no such pool");
        }
        return game.outcome == NO_GAME
                ? program.wholeOf(MOST_TRACKS + pool, 2)
                : table.valueOf(Table.FIRST_POOL + pool);
    }

    public int stack(int place, int what) throws IndexOutOfBoundsException {
        if (place < 0 || place >= table.height || what < 0 || what >= ROW) {
            throw new IndexOutOfBoundsException("no such place, or what is not 0 to 3");
        }
        return table.onStack(place, what);
    }

    // ---- records

    public int move(int index, int what) throws IndexOutOfBoundsException {
        if (index < 0 || index >= game.made || what < 0 || what >= ROW) {
            throw new IndexOutOfBoundsException("no such move, or what is not 0 to 3");
        }
        return game.recorded(index, what);
    }

    public int back(int moves) throws IllegalArgumentException, IllegalStateException {
        if (moves < 0 || moves > game.made) {
            throw new IllegalArgumentException("there are not so many moves");
        }
        if (game.outcome == NO_GAME) {
            throw new IllegalStateException("no game was begun");
        }
        game.start(table.players, game.firstDie);
        for (int index = 0; index < moves; index++) {
            game.make(game.recorded(index, 0), game.recorded(index, 1), game.recorded(index, 2));
        }
        return game.outcome;
    }

    public long z() {
        return table.die;
    }

    public double mean(int track) throws IndexOutOfBoundsException {
        if (track < 0 || track >= program.countOf(0)) {
            throw new IndexOutOfBoundsException("no such track");
        }
        int seats = table.players;
        if (seats < 1) {
            return 0.0;
        }
        int sum = 0;
        for (int player = 0; player < seats; player++) {
            sum += table.valueOf(player * MOST_TRACKS + track);
        }
        return (double) sum / (double) seats;
    }

    public long digest() {
        long d = 419;
        for (int what = 0; what <= 9; what++) {
            d = d * 31 + counted(what);
        }
        d = d * 31 + game.outcome;
        for (int what = 0; what <= 7; what++) {
            d = d * 31 + toldOf(what);
        }
        d = d * 31 + table.die;
        d = withValues(d);
        for (int place = 0; place < table.height; place++) {
            for (int what = 0; what < ROW; what++) {
                d = d * 31 + table.onStack(place, what);
            }
        }
        for (int index = 0; index < game.made; index++) {
            for (int what = 0; what < ROW; what++) {
                d = d * 31 + game.recorded(index, what);
            }
        }
        return d;
    }

    private long withValues(long digest) {
        long d = digest;
        for (int player = 0; player < table.players; player++) {
            for (int track = 0; track < program.countOf(0); track++) {
                d = d * 31 + table.valueOf(player * MOST_TRACKS + track);
            }
        }
        if (game.outcome != NO_GAME) {
            for (int pool = 0; pool < program.countOf(1); pool++) {
                d = d * 31 + table.valueOf(Table.FIRST_POOL + pool);
            }
        }
        return d;
    }

    private boolean isThere(int sort, int number, int target) {
        return number >= 0 && number < program.countOf(3 + sort) && target >= 0 && target < table.players;
    }

    private int toldOf(int what) {
        if (game.outcome == NO_GAME) {
            return -1;
        }
        switch (what) {
            case 0:
                return table.round;
            case 1:
                return table.turn;
            case 2:
                return table.phase;
            case 3:
                return game.asked;
            case 4:
                return game.winner;
            case 5:
                return table.skip ? 1 : 0;
            case 6:
                return table.again ? 1 : 0;
            default:
                return game.passes;
        }
    }

    /** The bytes that a program is read from. */
    private static final class Tape {
        final byte[] bytes;
        int length;

        Tape() {
            bytes = new byte[MOST_BYTES];
        }

        void append(int four) {
            for (int shift = 24; shift >= 0; shift -= 8) {
                if (length >= 0 && length < bytes.length) {
                    bytes[length] = (byte) (four >>> shift);
                    length++;
                }
            }
        }

        /** Behind the end there is -1, with which no token goes on. */
        int byteAt(int at) {
            return at >= 0 && at < length && at < bytes.length ? bytes[at] & 255 : -1;
        }
    }

    /** The tokens of a tape; the last one is its end, or the first one that can be no token. */
    private static final class Tokens {
        final int[] sorts;
        final int[] starts;
        final long[] values;
        final long[] keywords;
        int count;

        Tokens() {
            sorts = new int[MOST_TOKENS + 1];
            starts = new int[MOST_TOKENS + 1];
            values = new long[MOST_TOKENS + 1];
            keywords = new long[KEYWORD_COUNT];
            int keyword = 0;
            for (int i = 0; i < KEYWORDS.length(); i++) {
                char c = KEYWORDS.charAt(i);
                if (c == ' ') {
                    keyword++;
                } else if (keyword < keywords.length) {
                    keywords[keyword] = keywords[keyword] << 8 | c;
                }
            }
        }

        void read(Tape tape) {
            count = 0;
            int at = 0;
            for (int n = 0; n < MOST_TOKENS; n++) {
                at = readOne(tape, behindBlanks(tape, at));
                if (sortOf(n) <= TAPE_END) {
                    return;
                }
            }
            at = behindBlanks(tape, at);
            append(at < tape.length ? NO_TOKEN : TAPE_END, at, 0);
        }

        int sortOf(int token) {
            return token >= 0 && token < count && token < sorts.length ? sorts[token] : NO_TOKEN;
        }

        int startOf(int token) {
            return token >= 0 && token < count && token < starts.length ? starts[token] : 0;
        }

        long valueOf(int token) {
            return token >= 0 && token < count && token < values.length ? values[token] : 0;
        }

        void setValue(int token, long value) {
            if (token >= 0 && token < count && token < values.length) {
                values[token] = value;
            }
        }

        private void append(int sort, int start, long value) {
            if (count >= 0 && count < sorts.length && count < starts.length && count < values.length) {
                sorts[count] = sort;
                starts[count] = start;
                values[count] = value;
                count++;
            }
        }

        private static int behindBlanks(Tape tape, int from) {
            int at = from;
            while (at < tape.length && (tape.byteAt(at) == ' ' || tape.byteAt(at) == '\n')) {
                at++;
            }
            return at;
        }

        /** Appends the token that begins there; returns where it ends. */
        private int readOne(Tape tape, int from) {
            int first = tape.byteAt(from);
            if (from >= tape.length) {
                append(TAPE_END, from, 0);
                return from;
            }
            if (isLetter(first)) {
                return readWord(tape, from);
            }
            if (isDigit(first)) {
                return readNumber(tape, from);
            }
            return readSymbol(tape, from);
        }

        // A word has at most eight bytes, so that one number can hold it.
        private int readWord(Tape tape, int from) {
            long word = 0;
            int at = from;
            while (at < tape.length && (isLetter(tape.byteAt(at)) || isDigit(tape.byteAt(at)))) {
                word = word << 8 | tape.byteAt(at);
                at++;
            }
            append(at - from > LONGEST_WORD ? NO_TOKEN : sortOfWord(word), from, word);
            return at;
        }

        private int readNumber(Tape tape, int from) {
            long number = 0;
            int at = from;
            while (at < tape.length && isDigit(tape.byteAt(at))) {
                number = number * 10 + (tape.byteAt(at) - '0');
                at++;
            }
            append(at - from > LONGEST_NUMBER ? NO_TOKEN : NUMBER, from, number);
            return at;
        }

        private int readSymbol(Tape tape, int from) {
            int first = tape.byteAt(from);
            int second = tape.byteAt(from + 1);
            int sort = NO_TOKEN;
            if (first == '<' && second == '=') {
                sort = AT_MOST;
            } else if (first == '<' && second == '>') {
                sort = UNEQUAL;
            } else if (first == '>' && second == '=') {
                sort = AT_LEAST;
            }
            if (sort != NO_TOKEN) {
                append(sort, from, 0);
                return from + 2;
            }
            int place = first < 0 ? -1 : SYMBOLS.indexOf((char) first);
            append(place < 0 ? NO_TOKEN : OPEN + place, from, 0);
            return from + 1;
        }

        private int sortOfWord(long word) {
            for (int i = 0; i < keywords.length; i++) {
                if (keywords[i] == word) {
                    return TRACK + i;
                }
            }
            return NAME;
        }

        private static boolean isLetter(int b) {
            return b >= 'a' && b <= 'z';
        }

        private static boolean isDigit(int b) {
            return b >= '0' && b <= '9';
        }
    }

    /** What the expressions and statements of a program come to: operations on a row of operands. */
    private static final class Code {
        final int[] operations;
        final int[] arguments;
        int length;

        Code() {
            operations = new int[MOST_TOKENS];
            arguments = new int[MOST_TOKENS];
        }

        /** Returns the place of the operation. */
        int append(int operation, int argument) {
            int place = length;
            if (place >= 0 && place < operations.length && place < arguments.length) {
                operations[place] = operation;
                arguments[place] = argument;
                length = place + 1;
            }
            return place;
        }

        /** Lets a jump lead to what is appended next. */
        void land(int jump) {
            if (jump >= 0 && jump < length && jump < arguments.length) {
                arguments[jump] = length;
            }
        }

        int operationAt(int place) {
            return place >= 0 && place < length && place < operations.length ? operations[place] : STOP;
        }

        int argumentAt(int place) {
            return place >= 0 && place < length && place < arguments.length ? arguments[place] : 0;
        }

        /** Puts what the tokens mean where the code names the tokens. */
        void link(Tokens tokens) {
            for (int i = 0; i < length && i < arguments.length; i++) {
                int operation = operationAt(i);
                if (operation == NUMBER || operation == NAME || operation == SET || operation == ADD) {
                    arguments[i] = (int) tokens.valueOf(arguments[i]);
                }
            }
        }
    }

    /** Reads tokens by the grammar, and writes the code; names are left to the meaning. */
    private static final class Form {
        final Tokens tokens;
        final Code code;
        int at;
        int now;

        Form(Tokens tokens, Code code) {
            this.tokens = tokens;
            this.code = code;
        }

        /** Returns the first token that cannot stand where it does; -1 if there is none. */
        int firstWrong() {
            at = 0;
            now = tokens.sortOf(at);
            code.length = 0;
            for (int n = 0; n < MOST_TOKENS && now != NO_TOKEN; n++) {
                item(now);
                if (now == TAPE_END) {
                    return -1;
                }
            }
            return at;
        }

        /** Goes behind a token of this sort; any other one breaks the form. */
        private void take(int sort) {
            if (now == sort) {
                at++;
                now = tokens.sortOf(at);
            } else {
                fail();
            }
        }

        // No part of the grammar takes what is no token, so that from now on nothing is taken any more.
        private void fail() {
            now = NO_TOKEN;
        }

        private void item(int first) {
            if (first < TRACK || first > WIN) {
                fail();
                return;
            }
            if (first == WIN) {
                condition(WIN);
                take(SEMICOLON);
                return;
            }
            take(first);
            take(NAME);
            if (first == TRACK || first == POOL) {
                range();
                return;
            }
            if (first == PHASE) {
                names();
                return;
            }
            if (first == RULE) {
                take(AT);
                take(NAME);
            }
            if (now == WHEN) {
                condition(WHEN);
            }
            takeAsEntry(DO);
            statements(0);
            code.append(STOP, 0);
            take(END);
        }

        private void condition(int keyword) {
            takeAsEntry(keyword);
            expression(LEVEL_OR, 0);
            code.append(STOP, 0);
        }

        /** Takes a keyword, and leaves with it, for the meaning, where the code behind it begins. */
        private void takeAsEntry(int keyword) {
            if (now == keyword) {
                tokens.setValue(at, code.length);
            }
            take(keyword);
        }

        private void range() {
            whole();
            take(TO);
            whole();
            take(AT);
            whole();
            take(SEMICOLON);
        }

        private void whole() {
            if (now == MINUS) {
                take(MINUS);
            }
            take(NUMBER);
        }

        private void names() {
            take(COLON);
            take(NAME);
            for (int n = 0; n < MOST_TOKENS && now == COMMA; n++) {
                take(COMMA);
                take(NAME);
            }
            take(SEMICOLON);
        }

        private void statements(int nesting) {
            for (int n = 0; n < MOST_TOKENS && beginsStatement(now); n++) {
                statement(now, nesting);
            }
        }

        private static boolean beginsStatement(int sort) {
            return sort == SET || sort == ADD || sort == IF || sort == ALL
                    || sort == CANCEL || sort == AGAIN || sort == SKIP;
        }

        private void statement(int first, int nesting) {
            if (first == IF || first == ALL) {
                if (nesting >= MOST_NESTING) {
                    fail();
                } else if (first == IF) {
                    choice(nesting + 1);
                } else {
                    forAll(nesting + 1);
                }
                return;
            }
            take(first);
            int name = 0;
            if (first == SET || first == ADD) {
                name = place();
                expression(LEVEL_OR, 0);
            }
            code.append(first, name);
            take(SEMICOLON);
        }

        private void choice(int nesting) {
            take(IF);
            expression(LEVEL_OR, 0);
            take(THEN);
            int jump = code.append(IF, 0);
            statements(nesting);
            if (now == ELSE) {
                take(ELSE);
                int end = code.append(ELSE, 0);
                code.land(jump);
                jump = end;
                statements(nesting);
            }
            code.land(jump);
            take(END);
        }

        private void forAll(int nesting) {
            take(ALL);
            int first = code.append(ALL, 0);
            statements(nesting);
            code.append(NEXT_OF_ALL, first + 1);
            take(END);
        }

        /** Returns the token that is the name of the place. */
        private int place() {
            if (now == MY) {
                take(MY);
            } else if (now == THEIR) {
                take(THEIR);
            }
            take(NAME);
            return at - 1;
        }

        private void expression(int level, int depth) {
            if (level >= LEVEL_FACTOR) {
                factor(now, depth);
                return;
            }
            expression(level + 1, depth);
            for (int n = 0; n < MOST_TOKENS && levelOf(now) == level; n++) {
                int operator = now;
                take(operator);
                expression(level + 1, depth);
                code.append(operator, 0);
                if (level == LEVEL_RELATION) {
                    return;
                }
            }
        }

        private static int levelOf(int sort) {
            switch (sort) {
                case OR:
                    return LEVEL_OR;
                case AND:
                    return LEVEL_AND;
                case EQUAL:
                case UNEQUAL:
                case LESS:
                case GREATER:
                case AT_MOST:
                case AT_LEAST:
                    return LEVEL_RELATION;
                case PLUS:
                case MINUS:
                    return LEVEL_SUM;
                case TIMES:
                case DIVIDE:
                case REMAINDER:
                    return LEVEL_PRODUCT;
                default:
                    return -1;
            }
        }

        private void factor(int first, int depth) {
            switch (first) {
                case NUMBER:
                case ROUND:
                case DEPTH:
                case ME:
                case THEM:
                case PLAYERS:
                    code.append(first, at);
                    take(first);
                    break;
                case MY:
                case THEIR:
                case NAME:
                    code.append(NAME, place());
                    break;
                case OPEN:
                case MINUS:
                case NOT:
                case DIE:
                    deeper(first, depth + 1);
                    break;
                default:
                    fail();
                    break;
            }
        }

        private void deeper(int first, int depth) {
            if (depth > MOST_DEPTH) {
                fail();
                return;
            }
            take(first);
            if (first == OPEN) {
                expression(LEVEL_OR, depth);
                take(CLOSE);
            } else {
                factor(now, depth);
                code.append(first == MINUS ? NEGATE : first, 0);
            }
        }
    }

    /** What a program tells, numbered as the face numbers it. */
    private static final class Program {
        static final int FIRST_REPLY = MOST_ACTS;
        static final int FIRST_RULE = MOST_ACTS + MOST_REPLIES;
        static final int BODIES = MOST_ACTS + MOST_REPLIES + MOST_RULES;

        final int[] counts;
        final int[] wholes;
        final int[] phaseActs;
        final int[] rulePhases;
        final int[] whens;
        final int[] deeds;
        int win;
        boolean stands;

        Program() {
            counts = new int[WIN - TRACK + 1];
            wholes = new int[(MOST_TRACKS + MOST_POOLS) * 3];
            phaseActs = new int[MOST_PHASES];
            rulePhases = new int[MOST_RULES];
            whens = new int[BODIES];
            deeds = new int[BODIES];
        }

        void forget() {
            stands = false;
            for (int i = 0; i < counts.length; i++) {
                counts[i] = 0;
            }
        }

        int countOf(int kind) {
            return kind >= 0 && kind < counts.length ? counts[kind] : 0;
        }

        /** The first, second or third whole of a track, or of a pool (behind the tracks). */
        int wholeOf(int thing, int which) {
            int place = thing * 3 + which;
            return place >= 0 && place < wholes.length ? wholes[place] : 0;
        }

        void setWhole(int thing, int which, int value) {
            int place = thing * 3 + which;
            if (place >= 0 && place < wholes.length) {
                wholes[place] = value;
            }
        }

        boolean hasAct(int phase, int act) {
            return phase >= 0 && phase < phaseActs.length && (phaseActs[phase] >> act & 1) == 1;
        }

        boolean isRuleAt(int rule, int phase) {
            return rule >= 0 && rule < rulePhases.length && rulePhases[rule] == phase;
        }

        /** Where the code of the condition begins; -1 if there is none. */
        int whenOf(int body) {
            return body >= 0 && body < whens.length ? whens[body] : -1;
        }

        int deedOf(int body) {
            return body >= 0 && body < deeds.length ? deeds[body] : -1;
        }
    }

    /** Looks at what well-formed tokens mean, from left to right, and tells it to the program. */
    private static final class Meaning {
        final Tokens tokens;
        final Program program;
        int wrong;
        private int error;
        private int kind;
        private int number;
        private int wholesRead;
        private boolean dieless;

        Meaning(Tokens tokens, Program program) {
            this.tokens = tokens;
            this.program = program;
        }

        /** Returns the first error, whose token is then the wrong one; 0 if there is none. */
        int look() {
            error = 0;
            int end = tokens.count - 1;
            for (int token = 0; token < end && error == 0; token++) {
                lookAt(token, tokens.sortOf(token));
            }
            if (error == 0 && (program.countOf(PHASE - TRACK) == 0 || program.countOf(WIN - TRACK) == 0)) {
                fail(ERROR_LACKING, end);
            }
            return error;
        }

        private void fail(int number, int token) {
            error = number;
            wrong = token;
        }

        private void lookAt(int token, int sort) {
            switch (sort) {
                case TRACK:
                case POOL:
                case PHASE:
                case ACT:
                case REPLY:
                case RULE:
                case WIN:
                    item(token, sort);
                    break;
                case NAME:
                    name(token, tokens.sortOf(token - 1));
                    break;
                case NUMBER:
                    if (kind == TRACK || kind == POOL) {
                        whole(token);
                    }
                    break;
                case WHEN:
                    dieless = true;
                    setBody(program.whens, token);
                    break;
                case DO:
                    dieless = false;
                    setBody(program.deeds, token);
                    break;
                case DIE:
                    if (dieless) {
                        fail(ERROR_DIE, token);
                    }
                    break;
                default:
                    break;
            }
        }

        private void item(int token, int sort) {
            int place = sort - TRACK;
            if (place < 0 || place >= MOST_ITEMS.length || place >= program.counts.length) {
                return;
            }
            kind = sort;
            number = program.counts[place];
            if (number >= MOST_ITEMS[place]) {
                fail(ERROR_TOO_MANY, token);
                return;
            }
            program.counts[place] = number + 1;
            wholesRead = 0;
            dieless = sort == WIN;
            if (sort == WIN) {
                program.win = (int) tokens.valueOf(token);
            } else if (sort == PHASE && number < program.phaseActs.length) {
                program.phaseActs[number] = 0;
            } else if (body() >= 0 && body() < program.whens.length) {
                program.whens[body()] = -1;
            }
        }

        /** The number of the item among all that have bodies; -1 if it has none. */
        private int body() {
            switch (kind) {
                case ACT:
                    return number;
                case REPLY:
                    return Program.FIRST_REPLY + number;
                case RULE:
                    return Program.FIRST_RULE + number;
                default:
                    return -1;
            }
        }

        private void setBody(int[] row, int token) {
            int body = body();
            if (body >= 0 && body < row.length) {
                row[body] = (int) tokens.valueOf(token);
            }
        }

        private void name(int token, int ahead) {
            if (ahead >= TRACK && ahead <= RULE) {
                if (isTaken(token)) {
                    fail(ERROR_TAKEN, token);
                }
            } else if (ahead == COLON || ahead == COMMA) {
                phaseAct(token);
            } else if (ahead == AT) {
                rulePhase(token);
            } else if (ahead == MY) {
                place(token, TRACK, 0);
            } else if (ahead == THEIR) {
                place(token, TRACK, MOST_TRACKS);
            } else {
                place(token, POOL, 2 * MOST_TRACKS);
            }
        }

        private boolean isTaken(int name) {
            for (int token = 1; token < name; token++) {
                int ahead = tokens.sortOf(token - 1);
                if (ahead >= TRACK && ahead <= RULE && tokens.valueOf(token) == tokens.valueOf(name)) {
                    return true;
                }
            }
            return false;
        }

        private void phaseAct(int name) {
            int act = find(ACT, name, tokens.count);
            if (act < 0) {
                fail(ERROR_UNKNOWN, name);
            } else if (act < MOST_ACTS && number >= 0 && number < program.phaseActs.length) {
                program.phaseActs[number] |= 1 << act;
            }
        }

        private void rulePhase(int name) {
            int phase = find(PHASE, name, tokens.count);
            if (phase < 0) {
                fail(ERROR_UNKNOWN, name);
            } else if (number >= 0 && number < program.rulePhases.length) {
                program.rulePhases[number] = phase;
            }
        }

        /** Numbers the places for the machine: my tracks, then their tracks, then the pools. */
        private void place(int name, int sort, int first) {
            int found = find(sort, name, name);
            if (found < 0) {
                fail(ERROR_UNKNOWN, name);
            } else {
                tokens.setValue(name, first + found);
            }
        }

        /** The number of the item of this sort and name that begins ahead of the end; -1 if none does. */
        private int find(int sort, int name, int end) {
            int found = 0;
            for (int token = 1; token < end; token++) {
                if (tokens.sortOf(token - 1) == sort) {
                    if (tokens.valueOf(token) == tokens.valueOf(name)) {
                        return found;
                    }
                    found++;
                }
            }
            return -1;
        }

        private void whole(int token) {
            int value = (int) tokens.valueOf(token);
            if (tokens.sortOf(token - 1) == MINUS) {
                value = -value;
            }
            int thing = kind == TRACK ? number : MOST_TRACKS + number;
            int least = wholesRead == 0 ? -GREATEST_WHOLE : program.wholeOf(thing, 0);
            int greatest = wholesRead == 2 ? program.wholeOf(thing, 1) : GREATEST_WHOLE;
            if (value < least || value > greatest) {
                fail(ERROR_WHOLE, token);
            }
            program.setWhole(thing, wholesRead, value);
            wholesRead++;
        }
    }

    /** What lies on the table: all that statements can read or change. */
    private static final class Table {
        static final int FIRST_POOL = MOST_PLAYERS * MOST_TRACKS;

        final int[] values;
        final int[] rows;
        int players;
        int height;
        int round;
        int turn;
        int phase;
        boolean skip;
        boolean again;
        long die;

        Table() {
            values = new int[FIRST_POOL + MOST_POOLS];
            rows = new int[MOST_HEIGHT * ROW];
        }

        int behind(int player) {
            return player + 1 < players ? player + 1 : 0;
        }

        int valueOf(int place) {
            return place >= 0 && place < values.length ? values[place] : 0;
        }

        void setValue(int place, int value) {
            if (place >= 0 && place < values.length) {
                values[place] = value;
            }
        }

        int onStack(int place, int what) {
            int at = place * ROW + what;
            return at >= 0 && at < rows.length ? rows[at] : 0;
        }

        void putOnStack(int sort, int number, int owner, int target) {
            int at = height * ROW;
            if (at >= 0 && at + 3 < rows.length) {
                rows[at] = sort;
                rows[at + 1] = number;
                rows[at + 2] = owner;
                rows[at + 3] = target;
                height++;
            }
        }
    }

    /** Does the code of a program on the table. */
    private static final class Machine {
        final Code code;
        final Program program;
        final Table table;
        final long[] operands;
        final int[] targets;
        int operandCount;
        int loops;
        int owner;
        int target;

        Machine(Code code, Program program, Table table) {
            this.code = code;
            this.program = program;
            this.table = table;
            operands = new long[MOST_OPERANDS];
            targets = new int[MOST_NESTING];
        }

        /** Does the code from there to its stop; returns what an expression yields, else 0. */
        long run(int from, int asOwner, int atTarget) {
            owner = asOwner;
            target = atTarget;
            operandCount = 0;
            loops = 0;
            int at = from;
            int operation = code.operationAt(at);
            for (int step = 0; step < MOST_STEPS && operation != STOP; step++) {
                int argument = code.argumentAt(at);
                at++;
                if (isLeaf(operation)) {
                    push(leaf(operation, argument));
                } else if (isUnary(operation)) {
                    push(unary(operation, pop()));
                } else if (isBinary(operation)) {
                    long right = pop();
                    push(binary(operation, pop(), right));
                } else if (operation == SET || operation == ADD) {
                    store(operation, placeOf(argument), pop());
                } else if (operation == NEXT_OF_ALL) {
                    at = nextOfAll() ? argument : at;
                } else {
                    at = behind(operation, argument, at);
                }
                operation = code.operationAt(at);
            }
            return pop();
        }

        private static boolean isLeaf(int operation) {
            return operation == NAME || operation == NUMBER || operation >= ROUND && operation <= PLAYERS;
        }

        private static boolean isUnary(int operation) {
            return operation == NEGATE || operation == NOT || operation == DIE;
        }

        private static boolean isBinary(int operation) {
            return operation == AND || operation == OR || operation >= EQUAL && operation <= UNEQUAL;
        }

        private void push(long value) {
            if (operandCount >= 0 && operandCount < operands.length) {
                operands[operandCount] = value;
                operandCount++;
            }
        }

        private long pop() {
            if (operandCount < 1 || operandCount > operands.length) {
                return 0;
            }
            operandCount--;
            return operands[operandCount];
        }

        private long leaf(int operation, int argument) {
            switch (operation) {
                case NAME:
                    return table.valueOf(placeOf(argument));
                case ROUND:
                    return table.round;
                case DEPTH:
                    return table.height;
                case ME:
                    return owner;
                case THEM:
                    return target;
                case PLAYERS:
                    return table.players;
                default:
                    return argument;
            }
        }

        private int placeOf(int named) {
            if (named < MOST_TRACKS) {
                return owner * MOST_TRACKS + named;
            }
            if (named < 2 * MOST_TRACKS) {
                return target * MOST_TRACKS + named - MOST_TRACKS;
            }
            return Table.FIRST_POOL + named - 2 * MOST_TRACKS;
        }

        private long unary(int operation, long value) {
            switch (operation) {
                case NEGATE:
                    return -value;
                case NOT:
                    return value == 0 ? 1 : 0;
                default:
                    return thrown(value);
            }
        }

        private long thrown(long wanted) {
            long sides = wanted < 1 ? 1 : wanted > MOST_SIDES ? MOST_SIDES : wanted;
            table.die = table.die * DIE_FACTOR + DIE_SUMMAND;
            return 1 + (table.die >>> 33) % sides;
        }

        private static long binary(int operation, long left, long right) {
            switch (operation) {
                case PLUS:
                    return left + right;
                case MINUS:
                    return left - right;
                case TIMES:
                    return left * right;
                case DIVIDE:
                    return right == 0 ? 0 : left / right;
                case REMAINDER:
                    return right == 0 ? 0 : left % right;
                default:
                    return holds(operation, left, right) ? 1 : 0;
            }
        }

        private static boolean holds(int operation, long left, long right) {
            switch (operation) {
                case OR:
                    return left != 0 || right != 0;
                case AND:
                    return left != 0 && right != 0;
                case EQUAL:
                    return left == right;
                case UNEQUAL:
                    return left != right;
                case LESS:
                    return left < right;
                case GREATER:
                    return left > right;
                case AT_MOST:
                    return left <= right;
                default:
                    return left >= right;
            }
        }

        /** Does what takes no place; returns where the operation stands that follows. */
        private int behind(int operation, int argument, int next) {
            switch (operation) {
                case IF:
                    return pop() != 0 ? next : argument;
                case ELSE:
                    return argument;
                case ALL:
                    enterAll(table.behind(owner));
                    return next;
                case CANCEL:
                    table.height = table.height > 0 ? table.height - 1 : 0;
                    return next;
                case AGAIN:
                    table.again = true;
                    return next;
                case SKIP:
                    table.skip = true;
                    return next;
                default:
                    return next;
            }
        }

        private void store(int operation, int place, long operand) {
            long value = operation == ADD ? table.valueOf(place) + operand : operand;
            int thing = place < Table.FIRST_POOL ? place % MOST_TRACKS : place - Table.FIRST_POOL + MOST_TRACKS;
            int least = program.wholeOf(thing, 0);
            int greatest = program.wholeOf(thing, 1);
            table.setValue(place, value < least ? least : value > greatest ? greatest : (int) value);
        }

        private void enterAll(int first) {
            if (loops >= 0 && loops < targets.length) {
                targets[loops] = target;
                loops++;
            }
            target = first;
        }

        /** The owner comes last; behind it the target is the one ahead again. */
        private boolean nextOfAll() {
            if (target != owner) {
                target = table.behind(target);
                return true;
            }
            if (loops > 0 && loops <= targets.length) {
                loops--;
                target = targets[loops];
            }
            return false;
        }
    }

    /** A game as it goes on: who is asked, what follows from a move, and the moves so far. */
    private static final class Game {
        final Program program;
        final Table table;
        final Machine machine;
        final int[] written;
        int made;
        int outcome;
        int winner;
        int asked;
        int passes;
        long firstDie;

        Game(Program program, Table table, Machine machine) {
            this.program = program;
            this.table = table;
            this.machine = machine;
            written = new int[MOST_MOVES * ROW];
            outcome = NO_GAME;
        }

        void forget() {
            outcome = NO_GAME;
            made = 0;
            table.players = 0;
            table.height = 0;
            table.die = 0;
        }

        void start(int players, long die) {
            firstDie = die;
            made = 0;
            outcome = GOES_ON;
            winner = -1;
            asked = -1;
            passes = 0;
            table.players = players;
            table.die = die;
            table.height = 0;
            table.round = 1;
            layOut();
            newTurn(0);
            phaseBegins();
            if (outcome == GOES_ON && table.skip) {
                turnsBegin();
            }
        }

        private void layOut() {
            for (int track = 0; track < MOST_TRACKS; track++) {
                for (int player = 0; player < MOST_PLAYERS; player++) {
                    table.setValue(player * MOST_TRACKS + track, program.wholeOf(track, 2));
                }
            }
            for (int pool = 0; pool < MOST_POOLS; pool++) {
                table.setValue(Table.FIRST_POOL + pool, program.wholeOf(MOST_TRACKS + pool, 2));
            }
        }

        private void newTurn(int player) {
            table.turn = player;
            table.phase = 0;
            table.skip = false;
            table.again = false;
        }

        int recorded(int index, int what) {
            int at = index * ROW + what;
            return at >= 0 && at < written.length ? written[at] : 0;
        }

        /** Whether the act or reply could be done now. */
        boolean allows(int sort, int number, int target) {
            if (outcome != GOES_ON) {
                return false;
            }
            if (sort == AN_ACT) {
                return table.height == 0 && program.hasAct(table.phase, number)
                        && holds(program.whenOf(number), table.turn, target);
            }
            return table.height > 0 && table.height < MOST_HEIGHT
                    && holds(program.whenOf(Program.FIRST_REPLY + number), asked, target);
        }

        private boolean holds(int condition, int owner, int target) {
            return condition < 0 || machine.run(condition, owner, target) != 0;
        }

        /** Makes a move that is allowed, with all that follows from it. */
        void make(int sort, int number, int target) {
            int maker = table.height > 0 ? asked : table.turn;
            note(sort, number, target, maker);
            boolean turnIsOver = false;
            if (sort != A_PASS) {
                table.putOnStack(sort, number, maker, target);
                askAnew();
            } else if (table.height > 0) {
                passOn();
            } else if (table.phase + 1 < program.countOf(PHASE - TRACK)) {
                table.phase++;
                phaseBegins();
            } else {
                turnIsOver = true;
            }
            if (outcome == GOES_ON && table.height == 0 && (turnIsOver || table.skip)) {
                turnsBegin();
            }
            if (outcome == GOES_ON && made >= MOST_MOVES) {
                end(OVER, -1);
            }
        }

        private void note(int sort, int number, int target, int maker) {
            int at = made * ROW;
            if (at >= 0 && at + 3 < written.length) {
                written[at] = sort;
                written[at + 1] = number;
                written[at + 2] = target;
                written[at + 3] = maker;
                made++;
            }
        }

        private void end(int how, int byPlayer) {
            outcome = how;
            winner = byPlayer;
            asked = -1;
            passes = 0;
        }

        private void askAnew() {
            passes = 0;
            asked = table.height > 0 ? table.behind(table.onStack(table.height - 1, 2)) : -1;
        }

        private void passOn() {
            passes++;
            if (passes < table.players - 1) {
                asked = table.behind(asked);
                return;
            }
            int place = table.height - 1;
            int body = table.onStack(place, 1);
            if (table.onStack(place, 0) == A_REPLY) {
                body += Program.FIRST_REPLY;
            }
            table.height = place;
            machine.run(program.deedOf(body), table.onStack(place, 2), table.onStack(place, 3));
            lookForWinner();
            if (outcome == GOES_ON) {
                askAnew();
            }
        }

        private void lookForWinner() {
            int player = table.turn;
            for (int n = 0; n < table.players; n++) {
                int next = table.behind(player);
                if (machine.run(program.win, player, next) != 0) {
                    end(WON, player);
                    return;
                }
                player = next;
            }
        }

        private void phaseBegins() {
            int rules = program.countOf(RULE - TRACK);
            int next = table.behind(table.turn);
            for (int rule = 0; rule < rules && outcome == GOES_ON; rule++) {
                int body = Program.FIRST_RULE + rule;
                if (program.isRuleAt(rule, table.phase) && holds(program.whenOf(body), table.turn, next)) {
                    machine.run(program.deedOf(body), table.turn, next);
                    lookForWinner();
                }
            }
        }

        /** Begins turns until one is not over as soon as it has begun, or the game is over. */
        private void turnsBegin() {
            boolean turnIsOver = true;
            for (int begun = 0; begun <= MOST_TURNS && turnIsOver && outcome == GOES_ON; begun++) {
                int next = table.again ? table.turn : table.behind(table.turn);
                int round = next == 0 && !table.again ? table.round + 1 : table.round;
                if (round > LAST_ROUND || begun >= MOST_TURNS) {
                    end(OVER, -1);
                } else {
                    table.round = round;
                    newTurn(next);
                    phaseBegins();
                    turnIsOver = table.skip;
                }
            }
        }
    }
}
