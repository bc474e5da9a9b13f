import java.util.Arrays;

/** A hexagonal domino of three numbers. */
public final class RingDomino {
    private static final int EDGES = 6;
    private static final int PARTS = 3;
    private static final int DIGITS = 10;
    private static final int ALL_TURNS = 63;
    private static final int MOST_CELLS = 49;
    private static final int MOST_TILES = 16;
    private static final int MOST_ORDERS = 16;
    private static final int MOST_TOKENS = 400;
    private static final int MOST_ROUNDS = 20;
    private static final int DEEPEST = 8;
    private static final int RING_POINTS = 10;

    private final Tape tape;
    private final Tokens tokens;
    private final Program draft;
    private final Grammar grammar;
    private final Meaning meaning;
    private final Board board;
    private final Game game;
    private int errorPosition;

    public RingDomino() {
        tape = new Tape();
        tokens = new Tokens(tape);
        draft = new Program();
        grammar = new Grammar(tokens, draft);
        meaning = new Meaning(tokens, draft);
        board = new Board();
        game = new Game(board);
        errorPosition = -1;
    }

    // ---- the language

    public int feed(int a, int b, int c, int d, int e) throws IllegalStateException {
        if (!tape.hasRoomFor(20)) {
            throw new IllegalStateException("the tape would be longer than 2000 bytes");
        }
        tape.append(a);
        tape.append(b);
        tape.append(c);
        tape.append(d);
        tape.append(e);
        return tape.size;
    }

    public int trim(int n) throws IllegalArgumentException {
        if (n < 0 || n > tape.size) {
            throw new IllegalArgumentException("not a length up to that of the tape");
        }
        tape.size = n;
        return n;
    }

    public int teach() {
        tokens.cutTape();
        draft.clear();
        int error = grammar.readsGame() ? meaning.firstError() : 1;
        int token = error == 1 ? grammar.next : meaning.token;
        errorPosition = error == 0 ? -1 : tokens.startOf(token);
        if (error == 0) {
            game.begin(draft);
        }
        tape.size = 0;
        return error;
    }

    public int errorAt() {
        return errorPosition;
    }

    // ---- the game

    public int columns() {
        return board.columns;
    }

    public int rows() {
        return board.rows;
    }

    public int tiles() {
        return board.tileCount;
    }

    public int rounds() {
        return game.roundsGone;
    }

    public int placedTiles() {
        return board.placed;
    }

    public int matches() {
        return board.countMatches();
    }

    public int points() {
        return board.countPoints();
    }

    public int rings() {
        return board.countRings();
    }

    public int groups() {
        return board.countGroups();
    }

    // ---- cells

    public boolean hasTile(int cell) throws IndexOutOfBoundsException {
        requireCell(cell);
        return board.tileOn[cell] >= 0;
    }

    public int tileAt(int cell) throws IndexOutOfBoundsException, IllegalStateException {
        requireCell(cell);
        requireTileOn(cell);
        return board.tileOn[cell];
    }

    public int numberAt(int cell, int edge) throws IndexOutOfBoundsException, IllegalStateException {
        requireCell(cell);
        requireEdge(edge);
        requireTileOn(cell);
        int tile = board.tileOn[cell];
        return board.numberOf(tile, edge, board.turnOn[tile]);
    }

    public int matchesOf(int cell) throws IndexOutOfBoundsException {
        requireCell(cell);
        return board.matchesOn(cell);
    }

    public boolean isRing(int cell) throws IndexOutOfBoundsException {
        requireCell(cell);
        return board.isEncircled(cell);
    }

    // ---- tiles

    public boolean isPlaced(int tile) throws IndexOutOfBoundsException {
        requireTile(tile);
        return board.lies(tile);
    }

    public int cellOf(int tile) throws IndexOutOfBoundsException, IllegalStateException {
        requireTile(tile);
        requireLying(tile);
        return board.cellUnder[tile];
    }

    public int turnOf(int tile) throws IndexOutOfBoundsException, IllegalStateException {
        requireTile(tile);
        requireLying(tile);
        return board.turnOn[tile];
    }

    public boolean fits(int tile, int cell, int turn) throws IndexOutOfBoundsException {
        requireWay(tile, cell, turn);
        return board.fitsSo(tile, cell, turn);
    }

    public int edgeAgainst(int tile, int cell, int turn) throws IndexOutOfBoundsException {
        requireWay(tile, cell, turn);
        return board.firstClash(tile, cell, turn);
    }

    public int waysOf(int tile) throws IndexOutOfBoundsException {
        requireTile(tile);
        return board.countWays(tile);
    }

    public boolean isLeftover(int tile) throws IndexOutOfBoundsException {
        requireTile(tile);
        return !board.lies(tile) && board.firstCell(tile) < 0;
    }

    public int looksToProve(int tile) throws IndexOutOfBoundsException, IllegalStateException {
        requireTile(tile);
        if (board.lies(tile) || board.firstCell(tile) >= 0) {
            throw new IllegalStateException("the tile is not left over");
        }
        return board.countOpenCells() * board.differentTurns(tile);
    }

    // ---- by hand

    public int putTile(int tile, int cell, int turn) throws IndexOutOfBoundsException, IllegalStateException {
        requireWay(tile, cell, turn);
        if (!board.fitsSo(tile, cell, turn)) {
            throw new IllegalStateException("the tile lies somewhere, or does not fit there so");
        }
        int gain = board.pointsFor(cell);
        board.put(tile, cell, turn);
        return gain;
    }

    public int takeTile(int tile) throws IndexOutOfBoundsException, IllegalStateException {
        requireTile(tile);
        requireLying(tile);
        int cell = board.cellUnder[tile];
        board.lift(tile);
        return board.pointsFor(cell);
    }

    public int fitTile(int tile) throws IndexOutOfBoundsException, IllegalStateException {
        requireTile(tile);
        int cell = board.firstCell(tile);
        requireSome(cell);
        board.put(tile, cell, board.firstTurn(tile, cell));
        return cell;
    }

    // ---- rounds and what would be

    public int playRounds(int rounds) throws IllegalArgumentException {
        requireRounds(rounds);
        int carriedOut = 0;
        for (int n = 0; n < rounds; n++) {
            carriedOut += game.playRound();
        }
        return carriedOut;
    }

    public int pointsAfter(int rounds) throws IllegalArgumentException {
        requireRounds(rounds);
        game.keep();
        for (int n = 0; n < rounds; n++) {
            game.playRound();
        }
        int points = board.countPoints();
        game.bringBack();
        return points;
    }

    public int roundsUntilRing() {
        game.keep();
        int rounds = 0;
        while (rounds < MOST_ROUNDS && board.countRings() == 0) {
            game.playRound();
            rounds++;
        }
        boolean closed = board.countRings() > 0;
        game.bringBack();
        return closed ? rounds : -1;
    }

    public int bestCell(int tile) throws IndexOutOfBoundsException, IllegalStateException {
        requireTile(tile);
        int cell = board.richestCell(tile);
        requireSome(cell);
        return cell;
    }

    public int bestTurn(int tile) throws IndexOutOfBoundsException, IllegalStateException {
        requireTile(tile);
        int cell = board.richestCell(tile);
        requireSome(cell);
        // A cell brings the same points for every turn that fits: the tiles beside it say the numbers.
        return board.firstTurn(tile, cell);
    }

    public int bestTile() {
        return board.richestTile();
    }

    public double meanMatch() {
        int matches = board.countMatches();
        if (matches <= 0) {
            return 0;
        }
        return (double) board.sumOfMatches() / matches;
    }

    public long digest() {
        long d = 1009;
        d = d * 31 + columns();
        d = d * 31 + rows();
        d = d * 31 + tiles();
        d = d * 31 + rounds();
        d = d * 31 + placedTiles();
        d = d * 31 + matches();
        d = d * 31 + points();
        d = d * 31 + rings();
        d = d * 31 + groups();
        d = d * 31 + bestTile();
        for (int cell = 0; cell < board.cellCount; cell++) {
            d = d * 31 + board.tileOn[cell];
            d = d * 31 + board.matchesOn(cell);
            d = d * 31 + (board.isEncircled(cell) ? 1 : 0);
        }
        for (int tile = 0; tile < board.tileCount; tile++) {
            int ways = board.countWays(tile);
            d = d * 31 + (board.lies(tile) ? board.turnOn[tile] : -1);
            d = d * 31 + ways;
            d = d * 31 + (ways == 0 && !board.lies(tile) ? 1 : 0);
        }
        return d;
    }

    // ---- what the calls require

    private void requireCell(int cell) {
        if (cell < 0 || cell >= board.cellCount) {
            throw new IndexOutOfBoundsException("no such cell");
        }
    }

    private void requireTile(int tile) {
        if (!board.knows(tile)) {
            throw new IndexOutOfBoundsException("no such tile");
        }
    }

    private void requireEdge(int edge) {
        if (edge < 0 || edge >= EDGES) {
            throw new IndexOutOfBoundsException("an edge or a turn is 0 to 5");
        }
    }

    private void requireWay(int tile, int cell, int turn) {
        requireTile(tile);
        requireCell(cell);
        requireEdge(turn);
    }

    private void requireTileOn(int cell) {
        if (board.tileOn[cell] < 0) {
            throw new IllegalStateException("no tile lies there");
        }
    }

    private void requireLying(int tile) {
        if (!board.lies(tile)) {
            throw new IllegalStateException("the tile lies nowhere");
        }
    }

    private void requireSome(int cell) {
        if (cell < 0) {
            throw new IllegalStateException("the tile has no way");
        }
    }

    private void requireRounds(int rounds) {
        if (rounds < 1 || rounds > MOST_ROUNDS) {
            throw new IllegalArgumentException("rounds are 1 to 20");
        }
    }

    /** What a token is; with NEGATE, which only the program knows, also what a step of the program does. */
    private enum Kind {
        BOARD("board"), BY("by"), TILE("tile"), PUT("put"), AT("at"), TURNED("turned"),
        TAKE("take"), FIT("fit"), WHEN("when"), ROUND("round"), PLACED("placed"),
        MATCHES("matches"), POINTS("points"), RINGS("rings"), FREE("free"), WAYS("ways"),
        OF("of"), ON("on"), FITS("fits"), NOT("not"), AND("and"), OR("or"), MIN("min"), MAX("max"),
        OPEN("("), CLOSE(")"), OPEN_TEST("["), CLOSE_TEST("]"), SEMICOLON(";"), COMMA(","),
        PLUS("+"), MINUS("-"), TIMES("*"), OVER("/"),
        LESS("<"), MORE(">"), EQUAL("="), AT_MOST("<="), AT_LEAST(">="),
        NUMBER(""), NAME(""), END(""), WRONG(""), NEGATE("");

        private static final Kind[] ALL = values();

        final String text;

        Kind(String text) {
            this.text = text;
        }
    }

    /** The bytes that were fed. */
    private static final class Tape {
        private static final int LONGEST = 2000;

        private final byte[] bytes = new byte[LONGEST];
        int size;

        boolean hasRoomFor(int more) {
            return more <= LONGEST - size;
        }

        void append(int number) {
            for (int shift = 24; shift >= 0 && size < LONGEST; shift -= 8) {
                bytes[size] = (byte) (number >> shift);
                size++;
            }
        }

        /** The byte there, 0 (with which no token begins or goes on) where the tape is at its end. */
        int byteAt(int position) {
            return position >= 0 && position < size ? bytes[position] : 0;
        }

        boolean isLetter(int position) {
            int sign = byteAt(position);
            return sign >= 'a' && sign <= 'z';
        }

        boolean isDigit(int position) {
            int sign = byteAt(position);
            return sign >= '0' && sign <= '9';
        }

        int behindBlanks(int position) {
            int at = position;
            while (at < size && (byteAt(at) == ' ' || byteAt(at) == '\n')) {
                at++;
            }
            return at;
        }

        int behindWord(int position) {
            int at = position;
            while (at < size && (isLetter(at) || isDigit(at))) {
                at++;
            }
            return at;
        }

        int behindDigits(int position) {
            int at = position;
            while (at < size && isDigit(at)) {
                at++;
            }
            return at;
        }

        boolean says(String text, int start, int end) {
            if (text.length() != end - start) {
                return false;
            }
            for (int i = 0; i < text.length(); i++) {
                if (text.charAt(i) != byteAt(start + i)) {
                    return false;
                }
            }
            return true;
        }

        boolean saysSame(int start, int other, int length) {
            for (int i = 0; i < length; i++) {
                if (byteAt(start + i) != byteAt(other + i)) {
                    return false;
                }
            }
            return true;
        }
    }

    /** The tape cut into tokens; behind the last good one stands END, or WRONG where none can be. */
    private static final class Tokens {
        private static final int LONGEST_WORD = 10;
        private static final int LONGEST_NUMBER = 6;

        private final Tape tape;
        private final Kind[] kinds = new Kind[MOST_TOKENS + 1];
        private final int[] starts = new int[MOST_TOKENS + 1];
        private final int[] ends = new int[MOST_TOKENS + 1];
        private final int[] values = new int[MOST_TOKENS + 1];
        int count;

        Tokens(Tape tape) {
            this.tape = tape;
        }

        void cutTape() {
            count = 0;
            int at = tape.behindBlanks(0);
            for (int n = 0; n < MOST_TOKENS && at < tape.size; n++) {
                int end = endOfToken(at);
                Kind kind = kindBetween(at, end);
                if (kind == Kind.WRONG) {
                    break;
                }
                add(kind, at, end);
                at = tape.behindBlanks(end);
            }
            add(at < tape.size ? Kind.WRONG : Kind.END, at, at);
        }

        private void add(Kind kind, int start, int end) {
            if (count < kinds.length) {
                kinds[count] = kind;
                starts[count] = start;
                ends[count] = end;
                values[count] = kind == Kind.NUMBER ? numberBetween(start, end) : 0;
                count++;
            }
        }

        private int endOfToken(int start) {
            if (tape.isLetter(start)) {
                return tape.behindWord(start);
            }
            if (tape.isDigit(start)) {
                return tape.behindDigits(start);
            }
            int sign = tape.byteAt(start);
            boolean twoSigns = (sign == '<' || sign == '>') && tape.byteAt(start + 1) == '=';
            return start + (twoSigns ? 2 : 1);
        }

        private Kind kindBetween(int start, int end) {
            if (tape.isLetter(start)) {
                return end - start > LONGEST_WORD ? Kind.WRONG : kindWritten(start, end, Kind.NAME);
            }
            if (tape.isDigit(start)) {
                return end - start > LONGEST_NUMBER ? Kind.WRONG : Kind.NUMBER;
            }
            return kindWritten(start, end, Kind.WRONG);
        }

        private Kind kindWritten(int start, int end, Kind otherwise) {
            for (Kind kind : Kind.ALL) {
                if (tape.says(kind.text, start, end)) {
                    return kind;
                }
            }
            return otherwise;
        }

        private int numberBetween(int start, int end) {
            int number = 0;
            for (int at = start; at < end; at++) {
                number = number * 10 + (tape.byteAt(at) - '0');
            }
            return number;
        }

        Kind kindOf(int token) {
            return token >= 0 && token < count ? kinds[token] : Kind.WRONG;
        }

        int startOf(int token) {
            return token >= 0 && token < count ? starts[token] : tape.size;
        }

        /** The value of a number; of a name the number of its tile, once that is known. */
        int valueOf(int token) {
            return token >= 0 && token < count ? values[token] : 0;
        }

        void setValue(int token, int value) {
            if (token >= 0 && token < count) {
                values[token] = value;
            }
        }

        boolean areSameWords(int token, int other) {
            if (token < 0 || token >= count || other < 0 || other >= count) {
                return false;
            }
            int length = ends[token] - starts[token];
            return length == ends[other] - starts[other] && tape.saysSame(starts[token], starts[other], length);
        }
    }

    /** Reads the tokens by the grammar; where that fails, next is the token of error 1. */
    private static final class Grammar {
        private final Tokens tokens;
        private final Program draft;
        private Kind kind = Kind.END;
        int next;

        Grammar(Tokens tokens, Program draft) {
            this.tokens = tokens;
            this.draft = draft;
        }

        boolean readsGame() {
            next = 0;
            kind = tokens.kindOf(next);
            boolean good = !accept(Kind.BOARD)
                    || accept(Kind.NUMBER) && accept(Kind.BY) && accept(Kind.NUMBER) && accept(Kind.SEMICOLON);
            for (int lines = 0; lines < MOST_TOKENS && good && kind != Kind.END; lines++) {
                good = (kind == Kind.TILE ? readsTile() : readsOrder()) && accept(Kind.SEMICOLON);
            }
            return good && kind == Kind.END;
        }

        private boolean readsTile() {
            return accept(Kind.TILE) && accept(Kind.NAME)
                    && accept(Kind.NUMBER) && accept(Kind.NUMBER) && accept(Kind.NUMBER);
        }

        private boolean readsOrder() {
            Kind order = kind;
            if (!accept(Kind.PUT) && !accept(Kind.TAKE) && !accept(Kind.FIT)) {
                return false;
            }
            draft.beginOrder(order, next);
            boolean good = accept(Kind.NAME);
            if (good && order == Kind.PUT) {
                good = accept(Kind.AT) && readsSum(0) && accept(Kind.COMMA) && readsSum(0)
                        && accept(Kind.TURNED) && readsSum(0);
            }
            draft.beginTest();
            if (good && accept(Kind.WHEN)) {
                good = readsTest(0);
            }
            draft.endOrder();
            return good;
        }

        private boolean readsTest(int depth) {
            boolean good = readsBoth(depth);
            for (int n = 0; n < MOST_TOKENS && good && accept(Kind.OR); n++) {
                good = readsBoth(depth) && draft.add(Kind.OR, next);
            }
            return good;
        }

        private boolean readsBoth(int depth) {
            boolean good = readsSingle(depth);
            for (int n = 0; n < MOST_TOKENS && good && accept(Kind.AND); n++) {
                good = readsSingle(depth) && draft.add(Kind.AND, next);
            }
            return good;
        }

        private boolean readsSingle(int depth) {
            Kind first = kind;
            switch (first) {
                case NOT:
                    return depth < DEEPEST && accept(Kind.NOT) && readsSingle(depth + 1)
                            && draft.add(Kind.NOT, next);
                case OPEN_TEST:
                    return depth < DEEPEST && accept(Kind.OPEN_TEST) && readsTest(depth + 1)
                            && accept(Kind.CLOSE_TEST);
                case ON:
                case FITS:
                    return accept(first) && draft.add(first, next) && accept(Kind.NAME);
                default:
                    break;
            }
            if (!readsSum(depth)) {
                return false;
            }
            Kind sign = kind;
            return (accept(Kind.LESS) || accept(Kind.MORE) || accept(Kind.EQUAL)
                    || accept(Kind.AT_MOST) || accept(Kind.AT_LEAST))
                    && readsSum(depth) && draft.add(sign, next);
        }

        private boolean readsSum(int depth) {
            boolean good = readsProduct(depth);
            Kind sign = kind;
            for (int n = 0; n < MOST_TOKENS && good && (accept(Kind.PLUS) || accept(Kind.MINUS)); n++) {
                good = readsProduct(depth) && draft.add(sign, next);
                sign = kind;
            }
            return good;
        }

        private boolean readsProduct(int depth) {
            boolean good = readsValue(depth);
            Kind sign = kind;
            for (int n = 0; n < MOST_TOKENS && good && (accept(Kind.TIMES) || accept(Kind.OVER)); n++) {
                good = readsValue(depth) && draft.add(sign, next);
                sign = kind;
            }
            return good;
        }

        private boolean readsValue(int depth) {
            Kind first = kind;
            switch (first) {
                case NUMBER:
                case ROUND:
                case PLACED:
                case MATCHES:
                case POINTS:
                case RINGS:
                case FREE:
                    return draft.add(first, next) && accept(first);
                case WAYS:
                    return accept(Kind.WAYS) && accept(Kind.OF) && draft.add(Kind.WAYS, next) && accept(Kind.NAME);
                case MINUS:
                    return depth < DEEPEST && accept(Kind.MINUS) && readsValue(depth + 1)
                            && draft.add(Kind.NEGATE, next);
                case OPEN:
                    return depth < DEEPEST && accept(Kind.OPEN) && readsSum(depth + 1) && accept(Kind.CLOSE);
                case MIN:
                case MAX:
                    return accept(first) && depth < DEEPEST && accept(Kind.OPEN) && readsSum(depth + 1)
                            && accept(Kind.COMMA) && readsSum(depth + 1) && accept(Kind.CLOSE)
                            && draft.add(first, next);
                default:
                    return false;
            }
        }

        private boolean accept(Kind wanted) {
            if (kind != wanted) {
                return false;
            }
            next++;
            kind = tokens.kindOf(next);
            return true;
        }
    }

    /** Looks for the errors 2 to 5 in tokens that are a game, and tells the draft its board and tiles. */
    private static final class Meaning {
        private static final int SMALLEST_SIDE = 3;
        private static final int GREATEST_SIDE = 7;

        private final Tokens tokens;
        private final Program draft;
        private final int[] names = new int[MOST_TILES];
        private int nameCount;
        private int orderCount;
        private Kind line = Kind.END;
        int token;

        Meaning(Tokens tokens, Program draft) {
            this.tokens = tokens;
            this.draft = draft;
        }

        int firstError() {
            nameCount = 0;
            orderCount = 0;
            line = Kind.END;
            for (token = 0; token < tokens.count; token++) {
                int error = errorAtToken();
                if (error != 0) {
                    return error;
                }
            }
            draft.resolve(tokens);
            return 0;
        }

        private int errorAtToken() {
            Kind kind = tokens.kindOf(token);
            switch (kind) {
                case BOARD:
                case TILE:
                    line = kind;
                    return 0;
                case PUT:
                case TAKE:
                case FIT:
                    line = kind;
                    orderCount++;
                    return orderCount > MOST_ORDERS ? 4 : 0;
                case NAME:
                    return errorOfName(tileNamed());
                case NUMBER:
                    return errorOfNumber(tokens.valueOf(token));
                default:
                    return 0;
            }
        }

        private int errorOfName(int tile) {
            if (line != Kind.TILE) {
                tokens.setValue(token, tile);
                return tile < 0 ? 3 : 0;
            }
            if (tile >= 0) {
                return 2;
            }
            if (nameCount >= MOST_TILES) {
                return 4;
            }
            names[nameCount] = token;
            nameCount++;
            return 0;
        }

        /** The tile told ahead whose name is the token, -1 without one. */
        private int tileNamed() {
            for (int tile = 0; tile < nameCount; tile++) {
                if (tokens.areSameWords(token, names[tile])) {
                    return tile;
                }
            }
            return -1;
        }

        private int errorOfNumber(int number) {
            if (line == Kind.BOARD) {
                draft.addSide(number);
                return number < SMALLEST_SIDE || number > GREATEST_SIDE ? 5 : 0;
            }
            if (line == Kind.TILE) {
                draft.addTileNumber(number);
                return number >= DIGITS ? 5 : 0;
            }
            return 0;
        }
    }

    /** One order: its steps from sums to test leave the place of a put, those from test to end its test. */
    private static final class Order {
        Kind kind = Kind.END;
        int tile;
        int sums;
        int test;
        int end;

        void copy(Order other) {
            kind = other.kind;
            tile = other.tile;
            sums = other.sums;
            test = other.test;
            end = other.end;
        }
    }

    /** A game as it was told: board, tiles and orders; sums and tests are steps for a stack. */
    private static final class Program {
        private static final int USUAL_SIDE = 5;

        int columns = USUAL_SIDE;
        int rows = USUAL_SIDE;
        private int sides;
        private final int[] tileNumbers = new int[MOST_TILES * PARTS];
        private int tileNumberCount;
        final Order[] orders = new Order[MOST_ORDERS];
        int orderCount;
        private final Kind[] steps = new Kind[MOST_TOKENS];
        private final int[] operands = new int[MOST_TOKENS];
        private int stepCount;

        Program() {
            for (int i = 0; i < orders.length; i++) {
                orders[i] = new Order();
            }
        }

        void clear() {
            columns = USUAL_SIDE;
            rows = USUAL_SIDE;
            sides = 0;
            tileNumberCount = 0;
            orderCount = 0;
            stepCount = 0;
        }

        void addSide(int side) {
            if (sides == 0) {
                columns = side;
            } else {
                rows = side;
            }
            sides++;
        }

        void addTileNumber(int number) {
            if (tileNumberCount < tileNumbers.length) {
                tileNumbers[tileNumberCount] = number;
                tileNumberCount++;
            }
        }

        int tileCount() {
            return tileNumberCount / PARTS;
        }

        int tileNumber(int index) {
            return index >= 0 && index < tileNumberCount ? tileNumbers[index] : 0;
        }

        void beginOrder(Kind kind, int name) {
            if (orderCount < orders.length) {
                Order order = orders[orderCount];
                order.kind = kind;
                order.tile = name;
                order.sums = stepCount;
            }
        }

        void beginTest() {
            if (orderCount < orders.length) {
                orders[orderCount].test = stepCount;
            }
        }

        void endOrder() {
            if (orderCount < orders.length) {
                orders[orderCount].end = stepCount;
                orderCount++;
            }
        }

        /** Adds a step; no token makes more than one, so there is always room. */
        boolean add(Kind step, int token) {
            if (stepCount >= steps.length) {
                return false;
            }
            steps[stepCount] = step;
            operands[stepCount] = token;
            stepCount++;
            return true;
        }

        /** Puts what the tokens mean, which is only known behind the grammar, in the place of the tokens. */
        void resolve(Tokens tokens) {
            for (int i = 0; i < stepCount; i++) {
                operands[i] = tokens.valueOf(operands[i]);
            }
            for (int i = 0; i < orderCount; i++) {
                orders[i].tile = tokens.valueOf(orders[i].tile);
            }
        }

        Kind step(int index) {
            return index >= 0 && index < stepCount ? steps[index] : Kind.END;
        }

        int operand(int index) {
            return index >= 0 && index < stepCount ? operands[index] : 0;
        }

        void copy(Program other) {
            columns = other.columns;
            rows = other.rows;
            tileNumberCount = other.tileNumberCount;
            System.arraycopy(other.tileNumbers, 0, tileNumbers, 0, tileNumbers.length);
            orderCount = other.orderCount;
            for (int i = 0; i < orders.length; i++) {
                orders[i].copy(other.orders[i]);
            }
            stepCount = other.stepCount;
            for (int i = 0; i < stepCount; i++) {
                steps[i] = other.steps[i];
                operands[i] = other.operands[i];
            }
        }
    }

    /** The board with its tiles. Cells and tiles that its methods are given must be there. */
    private static final class Board {
        private static final int[] COLUMN_STEPS = {1, 0, -1, -1, 0, 1};
        private static final int[] ROW_STEPS = {0, 1, 1, 0, -1, -1};

        int columns;
        int rows;
        int cellCount;
        int tileCount;
        int placed;
        final int[] tileOn = new int[MOST_CELLS];
        final int[] cellUnder = new int[MOST_TILES];
        final int[] turnOn = new int[MOST_TILES];
        private final int[] tileNumbers = new int[MOST_TILES * PARTS];
        /** For tile, edge and number the turns, a bit each, with which the tile has the number there. */
        private final int[] turnsWith = new int[MOST_TILES * EDGES * DIGITS];
        /** For cell and edge the cell beside it, -1 off the board. */
        private final int[] beside = new int[MOST_CELLS * EDGES];
        /** For cell and edge the number that the tile beside it has where they touch, -1 without one. */
        private final int[] facing = new int[MOST_CELLS * EDGES];
        private final int[] tilesBeside = new int[MOST_CELLS];
        private final int[] keptCells = new int[MOST_TILES];
        private final int[] keptTurns = new int[MOST_TILES];
        private final int[] queue = new int[MOST_CELLS];
        /** For each cell its group, counted from 1, as the groups are counted; 0 without one. */
        private final int[] groupOf = new int[MOST_CELLS];

        void begin(Program program) {
            columns = program.columns;
            rows = program.rows;
            cellCount = Math.min(columns * rows, MOST_CELLS);
            tileCount = Math.min(program.tileCount(), MOST_TILES);
            placed = 0;
            Arrays.fill(tileOn, -1);
            Arrays.fill(cellUnder, -1);
            Arrays.fill(turnOn, 0);
            Arrays.fill(facing, -1);
            Arrays.fill(tilesBeside, 0);
            for (int cell = 0; cell < cellCount; cell++) {
                findCellsBeside(cell);
            }
            Arrays.fill(turnsWith, 0);
            for (int tile = 0; tile < tileCount; tile++) {
                learnTile(tile, program);
            }
        }

        private void findCellsBeside(int cell) {
            int column = columns > 0 ? cell % columns : 0;
            int row = columns > 0 ? cell / columns : 0;
            for (int edge = 0; edge < EDGES; edge++) {
                int c = column + COLUMN_STEPS[edge];
                int r = row + ROW_STEPS[edge];
                boolean there = c >= 0 && c < columns && r >= 0 && r < rows;
                beside[cell * EDGES + edge] = there ? r * columns + c : -1;
            }
        }

        private void learnTile(int tile, Program program) {
            for (int part = 0; part < PARTS; part++) {
                tileNumbers[tile * PARTS + part] = program.tileNumber(tile * PARTS + part);
            }
            for (int edge = 0; edge < EDGES; edge++) {
                for (int turn = 0; turn < EDGES; turn++) {
                    int number = numberOf(tile, edge, turn);
                    if (number >= 0 && number < DIGITS) {
                        turnsWith[(tile * EDGES + edge) * DIGITS + number] |= 1 << turn;
                    }
                }
            }
        }

        boolean knows(int tile) {
            return tile >= 0 && tile < tileCount;
        }

        boolean lies(int tile) {
            return knows(tile) && cellUnder[tile] >= 0;
        }

        int numberOf(int tile, int edge, int turn) {
            int unturnedEdge = (edge + EDGES - turn) % EDGES;
            return tileNumbers[tile * PARTS + unturnedEdge / 2];
        }

        /** The turns, a bit each, with which a tile fits at a cell. */
        private int turnsFitting(int tile, int cell) {
            if (tileOn[cell] >= 0 || cellUnder[tile] >= 0) {
                return 0;
            }
            if (placed == 0) {
                return ALL_TURNS;
            }
            if (tilesBeside[cell] == 0) {
                return 0;
            }
            int turns = ALL_TURNS;
            for (int edge = 0; edge < EDGES; edge++) {
                int number = facing[cell * EDGES + edge];
                if (number >= 0) {
                    turns &= turnsWith[(tile * EDGES + edge) * DIGITS + number];
                }
            }
            return turns;
        }

        boolean fitsSo(int tile, int cell, int turn) {
            return (turnsFitting(tile, cell) >> turn & 1) == 1;
        }

        int countWays(int tile) {
            int ways = 0;
            for (int cell = 0; cell < cellCount && knows(tile); cell++) {
                ways += Integer.bitCount(turnsFitting(tile, cell));
            }
            return ways;
        }

        /** The smallest cell where a tile fits, -1 without one. */
        int firstCell(int tile) {
            for (int cell = 0; cell < cellCount && knows(tile); cell++) {
                if (turnsFitting(tile, cell) != 0) {
                    return cell;
                }
            }
            return -1;
        }

        int firstTurn(int tile, int cell) {
            int turns = turnsFitting(tile, cell);
            int turn = 0;
            while (turn < EDGES - 1 && (turns >> turn & 1) == 0) {
                turn++;
            }
            return turn;
        }

        int firstClash(int tile, int cell, int turn) {
            for (int edge = 0; edge < EDGES; edge++) {
                int number = facing[cell * EDGES + edge];
                if (number >= 0 && number != numberOf(tile, edge, turn)) {
                    return edge;
                }
            }
            return -1;
        }

        int countOpenCells() {
            int open = 0;
            for (int cell = 0; cell < cellCount; cell++) {
                if (tileOn[cell] < 0 && tilesBeside[cell] > 0) {
                    open++;
                }
            }
            return open;
        }

        int differentTurns(int tile) {
            int first = tileNumbers[tile * PARTS];
            boolean same = first == tileNumbers[tile * PARTS + 1] && first == tileNumbers[tile * PARTS + 2];
            return same ? 1 : EDGES;
        }

        void put(int tile, int cell, int turn) {
            tileOn[cell] = tile;
            cellUnder[tile] = cell;
            turnOn[tile] = turn;
            placed++;
            for (int edge = 0; edge < EDGES; edge++) {
                int other = beside[cell * EDGES + edge];
                if (other >= 0) {
                    facing[other * EDGES + (edge + EDGES / 2) % EDGES] = numberOf(tile, edge, turn);
                    tilesBeside[other]++;
                }
            }
        }

        void lift(int tile) {
            int cell = cellUnder[tile];
            if (cell < 0) {
                return;
            }
            tileOn[cell] = -1;
            cellUnder[tile] = -1;
            placed--;
            for (int edge = 0; edge < EDGES; edge++) {
                int other = beside[cell * EDGES + edge];
                if (other >= 0) {
                    facing[other * EDGES + (edge + EDGES / 2) % EDGES] = -1;
                    tilesBeside[other]--;
                }
            }
        }

        /** How many points a tile that fits at a cell without one brings there. */
        int pointsFor(int cell) {
            int points = 0;
            for (int edge = 0; edge < EDGES; edge++) {
                points += Math.max(facing[cell * EDGES + edge], 0);
                int other = beside[cell * EDGES + edge];
                if (other >= 0 && tilesBeside[other] == EDGES - 1) {
                    points += RING_POINTS;
                }
            }
            return points;
        }

        /** The smallest of the cells where a tile fits and brings the most points, -1 without one. */
        int richestCell(int tile) {
            int best = -1;
            int most = -1;
            for (int cell = 0; cell < cellCount; cell++) {
                if (turnsFitting(tile, cell) != 0 && pointsFor(cell) > most) {
                    best = cell;
                    most = pointsFor(cell);
                }
            }
            return best;
        }

        int richestTile() {
            int best = -1;
            int most = -1;
            for (int tile = 0; tile < tileCount; tile++) {
                int cell = richestCell(tile);
                if (cell >= 0 && pointsFor(cell) > most) {
                    best = tile;
                    most = pointsFor(cell);
                }
            }
            return best;
        }

        int matchesOn(int cell) {
            return tileOn[cell] >= 0 ? tilesBeside[cell] : 0;
        }

        boolean isEncircled(int cell) {
            return tilesBeside[cell] == EDGES;
        }

        int countMatches() {
            int ends = 0;
            for (int cell = 0; cell < cellCount; cell++) {
                ends += matchesOn(cell);
            }
            return ends / 2;
        }

        int sumOfMatches() {
            int sum = 0;
            for (int cell = 0; cell < cellCount; cell++) {
                // Half of the edges are enough: the others are those of the cells beside.
                for (int edge = 0; tileOn[cell] >= 0 && edge < EDGES / 2; edge++) {
                    sum += Math.max(facing[cell * EDGES + edge], 0);
                }
            }
            return sum;
        }

        int countRings() {
            int rings = 0;
            for (int cell = 0; cell < cellCount; cell++) {
                if (isEncircled(cell)) {
                    rings++;
                }
            }
            return rings;
        }

        int countPoints() {
            return sumOfMatches() + RING_POINTS * countRings();
        }

        int countGroups() {
            Arrays.fill(groupOf, 0);
            int groups = 0;
            for (int cell = 0; cell < cellCount; cell++) {
                if (tileOn[cell] >= 0 && groupOf[cell] == 0) {
                    groups++;
                    markGroup(cell, groups);
                }
            }
            return groups;
        }

        private void markGroup(int start, int group) {
            queue[0] = start;
            groupOf[start] = group;
            int length = 1;
            for (int next = 0; next < length && next < cellCount; next++) {
                for (int edge = 0; edge < EDGES; edge++) {
                    int other = beside[queue[next] * EDGES + edge];
                    if (other >= 0 && tileOn[other] >= 0 && groupOf[other] == 0 && length < cellCount) {
                        groupOf[other] = group;
                        queue[length] = other;
                        length++;
                    }
                }
            }
        }

        void keep() {
            System.arraycopy(cellUnder, 0, keptCells, 0, MOST_TILES);
            System.arraycopy(turnOn, 0, keptTurns, 0, MOST_TILES);
        }

        void bringBack() {
            for (int tile = 0; tile < tileCount; tile++) {
                lift(tile);
            }
            for (int tile = 0; tile < tileCount; tile++) {
                if (keptCells[tile] >= 0) {
                    put(tile, keptCells[tile], keptTurns[tile]);
                }
            }
        }
    }

    /** Lets rounds of the orders go by on the board. */
    private static final class Game {
        private final Board board;
        private final Program program = new Program();
        private final int[] stack = new int[MOST_TOKENS];
        private int height;
        private int keptRounds;
        int roundsGone;

        Game(Board board) {
            this.board = board;
            board.begin(program);
        }

        void begin(Program told) {
            program.copy(told);
            board.begin(program);
            roundsGone = 0;
        }

        /** Answers how many orders were carried out. */
        int playRound() {
            int carriedOut = 0;
            for (int i = 0; i < program.orderCount; i++) {
                if (carriesOut(program.orders[i])) {
                    carriedOut++;
                }
            }
            roundsGone++;
            return carriedOut;
        }

        void keep() {
            keptRounds = roundsGone;
            board.keep();
        }

        void bringBack() {
            roundsGone = keptRounds;
            board.bringBack();
        }

        private boolean carriesOut(Order order) {
            if (!board.knows(order.tile)) {
                return false;
            }
            if (order.test < order.end) {
                reckon(order.test, order.end);
                if (pop() == 0) {
                    return false;
                }
            }
            switch (order.kind) {
                case PUT:
                    return puts(order);
                case TAKE:
                    return takes(order.tile);
                case FIT:
                    return fitsIn(order.tile);
                default:
                    return false;
            }
        }

        private boolean puts(Order order) {
            reckon(order.sums, order.test);
            int turn = remainder(pop(), EDGES);
            int row = remainder(pop(), board.rows);
            int column = remainder(pop(), board.columns);
            int cell = row * board.columns + column;
            if (cell >= board.cellCount || !board.fitsSo(order.tile, cell, turn)) {
                return false;
            }
            board.put(order.tile, cell, turn);
            return true;
        }

        private boolean takes(int tile) {
            if (!board.lies(tile)) {
                return false;
            }
            board.lift(tile);
            return true;
        }

        private boolean fitsIn(int tile) {
            int cell = board.firstCell(tile);
            if (cell < 0) {
                return false;
            }
            board.put(tile, cell, board.firstTurn(tile, cell));
            return true;
        }

        /** Takes steps on an empty stack. */
        private void reckon(int begin, int end) {
            height = 0;
            for (int i = begin; i < end; i++) {
                Kind step = program.step(i);
                switch (step) {
                    case NUMBER:
                        push(program.operand(i));
                        break;
                    case ROUND:
                        push(roundsGone);
                        break;
                    case PLACED:
                        push(board.placed);
                        break;
                    case MATCHES:
                        push(board.countMatches());
                        break;
                    case POINTS:
                        push(board.countPoints());
                        break;
                    case RINGS:
                        push(board.countRings());
                        break;
                    case FREE:
                        push(board.cellCount - board.placed);
                        break;
                    case WAYS:
                        push(board.countWays(program.operand(i)));
                        break;
                    case ON:
                        push(board.lies(program.operand(i)) ? 1 : 0);
                        break;
                    case FITS:
                        push(board.firstCell(program.operand(i)) >= 0 ? 1 : 0);
                        break;
                    case NEGATE:
                        push(-pop());
                        break;
                    case NOT:
                        push(pop() == 0 ? 1 : 0);
                        break;
                    default:
                        int right = pop();
                        push(combined(step, pop(), right));
                        break;
                }
            }
        }

        private static int combined(Kind step, int left, int right) {
            switch (step) {
                case PLUS:
                    return left + right;
                case MINUS:
                    return left - right;
                case TIMES:
                    return left * right;
                case OVER:
                    return right == 0 ? 0 : left / right;
                case MIN:
                    return Math.min(left, right);
                case MAX:
                    return Math.max(left, right);
                default:
                    return holdsBetween(step, left, right) ? 1 : 0;
            }
        }

        private static boolean holdsBetween(Kind step, int left, int right) {
            switch (step) {
                case LESS:
                    return left < right;
                case MORE:
                    return left > right;
                case EQUAL:
                    return left == right;
                case AT_MOST:
                    return left <= right;
                case AT_LEAST:
                    return left >= right;
                case AND:
                    return left != 0 && right != 0;
                case OR:
                    return left != 0 || right != 0;
                default:
                    return false;
            }
        }

        private static int remainder(int value, int divisor) {
            return divisor > 0 ? Math.floorMod(value, divisor) : 0;
        }

        private void push(int value) {
            if (height < stack.length) {
                stack[height] = value;
                height++;
            }
        }

        private int pop() {
            if (height <= 0) {
                return 0;
            }
            height--;
            return stack[height];
        }
    }
}
