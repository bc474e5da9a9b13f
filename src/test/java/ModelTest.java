import java.util.ArrayList;
import java.util.HashMap;
import java.util.HashSet;
import java.util.List;
import java.util.Map;
import java.util.Set;

/** Compares the class with a slow model of the document, on many games and calls made up by a fixed sequence. */
public final class ModelTest {
    private static final String[] WORDS = {"board", "by", "tile", "put", "at", "turned", "take", "fit", "when", "round",
        "placed", "matches", "points", "rings", "free", "ways", "of", "on", "fits", "not", "and", "or", "min", "max",
        "a", "b", "c", "z", "0", "1", "9", "10", "(", ")", "[", "]", ";", ",", "+", "-", "*", "/", "<", ">", "=", "<=",
        ">=", "?", "a2345678901", "1234567"};

    private static long seed = 20261119;

    public static void main(String[] args) {
        for (int n = 0; n < 700; n++) {
            play(n, game());
        }
        for (int n = 0; n < 250; n++) {
            play(n, ringGame());
        }
        for (int n = 0; n < 2500; n++) {
            teach(n, spoilt(game()));
        }
        for (int n = 0; n < 1500; n++) {
            teach(n, twisted(game()));
        }
        for (int n = 0; n < 1500; n++) {
            teach(n, spoilt(deepGame()));
        }
        eachTokenInEachPlace("board 4 by 5 ; tile a 1 2 3 ; tile b 9 0 9 ; put a at 1 + 2 - 3 , ( 4 * 5 ) / 6 turned - ways"
                + " of a when not on a and [ fits b or 1 < 2 ] ; take a when round > placed or matches >= points ; fit b when"
                + " rings <= free and min ( 1 , 2 ) = max ( 3 , 4 ) ; put b at 0 , 0 turned 0 ; fit a ;");
        eachTokenInEachPlace("tile a 1 2 3 ; fit a when not [ not [ [ not [ not fits a or 1 < - 2 ] and - 1 > ( 2 ) ] or 1 = - (2 )"
                + " ] and - - ( 1 ) >= min ( 2 , 3 ) ] or - - - - - - - - 1 <= 1 and ( ( ( ( ( ( ( ( 1 ) ) ) ) ) ) ) ) < 1 ;");
        eachTokenInEachPlace("tile a 1 2 3 ; put a at min ( 1 , max ( 2 , min ( 3 , max ( 4 , - ( - ( free ) ) ) ) ) ) , 2 turned"
                + " ( ways of a * ( round / ( 3 - ( 4 + ( 5 ) ) ) ) ) ; take a when [ [ [ [ [ [ [ [ 1 < 2 or 3 = 4 ] ] ] ] ] ] ] ] ;");
        Check.close("ModelTest");
    }

    private static int below(int bound) {
        seed = seed * 6364136223846793005L + 1442695040888963407L;
        return (int) ((seed >>> 33) % bound);
    }

    private static String oneOf(String... texts) {
        return texts[below(texts.length)];
    }

    // ---- games made up

    private static String game() {
        StringBuilder text = new StringBuilder();
        if (below(3) > 0) {
            text.append("board ").append(3 + below(3 + below(3))).append(" by ").append(3 + below(3)).append("; ");
        }
        int tiles = below(17);
        int numbers = 1 + below(4);
        for (int n = 0; n < tiles; n++) {
            int first = below(numbers);
            boolean same = below(3) == 0;
            text.append("tile ").append((char) ('a' + n)).append(' ').append(first).append(' ')
                    .append(same ? first : below(numbers)).append(' ').append(same ? first : below(numbers)).append(";");
        }
        int orders = tiles == 0 ? 0 : below(10);
        for (int n = 0; n < orders && text.length() < 1500; n++) {
            text.append(order(tiles)).append(oneOf(";", "; ", " ;\n"));
        }
        return text.toString();
    }

    private static String name(int tiles) {
        return "" + (char) ('a' + below(tiles));
    }

    private static String order(int tiles) {
        String name = name(tiles);
        String order = below(3) == 0
                ? "put " + name + " at " + sum(tiles, 2) + ", " + sum(tiles, 2) + " turned " + sum(tiles, 2)
                : below(3) == 0 ? "take " + name : "fit " + name;
        return below(2) == 0 ? order : order + " when " + test(tiles, 3);
    }

    private static String test(int tiles, int depth) {
        String test = single(tiles, depth);
        int more = below(3);
        for (int n = 0; n < more; n++) {
            test += oneOf(" and ", " or ") + single(tiles, depth);
        }
        return test;
    }

    private static String single(int tiles, int depth) {
        switch (below(depth > 0 ? 6 : 4)) {
            case 0:
                return "on " + name(tiles);
            case 1:
                return "fits " + name(tiles);
            case 4:
                return "not " + single(tiles, depth - 1);
            case 5:
                return "[" + test(tiles, depth - 1) + "]";
            default:
                return sum(tiles, depth) + oneOf("<", ">", " = ", "<=", ">=") + sum(tiles, depth);
        }
    }

    private static String sum(int tiles, int depth) {
        String sum = value(tiles, depth);
        int more = below(3);
        for (int n = 0; n < more; n++) {
            sum += oneOf("+", " - ", " * ", "/") + value(tiles, depth);
        }
        return sum;
    }

    private static String value(int tiles, int depth) {
        switch (below(depth > 0 ? 11 : 8)) {
            case 0:
                return "" + below(4);
            case 1:
                return "" + below(1000000);
            case 2:
                return "round";
            case 3:
                return "ways of " + name(tiles);
            case 8:
                return "-" + value(tiles, depth - 1);
            case 9:
                return "(" + sum(tiles, depth - 1) + ")";
            case 10:
                return oneOf("min", "max") + "(" + sum(tiles, depth - 1) + "," + sum(tiles, depth - 1) + ")";
            default:
                return oneOf("placed", "matches", "points", "rings", "free");
        }
    }

    private static String deepGame() {
        StringBuilder text = new StringBuilder("tile a 1 2 3; fit a when ");
        StringBuilder behind = new StringBuilder();
        int depth = 6 + below(4);
        boolean inSum = false;
        for (int n = 0; n < depth; n++) {
            int kind = below(inSum ? 4 : 6);
            inSum = kind < 4;
            text.append(new String[] {"-", "(", "min(", "2+max(round,", "not ", "["}[kind]);
            behind.insert(0, new String[] {"", ")", ",points*2)", ")", "", "]"}[kind]);
            if (inSum && n < depth - 1 && below(8) == 0) {
                text.append("1/");
            }
        }
        text.append(inSum ? "free" : "on a");
        if (inSum) {
            // The sum ends ahead of what stands behind a test.
            int end = behind.indexOf("]") < 0 ? behind.length() : behind.indexOf("]");
            behind.insert(end, "<3");
        }
        return text.append(behind).append(";").toString();
    }

    /** Tiles that are put around some cell from round to round. */
    private static String ringGame() {
        int columns = 3 + below(3);
        int rows = 3 + below(3);
        int column = 1 + below(columns - 2);
        int row = 1 + below(rows - 2);
        int[][] around = {{1, 0}, {0, 1}, {-1, 1}, {-1, 0}, {0, -1}, {1, -1}};
        StringBuilder text = new StringBuilder("board " + columns + " by " + rows + ";");
        int tiles = 6 + below(3);
        int number = below(10);
        for (int n = 0; n < tiles; n++) {
            text.append("tile ").append((char) ('a' + n)).append((" " + number).repeat(3)).append(";");
        }
        int orders = 5 + below(4);
        for (int n = 0; n < orders; n++) {
            int[] step = around[n % 6];
            text.append("put ").append((char) ('a' + n % tiles)).append(" at ").append(column + step[0]).append(", ")
                    .append(row + step[1]).append(" turned round when round >= ").append(below(9) * n / 3).append(";");
        }
        if (below(2) == 0) {
            text.append("take ").append(name(tiles)).append(" when rings > ").append(below(2)).append(";");
        }
        return text.toString();
    }

    /** A text with other names and numbers in some places, or with some lines twice. */
    private static String twisted(String text) {
        StringBuilder twisted = new StringBuilder();
        int rate = 3 + below(60);
        for (String line : text.split("(?<=;)")) {
            StringBuilder copy = new StringBuilder();
            for (Token token : Token.cut(line)) {
                boolean other = below(rate) == 0;
                boolean change = other && (token.kind.equals("name") || token.kind.equals("number"));
                copy.append(!change ? token.text : token.kind.equals("name") ? oneOf("a", "b", "c", "zz", "ab")
                        : oneOf("0", "2", "3", "7", "8", "9", "10", "09", "100000"));
                copy.append(" ");
            }
            boolean order = line.matches("(?s)\\s*(put|take|fit) .*");
            twisted.append(copy.toString().repeat(order && below(2) == 0 ? 1 + below(6) : 1));
        }
        return twisted.length() > 2000 ? text : twisted.toString();
    }

    private static String spoilt(String text) {
        List<String> tokens = new ArrayList<>();
        for (Token token : Token.cut(text)) {
            tokens.add(token.text);
        }
        int changes = below(3);
        for (int n = 0; n < changes && !tokens.isEmpty(); n++) {
            int at = below(tokens.size());
            switch (below(4)) {
                case 0:
                    tokens.remove(at);
                    break;
                case 1:
                    tokens.add(at, oneOf(WORDS));
                    break;
                case 2:
                    tokens.set(at, oneOf(WORDS));
                    break;
                default:
                    tokens.add(at, tokens.get(below(tokens.size())));
                    break;
            }
        }
        StringBuilder spoilt = new StringBuilder();
        boolean tight = below(3) == 0;
        for (String token : tokens) {
            spoilt.append(token);
            if (!tight || Character.isLetterOrDigit(token.charAt(0)) || below(4) == 0) {
                spoilt.append(oneOf(" ", " ", "  ", "\n"));
            }
        }
        String answer = below(2) == 0 ? spoilt.toString() : spoilt.toString().trim();
        return answer.length() > 2000 ? answer.substring(0, 2000) : answer;
    }

    // ---- the comparisons

    /** Puts each kind of token behind each beginning of a game that has no error. */
    private static void eachTokenInEachPlace(String text) {
        List<Token> tokens = Token.cut(text);
        for (int place = 0; place <= tokens.size(); place++) {
            Set<String> allowed = Rules.kindsBehind(tokens.subList(0, place));
            String start = place < tokens.size() ? text.substring(0, tokens.get(place).start) : text + " ";
            for (String word : WORDS) {
                Token token = Token.cut(word).get(0);
                String whole = start + word;
                RingDomino x = new RingDomino();
                boolean good = allowed.contains(token.kind);
                // What is right so far ends a game with a semicolon, and else it goes on behind the end of the tape.
                boolean ends = good && word.equals(";");
                Check.equal("teach of " + whole, Check.teach(x, whole), ends ? 0 : 1);
                Check.equal("errorAt of " + whole, x.errorAt(), ends ? -1 : good ? whole.length() : start.length());
            }
        }
    }

    /** The object that is taught text behind text, and what it has to know; 512 calls are enough for four texts. */
    private static RingDomino pupil = new RingDomino();
    private static Model known = new Model();

    private static void teach(int n, String text) {
        if (n % 4 == 0) {
            pupil = new RingDomino();
            known = new Model();
        }
        Model model = new Model();
        model.teach(text);
        Check.equal("text " + n + ": teach of " + text, Check.teach(pupil, text), model.error);
        Check.equal("text " + n + ": errorAt of " + text, pupil.errorAt(), model.errorAt);
        known = model.error == 0 ? model : known;
        Check.equal("text " + n + ": digest of " + text, pupil.digest(), known.digest());
        Check.equal("text " + n + ": playRounds of " + text, pupil.playRounds(2), known.playRounds(2));
        Check.equal("text " + n + ": digest behind two rounds of " + text, pupil.digest(), known.digest());
    }

    private static void play(int n, String text) {
        RingDomino x = Check.taught("board 6 by 6; tile a 1 2 3; tile b 1 2 3; fit a; put b at 1, 0 turned round;");
        x.playRounds(6);
        Model model = new Model();
        model.teach(text);
        Check.equal("game " + n + ": teach of " + text, Check.teach(x, text), model.error);
        // With up to 110 calls ahead, 8 for each change and 43 for each comparison these stay below 512.
        for (int call = 0; call < 24 && model.error == 0; call++) {
            String what = "game " + n + ", call " + call + ", of " + text + ": ";
            change(what, x, model);
            if (call % 6 == 5) {
                compare(what, x, model);
            }
        }
    }

    private static String answerOf(java.util.function.LongSupplier call) {
        try {
            return "" + call.getAsLong();
        } catch (IndexOutOfBoundsException | IllegalStateException | IllegalArgumentException e) {
            return e.getClass().getSimpleName();
        }
    }

    private static void same(String what, java.util.function.LongSupplier got, java.util.function.LongSupplier due) {
        String answer = answerOf(got);
        String wanted = answerOf(due);
        Check.holds(what + " answered " + answer + ", due is " + wanted + ", so that it", answer.equals(wanted));
    }

    private static void change(String what, RingDomino x, Model model) {
        int tile = below(model.tiles.size() + 1) - below(2);
        int cell = below(model.columns * model.rows + 1) - below(2);
        int turn = below(7) - below(2);
        int rounds = below(10) == 0 ? below(30) : 1 + below(3);
        switch (below(7)) {
            case 0:
            case 1:
                same(what + "putTile(" + tile + "," + cell + "," + turn + ")", () -> x.putTile(tile, cell, turn),
                        () -> model.putTile(tile, cell, turn));
                break;
            case 2:
                same(what + "takeTile(" + tile + ")", () -> x.takeTile(tile), () -> model.takeTile(tile));
                break;
            case 3:
                same(what + "fitTile(" + tile + ")", () -> x.fitTile(tile), () -> model.fitTile(tile));
                break;
            case 4:
                same(what + "playRounds(" + rounds + ")", () -> x.playRounds(rounds), () -> model.playRounds(rounds));
                break;
            default:
                int best = x.bestTile();
                if (best >= 0) {
                    same(what + "put the best", () -> x.putTile(best, x.bestCell(best), x.bestTurn(best)),
                            () -> model.putTile(best, model.best(best)[1], model.best(best)[2]));
                }
                break;
        }
        same(what + "edgeAgainst(" + tile + "," + cell + "," + turn + ")", () -> x.edgeAgainst(tile, cell, turn),
                () -> model.edgeAgainst(tile, cell, turn));
        same(what + "fits(" + tile + "," + cell + "," + turn + ")", () -> x.fits(tile, cell, turn) ? 1 : 0,
                () -> model.fitsAsked(tile, cell, turn) ? 1 : 0);
        same(what + "numberAt(" + cell + "," + turn + ")", () -> x.numberAt(cell, turn),
                () -> model.numberAt(cell, turn));
        same(what + "looksToProve(" + tile + ")", () -> x.looksToProve(tile), () -> model.looksToProve(tile));
    }

    private static void compare(String what, RingDomino x, Model model) {
        Check.equal(what + "digest", x.digest(), model.digest());
        Check.equal(what + "points", x.points(), model.points());
        Check.equal(what + "meanMatch", x.meanMatch(), model.meanMatch());
        Check.equal(what + "roundsUntilRing", x.roundsUntilRing(), model.copy().roundsUntilRing());
        int rounds = 1 + below(20);
        Check.equal(what + "pointsAfter(" + rounds + ")", x.pointsAfter(rounds), model.copy().pointsAfter(rounds));
        for (int n = -1; n <= model.tiles.size(); n++) {
            int tile = n;
            same(what + "bestCell(" + n + ")", () -> x.bestCell(tile), () -> model.bestAsked(tile)[1]);
            same(what + "bestTurn(" + n + ")", () -> x.bestTurn(tile), () -> model.bestAsked(tile)[2]);
        }
        Check.equal(what + "digest, all unchanged", x.digest(), model.digest());
    }

    // ---- the model

    private static final class Token {
        final String text;
        final String kind;
        final int start;

        Token(String text, String kind, int start) {
            this.text = text;
            this.kind = kind;
            this.start = start;
        }

        private static final Set<String> KEYWORDS = Set.of("board", "by", "tile", "put", "at", "turned", "take", "fit",
                "when", "round", "placed", "matches", "points", "rings", "free", "ways", "of", "on", "fits", "not",
                "and", "or", "min", "max");

        /** All tokens of a text, without an end and without a limit. */
        static List<Token> cut(String text) {
            List<Token> tokens = new ArrayList<>();
            java.util.regex.Matcher matcher = java.util.regex.Pattern
                    .compile("[ \n]+|([a-z][a-z0-9]*)|([0-9]+)|(<=|>=|[()\\[\\];,+*/<>=-])|(.)",
                            java.util.regex.Pattern.DOTALL)
                    .matcher(text);
            while (matcher.find()) {
                String found = matcher.group();
                if (matcher.group(1) != null) {
                    tokens.add(new Token(found, found.length() > 10 ? "wrong" : KEYWORDS.contains(found) ? found : "name",
                            matcher.start()));
                } else if (matcher.group(2) != null) {
                    tokens.add(new Token(found, found.length() > 6 ? "wrong" : "number", matcher.start()));
                } else if (matcher.group(3) != null) {
                    tokens.add(new Token(found, found, matcher.start()));
                } else if (matcher.group(4) != null) {
                    tokens.add(new Token(found, "wrong", matcher.start()));
                }
            }
            return tokens;
        }
    }

    /** The grammar as rules for each depth, and the sets of what can go on behind each token. */
    private static final class Rules {
        private static final Map<String, List<String[]>> RULES = new HashMap<>();

        private static void rule(String head, String... bodies) {
            List<String[]> list = new ArrayList<>();
            for (String body : bodies) {
                list.add(body.isEmpty() ? new String[0] : body.split(" "));
            }
            RULES.put(head, list);
        }

        static {
            rule("GAME", "BOARD LINES");
            rule("BOARD", "", "board number by number ;");
            rule("LINES", "", "LINES LINE ;");
            rule("LINE", "tile name number number number", "ORDER", "ORDER when TEST0");
            rule("ORDER", "put name at SUM0 , SUM0 turned SUM0", "take name", "fit name");
            for (int d = 0; d <= 8; d++) {
                int e = Math.min(d + 1, 8);
                // At the greatest depth nothing opens: no token is the kind "never".
                String not = d < 8 ? "not" : "never";
                String square = d < 8 ? "[" : "never";
                String round = d < 8 ? "(" : "never";
                String minus = d < 8 ? "-" : "never";
                rule("TEST" + d, "BOTH" + d, "TEST" + d + " or BOTH" + d);
                rule("BOTH" + d, "SINGLE" + d, "BOTH" + d + " and SINGLE" + d);
                rule("SINGLE" + d, not + " SINGLE" + e, square + " TEST" + e + " ]", "on name", "fits name",
                        "SUM" + d + " < SUM" + d, "SUM" + d + " > SUM" + d, "SUM" + d + " = SUM" + d,
                        "SUM" + d + " <= SUM" + d, "SUM" + d + " >= SUM" + d);
                rule("SUM" + d, "PRODUCT" + d, "SUM" + d + " + PRODUCT" + d, "SUM" + d + " - PRODUCT" + d);
                rule("PRODUCT" + d, "VALUE" + d, "PRODUCT" + d + " * VALUE" + d, "PRODUCT" + d + " / VALUE" + d);
                rule("VALUE" + d, "number", "round", "placed", "matches", "points", "rings", "free", "ways of name",
                        minus + " VALUE" + e, round + " SUM" + e + " )",
                        "min " + round + " SUM" + e + " , SUM" + e + " )",
                        "max " + round + " SUM" + e + " , SUM" + e + " )");
            }
        }

        private static final class Item {
            final String head;
            final String[] body;
            final int dot;
            final int origin;
            final String key;

            Item(String head, String[] body, int dot, int origin) {
                this.head = head;
                this.body = body;
                this.dot = dot;
                this.origin = origin;
                key = head + ">" + String.join(" ", body) + "@" + dot + "@" + origin;
            }
        }

        /** The kinds of token that can stand behind the beginning of a game. */
        static Set<String> kindsBehind(List<Token> tokens) {
            List<List<Item>> sets = new ArrayList<>();
            sets.add(new ArrayList<>(List.of(new Item("GAME", RULES.get("GAME").get(0), 0, 0))));
            for (int at = 0; at < tokens.size(); at++) {
                close(sets, at);
                sets.add(behind(sets.get(at), tokens.get(at).kind));
            }
            close(sets, tokens.size());
            Set<String> kinds = new HashSet<>();
            for (Item item : sets.get(tokens.size())) {
                if (item.dot < item.body.length) {
                    kinds.add(item.body[item.dot]);
                }
            }
            return kinds;
        }

        private static List<Item> behind(List<Item> set, String kind) {
            List<Item> next = new ArrayList<>();
            for (Item item : set) {
                if (item.dot < item.body.length && item.body[item.dot].equals(kind)) {
                    next.add(new Item(item.head, item.body, item.dot + 1, item.origin));
                }
            }
            return next;
        }

        /** The index of the first token with which the tokens so far begin no game; their number if the end does. */
        static int firstWrong(List<Token> tokens) {
            List<List<Item>> sets = new ArrayList<>();
            List<Item> first = new ArrayList<>();
            first.add(new Item("GAME", RULES.get("GAME").get(0), 0, 0));
            sets.add(first);
            for (int at = 0; at <= tokens.size(); at++) {
                List<Item> set = sets.get(at);
                close(sets, at);
                if (at == tokens.size()) {
                    for (Item item : set) {
                        if (item.head.equals("GAME") && item.dot == item.body.length) {
                            return -1;
                        }
                    }
                    return at;
                }
                List<Item> next = at < 400 ? behind(set, tokens.get(at).kind) : List.of();
                if (next.isEmpty()) {
                    return at;
                }
                sets.add(next);
            }
            return -1;
        }

        private static void close(List<List<Item>> sets, int at) {
            List<Item> set = sets.get(at);
            Set<String> seen = new HashSet<>();
            for (Item item : set) {
                seen.add(item.key);
            }
            for (int i = 0; i < set.size(); i++) {
                Item item = set.get(i);
                List<Item> more = new ArrayList<>();
                if (item.dot == item.body.length) {
                    for (Item other : new ArrayList<>(sets.get(item.origin))) {
                        if (other.dot < other.body.length && other.body[other.dot].equals(item.head)) {
                            more.add(new Item(other.head, other.body, other.dot + 1, other.origin));
                        }
                    }
                } else if (RULES.containsKey(item.body[item.dot])) {
                    for (String[] body : RULES.get(item.body[item.dot])) {
                        more.add(new Item(item.body[item.dot], body, 0, at));
                    }
                    if (item.body[item.dot].equals("BOARD") || item.body[item.dot].equals("LINES") && item.dot == 1) {
                        // These can be empty, and what is empty may have been completed before.
                        more.add(new Item(item.head, item.body, item.dot + 1, item.origin));
                    }
                }
                if (item.dot < item.body.length && item.body[item.dot].equals("LINES") && item.dot == 0) {
                    more.add(new Item(item.head, item.body, 1, item.origin));
                }
                for (Item one : more) {
                    if (seen.add(one.key)) {
                        set.add(one);
                    }
                }
            }
        }
    }

    private static final class Model {
        int columns = 5;
        int rows = 5;
        int rounds = 0;
        int error = 0;
        int errorAt = -1;
        List<int[]> tiles = new ArrayList<>();
        Map<String, Integer> names = new HashMap<>();
        List<List<Token>> orders = new ArrayList<>();
        /** For each tile that lies its cell and its turn. */
        Map<Integer, int[]> lying = new HashMap<>();

        Model copy() {
            Model copy = new Model();
            copy.columns = columns;
            copy.rows = rows;
            copy.rounds = rounds;
            copy.tiles = tiles;
            copy.names = names;
            copy.orders = orders;
            copy.lying = new HashMap<>(lying);
            return copy;
        }

        /** Only for a new model. */
        void teach(String text) {
            List<Token> tokens = Token.cut(text);
            int wrong = Rules.firstWrong(tokens);
            if (wrong >= 0) {
                tell(1, wrong < tokens.size() ? tokens.get(wrong).start : text.length());
                return;
            }
            List<Token> line = new ArrayList<>();
            for (Token token : tokens) {
                line.add(token);
                if (token.kind.equals(";")) {
                    learn(line);
                    line = new ArrayList<>();
                }
                if (error != 0) {
                    return;
                }
            }
        }

        private void tell(int number, int position) {
            if (error == 0) {
                error = number;
                errorAt = position;
            }
        }

        private void learn(List<Token> line) {
            String first = line.get(0).kind;
            if (first.equals("board")) {
                columns = number(line.get(1));
                rows = number(line.get(3));
                if (columns < 3 || columns > 7) {
                    tell(5, line.get(1).start);
                }
                if (rows < 3 || rows > 7) {
                    tell(5, line.get(3).start);
                }
            } else if (first.equals("tile")) {
                learnTile(line);
            } else {
                if (orders.size() == 16) {
                    tell(4, line.get(0).start);
                }
                for (Token token : line) {
                    if (token.kind.equals("name") && !names.containsKey(token.text)) {
                        tell(3, token.start);
                    }
                }
                orders.add(line);
            }
        }

        private void learnTile(List<Token> line) {
            if (names.containsKey(line.get(1).text)) {
                tell(2, line.get(1).start);
            } else if (tiles.size() == 16) {
                tell(4, line.get(1).start);
            }
            for (int n = 2; n < 5; n++) {
                if (number(line.get(n)) > 9) {
                    tell(5, line.get(n).start);
                }
            }
            names.put(line.get(1).text, tiles.size());
            tiles.add(new int[] {number(line.get(2)), number(line.get(3)), number(line.get(4))});
        }

        private static int number(Token token) {
            return Integer.parseInt(token.text);
        }

        // ---- the board

        int beside(int cell, int edge) {
            int column = cell % columns;
            int row = cell / columns;
            switch (edge) {
                case 0:
                    return at(column + 1, row);
                case 1:
                    return at(column, row + 1);
                case 2:
                    return at(column - 1, row + 1);
                case 3:
                    return at(column - 1, row);
                case 4:
                    return at(column, row - 1);
                default:
                    return at(column + 1, row - 1);
            }
        }

        private int at(int column, int row) {
            return column < 0 || row < 0 || column >= columns || row >= rows ? -1 : row * columns + column;
        }

        int tileAt(int cell) {
            for (Map.Entry<Integer, int[]> entry : lying.entrySet()) {
                if (entry.getValue()[0] == cell) {
                    return entry.getKey();
                }
            }
            return -1;
        }

        private int shown(int tile, int edge, int turn) {
            for (int e = 0; e < 6; e++) {
                int turned = e + turn < 6 ? e + turn : e + turn - 6;
                if (turned == edge) {
                    return tiles.get(tile)[e < 2 ? 0 : e < 4 ? 1 : 2];
                }
            }
            return -1;
        }

        /** The number that the tile beside a cell has where they touch, -1 without such a tile. */
        private int facing(int cell, int edge) {
            int other = beside(cell, edge);
            int tile = other < 0 ? -1 : tileAt(other);
            return tile < 0 ? -1 : shown(tile, edge + 3 >= 6 ? edge - 3 : edge + 3, lying.get(tile)[1]);
        }

        boolean fits(int tile, int cell, int turn) {
            if (lying.containsKey(tile) || tileAt(cell) >= 0) {
                return false;
            }
            boolean touches = false;
            for (int edge = 0; edge < 6; edge++) {
                int number = facing(cell, edge);
                touches |= number >= 0;
                if (number >= 0 && number != shown(tile, edge, turn)) {
                    return false;
                }
            }
            return touches || lying.isEmpty();
        }

        boolean isRing(int cell) {
            int count = 0;
            for (int edge = 0; edge < 6; edge++) {
                count += facing(cell, edge) >= 0 ? 1 : 0;
            }
            return count == 6;
        }

        int matchesOf(int cell) {
            int count = 0;
            for (int edge = 0; edge < 6; edge++) {
                count += tileAt(cell) >= 0 && facing(cell, edge) >= 0 ? 1 : 0;
            }
            return count;
        }

        /** The numbers of all matches. */
        List<Integer> matches() {
            List<Integer> numbers = new ArrayList<>();
            for (int cell = 0; cell < columns * rows; cell++) {
                for (int edge = 0; edge < 6; edge++) {
                    if (tileAt(cell) >= 0 && beside(cell, edge) > cell && facing(cell, edge) >= 0) {
                        numbers.add(facing(cell, edge));
                    }
                }
            }
            return numbers;
        }

        int rings() {
            int count = 0;
            for (int cell = 0; cell < columns * rows; cell++) {
                count += isRing(cell) ? 1 : 0;
            }
            return count;
        }

        int points() {
            int sum = 10 * rings();
            for (int number : matches()) {
                sum += number;
            }
            return sum;
        }

        double meanMatch() {
            List<Integer> numbers = matches();
            int sum = 0;
            for (int number : numbers) {
                sum += number;
            }
            return numbers.isEmpty() ? 0 : sum / (double) numbers.size();
        }

        int groups() {
            Map<Integer, Integer> group = new HashMap<>();
            for (int cell = 0; cell < columns * rows; cell++) {
                if (tileAt(cell) >= 0) {
                    group.put(cell, cell);
                }
            }
            for (int n = 0; n < 50; n++) {
                for (int cell : group.keySet()) {
                    for (int edge = 0; edge < 6; edge++) {
                        Integer other = group.get(beside(cell, edge));
                        if (other != null && other < group.get(cell)) {
                            group.put(cell, other);
                        }
                    }
                }
            }
            return new HashSet<>(group.values()).size();
        }

        int ways(int tile) {
            int count = 0;
            for (int cell = 0; cell < columns * rows; cell++) {
                for (int turn = 0; turn < 6; turn++) {
                    count += fits(tile, cell, turn) ? 1 : 0;
                }
            }
            return count;
        }

        boolean isLeftover(int tile) {
            return !lying.containsKey(tile) && ways(tile) == 0;
        }

        /** Points, cell and turn that are best; none without a way. */
        int[] best(int tile) {
            int[] best = null;
            for (int cell = 0; cell < columns * rows; cell++) {
                for (int turn = 0; turn < 6; turn++) {
                    if (fits(tile, cell, turn)) {
                        lying.put(tile, new int[] {cell, turn});
                        int points = points();
                        lying.remove(tile);
                        if (best == null || points > best[0]) {
                            best = new int[] {points, cell, turn};
                        }
                    }
                }
            }
            return best;
        }

        int bestTile() {
            int best = -1;
            int most = -1;
            for (int tile = 0; tile < tiles.size(); tile++) {
                int[] one = best(tile);
                if (one != null && one[0] > most) {
                    best = tile;
                    most = one[0];
                }
            }
            return best;
        }

        long digest() {
            List<Integer> numbers = new ArrayList<>(List.of(columns, rows, tiles.size(), rounds, lying.size(),
                    matches().size(), points(), rings(), groups(), bestTile()));
            for (int cell = 0; cell < columns * rows; cell++) {
                numbers.add(tileAt(cell));
                numbers.add(matchesOf(cell));
                numbers.add(isRing(cell) ? 1 : 0);
            }
            for (int tile = 0; tile < tiles.size(); tile++) {
                numbers.add(lying.containsKey(tile) ? lying.get(tile)[1] : -1);
                numbers.add(ways(tile));
                numbers.add(isLeftover(tile) ? 1 : 0);
            }
            long d = 1009;
            for (int number : numbers) {
                d = d * 31 + number;
            }
            return d;
        }

        // ---- what is asked and done by hand

        private void need(boolean tile, boolean good) {
            if (!tile || !good) {
                throw new IndexOutOfBoundsException();
            }
        }

        private boolean isTile(int tile) {
            return tile >= 0 && tile < tiles.size();
        }

        private boolean isWay(int cell, int turn) {
            return cell >= 0 && cell < columns * rows && turn >= 0 && turn < 6;
        }

        private void state(boolean good) {
            if (!good) {
                throw new IllegalStateException();
            }
        }

        boolean fitsAsked(int tile, int cell, int turn) {
            need(isTile(tile), isWay(cell, turn));
            return fits(tile, cell, turn);
        }

        int edgeAgainst(int tile, int cell, int turn) {
            need(isTile(tile), isWay(cell, turn));
            for (int edge = 0; edge < 6; edge++) {
                if (facing(cell, edge) >= 0 && facing(cell, edge) != shown(tile, edge, turn)) {
                    return edge;
                }
            }
            return -1;
        }

        int numberAt(int cell, int edge) {
            need(true, isWay(cell, edge));
            state(tileAt(cell) >= 0);
            return shown(tileAt(cell), edge, lying.get(tileAt(cell))[1]);
        }

        int looksToProve(int tile) {
            need(isTile(tile), true);
            state(isLeftover(tile));
            int[] numbers = tiles.get(tile);
            int looks = 0;
            for (int cell = 0; cell < columns * rows; cell++) {
                boolean touches = false;
                for (int edge = 0; edge < 6; edge++) {
                    touches |= facing(cell, edge) >= 0;
                }
                if (touches && tileAt(cell) < 0) {
                    looks += numbers[0] == numbers[1] && numbers[1] == numbers[2] ? 1 : 6;
                }
            }
            return looks;
        }

        int[] bestAsked(int tile) {
            need(isTile(tile), true);
            int[] best = best(tile);
            state(best != null);
            return best;
        }

        int putTile(int tile, int cell, int turn) {
            need(isTile(tile), isWay(cell, turn));
            state(fits(tile, cell, turn));
            int before = points();
            lying.put(tile, new int[] {cell, turn});
            return points() - before;
        }

        int takeTile(int tile) {
            need(isTile(tile), true);
            state(lying.containsKey(tile));
            int before = points();
            lying.remove(tile);
            return before - points();
        }

        int fitTile(int tile) {
            need(isTile(tile), true);
            for (int cell = 0; cell < columns * rows; cell++) {
                for (int turn = 0; turn < 6; turn++) {
                    if (fits(tile, cell, turn)) {
                        lying.put(tile, new int[] {cell, turn});
                        return cell;
                    }
                }
            }
            throw new IllegalStateException();
        }

        // ---- rounds

        int playRounds(int count) {
            if (count < 1 || count > 20) {
                throw new IllegalArgumentException();
            }
            int carriedOut = 0;
            for (int n = 0; n < count; n++) {
                for (List<Token> order : orders) {
                    carriedOut += carryOut(order) ? 1 : 0;
                }
                rounds++;
            }
            return carriedOut;
        }

        int pointsAfter(int count) {
            playRounds(count);
            return points();
        }

        int roundsUntilRing() {
            for (int n = 0; n <= 20; n++) {
                if (rings() > 0) {
                    return n;
                }
                playRounds(1);
            }
            return -1;
        }

        private boolean carryOut(List<Token> order) {
            Reader reader = new Reader(this, order);
            int when = reader.indexOf("when");
            if (when >= 0) {
                reader.at = when + 1;
                if (!reader.test()) {
                    return false;
                }
            }
            int tile = names.get(order.get(1).text);
            switch (order.get(0).kind) {
                case "take":
                    return lying.remove(tile) != null;
                case "fit":
                    if (ways(tile) == 0) {
                        return false;
                    }
                    fitTile(tile);
                    return true;
                default:
                    reader.at = 3;
                    long column = reader.sum();
                    reader.at++;
                    long row = reader.sum();
                    reader.at++;
                    long turn = reader.sum();
                    int cell = (int) ((row % rows + rows) % rows * columns + (column % columns + columns) % columns);
                    int turned = (int) ((turn % 6 + 6) % 6);
                    if (!fits(tile, cell, turned)) {
                        return false;
                    }
                    lying.put(tile, new int[] {cell, turned});
                    return true;
            }
        }
    }

    /** Reckons tests and sums straight from the tokens of an order that is known to be right. */
    private static final class Reader {
        private final Model model;
        private final List<Token> tokens;
        int at;

        Reader(Model model, List<Token> tokens) {
            this.model = model;
            this.tokens = tokens;
        }

        int indexOf(String kind) {
            for (int n = 0; n < tokens.size(); n++) {
                if (tokens.get(n).kind.equals(kind)) {
                    return n;
                }
            }
            return -1;
        }

        private boolean next(String kind) {
            if (at < tokens.size() && tokens.get(at).kind.equals(kind)) {
                at++;
                return true;
            }
            return false;
        }

        private int tile() {
            return model.names.get(tokens.get(at++).text);
        }

        boolean test() {
            boolean some = both();
            while (next("or")) {
                some |= both();
            }
            return some;
        }

        private boolean both() {
            boolean all = single();
            while (next("and")) {
                all &= single();
            }
            return all;
        }

        private boolean single() {
            if (next("not")) {
                return !single();
            }
            if (next("[")) {
                boolean answer = test();
                at++;
                return answer;
            }
            if (next("on")) {
                return model.lying.containsKey(tile());
            }
            if (next("fits")) {
                return model.ways(tile()) > 0;
            }
            int left = sum();
            String sign = tokens.get(at++).kind;
            int right = sum();
            switch (sign) {
                case "<":
                    return left < right;
                case ">":
                    return left > right;
                case "=":
                    return left == right;
                case "<=":
                    return left <= right;
                default:
                    return left >= right;
            }
        }

        int sum() {
            long sum = product();
            while (true) {
                if (next("+")) {
                    sum = (int) (sum + product());
                } else if (next("-")) {
                    sum = (int) (sum - product());
                } else {
                    return (int) sum;
                }
            }
        }

        private int product() {
            long product = value();
            while (true) {
                if (next("*")) {
                    product = (int) (product * value());
                } else if (next("/")) {
                    long right = value();
                    product = right == 0 ? 0 : (int) (product / right);
                } else {
                    return (int) product;
                }
            }
        }

        private int value() {
            Token token = tokens.get(at++);
            switch (token.kind) {
                case "number":
                    return Integer.parseInt(token.text);
                case "round":
                    return model.rounds;
                case "placed":
                    return model.lying.size();
                case "matches":
                    return model.matches().size();
                case "points":
                    return model.points();
                case "rings":
                    return model.rings();
                case "free":
                    return model.columns * model.rows - model.lying.size();
                case "ways":
                    at++;
                    return model.ways(tile());
                case "-":
                    return -value();
                case "(":
                    int inside = sum();
                    at++;
                    return inside;
                default:
                    at++;
                    int first = sum();
                    at++;
                    int second = sum();
                    at++;
                    return token.kind.equals("min") ? Math.min(first, second) : Math.max(first, second);
            }
        }
    }
}
