import java.util.ArrayList;
import java.util.List;

/** The boundary cases that the promises name, a method for each promise or for some that name the same. */
public final class PromiseEdgesTest {
    private static final int[] FAR = {-1, -2, Integer.MIN_VALUE, Integer.MIN_VALUE + 1, Integer.MAX_VALUE,
        Integer.MAX_VALUE - 1, 1 << 16, 1 << 30};
    /** The cells around cell 4 on a board of 3 by 3, in the order of the edges. */
    private static final int[] AROUND = {5, 7, 6, 3, 1, 2};
    /** Seven tiles that match everywhere, and one that matches none of them. */
    private static final String RING = "board 3 by 3;tile a 1 1 1;tile b 1 1 1;tile c 1 1 1;tile d 1 1 1;tile e 1 1 1;"
            + "tile f 1 1 1;tile g 1 1 1;tile h 2 3 2;";

    /** What a call does with an object. */
    private interface Call {
        void on(RingDomino x);
    }

    /** What a call does with an object and a number. */
    private interface CallWith {
        void on(RingDomino x, int number);
    }

    public static void main(String[] args) {
        newObject();
        lastCall();
        cellsThatAreNot();
        tilesThatAreNot();
        edgesAndTurnsThatAreNot();
        firstNamedException();
        throwsChangeNothing();
        roundsThatAreNot();
        countsFromLeastToMost();
        roundsGone();
        groups();
        groupsInLines();
        tileAtEachCell();
        allTilesStay();
        tileAt();
        numberAt();
        matchesOf();
        cellAndTurn();
        fitsOfATileThatLies();
        edgeAgainst();
        waysOf();
        looksToProve();
        pairsToLookAt();
        putTile();
        takeTile();
        fitTile();
        playRounds();
        pointsAfter();
        roundsUntilRing();
        firstRing();
        bestCell();
        bestTurn();
        bestTile();
        meanMatch();
        digestOfEdges();
        Check.close("PromiseEdgesTest");
    }

    private static RingDomino ring(int tiles) {
        RingDomino x = Check.taught(RING);
        for (int n = 0; n < tiles; n++) {
            x.putTile(n, AROUND[n], n);
        }
        return x;
    }

    private static String tiles(int count, String numbers) {
        StringBuilder text = new StringBuilder();
        for (int n = 0; n < count; n++) {
            text.append("tile t").append((char) ('a' + n)).append(' ').append(numbers).append(";");
        }
        return text.toString();
    }

    // ---- objects

    private static void newObject() {
        Check.sentence("Creates an empty board of 5 by 5 without tiles and orders.");
        RingDomino x = new RingDomino();
        Check.equal("columns", x.columns(), 5);
        Check.equal("rows", x.rows(), 5);
        Check.equal("tiles", x.tiles(), 0);
        Check.equal("rounds", x.rounds(), 0);
        Check.equal("placedTiles", x.placedTiles(), 0);
        Check.equal("matches", x.matches(), 0);
        Check.equal("points", x.points(), 0);
        Check.equal("rings", x.rings(), 0);
        Check.equal("groups", x.groups(), 0);
        for (int cell = 0; cell < 25; cell++) {
            Check.fails("a tile at " + cell, x.hasTile(cell));
            Check.equal("matchesOf " + cell, x.matchesOf(cell), 0);
            Check.fails("a ring around " + cell, x.isRing(cell));
        }
        Check.equal("bestTile", x.bestTile(), -1);
        Check.equal("meanMatch", x.meanMatch(), 0.0);
        Check.equal("roundsUntilRing", x.roundsUntilRing(), -1);
        Check.equal("pointsAfter", x.pointsAfter(20), 0);
        Check.equal("playRounds", x.playRounds(20), 0);
        Check.equal("rounds behind it", x.rounds(), 20);
        RingDomino y = new RingDomino();
        RingDomino z = new RingDomino();
        Check.teach(y, "board 3 by 3;tile a 1 1 1;");
        y.fitTile(0);
        Check.equal("another object knows nothing of it", z.digest(), new RingDomino().digest());
    }

    private static void lastCall() {
        Check.sentence("An object is used for at most 512 calls after it has been made");
        RingDomino x = new RingDomino();
        // feed twice, trim and teach are the first four calls.
        Check.feed(x, "tile a 1 1 1;fit a;take a;");
        Check.equal("teach", x.teach(), 0);
        for (int call = 5; call < 512; call++) {
            Check.equal("call " + call, x.playRounds(20), 40);
        }
        Check.equal("call 512", x.rounds(), 507 * 20);
        RingDomino y = new RingDomino();
        for (int call = 1; call < 511; call += 2) {
            Check.equal("call " + call, y.feed(0x74696c65, 0x20612031, 0x20322033, 0x3b202020, 0x20202020), 20);
            Check.equal("call " + (call + 1), y.teach(), 0);
        }
        Check.equal("a tile in the end", y.tiles(), 1);
        RingDomino z = new RingDomino();
        for (int call = 1; call <= 512; call++) {
            Check.outOfBounds("call " + call, () -> z.hasTile(25));
        }
    }

    // ---- refused calls

    private static void refused(String what, RingDomino x, Call call) {
        Check.outOfBounds(what, () -> call.on(x));
    }

    private static void cellsThatAreNot() {
        Check.sentence("Throws `IndexOutOfBoundsException` if there is no such cell");
        CallWith[] calls = {(x, cell) -> x.hasTile(cell), (x, cell) -> x.tileAt(cell), (x, cell) -> x.numberAt(cell, 0),
            (x, cell) -> x.matchesOf(cell), (x, cell) -> x.isRing(cell)};
        CallWith[] tileCalls = {(x, cell) -> x.fits(0, cell, 0), (x, cell) -> x.edgeAgainst(0, cell, 0),
            (x, cell) -> x.putTile(0, cell, 0)};
        RingDomino fresh = new RingDomino();
        refuseCells("a new object", fresh, 25, calls);
        for (int columns = 3; columns <= 7; columns += 2) {
            for (int rows = 3; rows <= 7; rows++) {
                RingDomino x = Check.taught("board 7 by 7;");
                int cells = columns * rows;
                Check.teach(x, "board " + columns + " by " + rows + ";tile a 1 1 1;");
                String what = "a board of " + columns + " by " + rows;
                refuseCells(what, x, cells, calls);
                refuseCells(what, x, cells, tileCalls);
                // The first and the last cell are there.
                for (int cell : new int[] {0, cells - 1}) {
                    Check.fails("hasTile", x.hasTile(cell));
                    Check.equal("matchesOf", x.matchesOf(cell), 0);
                    Check.fails("isRing", x.isRing(cell));
                    Check.holds("fits", x.fits(0, cell, 0));
                    Check.equal("edgeAgainst", x.edgeAgainst(0, cell, 0), -1);
                    Check.equal("putTile", x.putTile(0, cell, 0), 0);
                    Check.equal("tileAt", x.tileAt(cell), 0);
                    Check.equal("numberAt", x.numberAt(cell, 0), 1);
                    x.takeTile(0);
                }
            }
        }
    }

    private static void refuseCells(String what, RingDomino x, int cells, CallWith[] calls) {
        for (int n = 0; n < calls.length; n++) {
            CallWith call = calls[n];
            for (int cell : FAR) {
                refused(what + ", call " + n + " of cell " + cell, x, y -> call.on(y, cell));
            }
            refused(what + ", call " + n + " of the cell behind the last", x, y -> call.on(y, cells));
            refused(what + ", call " + n + " of one more", x, y -> call.on(y, cells + 1));
        }
    }

    private static final CallWith[] TILE_CALLS = {(x, tile) -> x.isPlaced(tile), (x, tile) -> x.cellOf(tile),
        (x, tile) -> x.turnOf(tile), (x, tile) -> x.fits(tile, 0, 0), (x, tile) -> x.edgeAgainst(tile, 0, 0),
        (x, tile) -> x.waysOf(tile), (x, tile) -> x.isLeftover(tile), (x, tile) -> x.looksToProve(tile),
        (x, tile) -> x.putTile(tile, 0, 0), (x, tile) -> x.takeTile(tile), (x, tile) -> x.fitTile(tile),
        (x, tile) -> x.bestCell(tile), (x, tile) -> x.bestTurn(tile)};

    private static void tilesThatAreNot() {
        Check.sentence("Throws `IndexOutOfBoundsException` if there is no such tile");
        for (int count = 0; count <= 16; count++) {
            RingDomino x = Check.taught(tiles(16, "1 1 1"));
            Check.teach(x, tiles(count, "1 1 1"));
            int tiles = count;
            for (int n = 0; n < TILE_CALLS.length; n++) {
                CallWith call = TILE_CALLS[n];
                for (int tile : FAR) {
                    refused(count + " tiles, call " + n + " of tile " + tile, x, y -> call.on(y, tile));
                }
                refused(count + " tiles, call " + n + " of tile " + count, x, y -> call.on(y, tiles));
            }
            if (count > 0) {
                Check.fails("the last tile", x.isPlaced(count - 1));
                Check.holds("it fits", x.fits(count - 1, 24, 5));
                Check.equal("its ways", x.waysOf(count - 1), 150);
                Check.equal("it is put", x.putTile(count - 1, 24, 5), 0);
                Check.equal("its cell", x.cellOf(count - 1), 24);
            }
        }
        RingDomino fresh = new RingDomino();
        for (int n = 0; n < TILE_CALLS.length; n++) {
            CallWith call = TILE_CALLS[n];
            refused("a new object, call " + n, fresh, y -> call.on(y, 0));
        }
    }

    private static void edgesAndTurnsThatAreNot() {
        Check.sentence("Throws `IndexOutOfBoundsException` if there is no such cell, or edge is not 0 to 5");
        RingDomino x = Check.taught("tile a 1 2 3;tile b 1 1 1;");
        x.putTile(0, 12, 0);
        int[] numbers = {1, 1, 2, 2, 3, 3};
        for (int edge = -10; edge <= 12; edge++) {
            int one = edge;
            if (edge >= 0 && edge <= 5) {
                Check.equal("edge " + edge, x.numberAt(12, edge), numbers[edge]);
            } else {
                refused("edge " + edge, x, y -> y.numberAt(12, one));
            }
        }
        for (int edge : FAR) {
            refused("edge " + edge, x, y -> y.numberAt(12, edge));
        }
        Check.sentence("Throws `IndexOutOfBoundsException` if there is no such tile or cell, or turn is not 0 to 5");
        for (int turn = -10; turn <= 12; turn++) {
            int one = turn;
            if (turn >= 0 && turn <= 5) {
                Check.equal("turn " + turn, x.edgeAgainst(1, 0, turn), -1);
                Check.equal("fits turned by " + turn, x.fits(1, 13, turn) ? 1 : 0, 1);
            } else {
                refuseTurn(x, one);
            }
        }
        for (int turn : FAR) {
            refuseTurn(x, turn);
        }
        for (int turn = 0; turn <= 5; turn++) {
            RingDomino z = Check.taught("tile a 1 2 3;");
            Check.equal("put turned by " + turn, z.putTile(0, 0, turn), 0);
            Check.equal("it is turned by " + turn, z.turnOf(0), turn);
        }
    }

    private static void refuseTurn(RingDomino x, int turn) {
        refused("fits turned by " + turn, x, y -> y.fits(1, 13, turn));
        refused("edgeAgainst turned by " + turn, x, y -> y.edgeAgainst(1, 13, turn));
        refused("putTile turned by " + turn, x, y -> y.putTile(1, 13, turn));
    }

    private static void firstNamedException() {
        Check.sentence("If several exceptions apply, the one that is named first is thrown.");
        RingDomino x = ring(3);
        refused("numberAt: no tile, and no edge", x, y -> y.numberAt(0, 6));
        refused("numberAt: no tile, and no edge", x, y -> y.numberAt(0, -1));
        refused("numberAt: no cell, and no edge", x, y -> y.numberAt(9, 6));
        refused("tileAt: no cell", x, y -> y.tileAt(9));
        refused("putTile: it lies, and no cell", x, y -> y.putTile(0, 9, 0));
        refused("putTile: it lies, and no cell", x, y -> y.putTile(0, -1, 0));
        refused("putTile: it lies, and no turn", x, y -> y.putTile(0, 0, 6));
        refused("putTile: it lies, and no turn", x, y -> y.putTile(0, 0, -1));
        refused("putTile: a tile lies there, and no turn", x, y -> y.putTile(3, 5, 6));
        refused("putTile: no tile beside, and no turn", x, y -> y.putTile(3, 0, 6));
        refused("putTile: does not match, and no turn", x, y -> y.putTile(7, 4, -1));
        refused("putTile: a tile lies there, and no tile", x, y -> y.putTile(8, 5, 0));
        refused("fits: it lies, and no cell", x, y -> y.fits(0, 9, 0));
        refused("fits: it lies, and no turn", x, y -> y.fits(0, 5, 6));
        refused("fits: a tile lies there, and no turn", x, y -> y.fits(3, 5, 6));
        refused("fits: no tile, no cell, no turn", x, y -> y.fits(8, 9, 6));
        refused("edgeAgainst: no tile, no cell, no turn", x, y -> y.edgeAgainst(-1, -1, -1));
    }

    /** Each call that an object with three tiles of RING on the board has to refuse. */
    private static List<Call> wrongCalls() {
        List<Call> calls = new ArrayList<>(List.of(x -> x.trim(-1), x -> x.trim(2001), x -> x.trim(Integer.MAX_VALUE),
                x -> x.hasTile(9), x -> x.tileAt(9), x -> x.tileAt(0), x -> x.numberAt(9, 0)));
        calls.addAll(List.of(x -> x.numberAt(5, 6), x -> x.numberAt(0, 0), x -> x.matchesOf(9), x -> x.isRing(-1),
                x -> x.isPlaced(8), x -> x.cellOf(8), x -> x.cellOf(3), x -> x.turnOf(8), x -> x.turnOf(3)));
        calls.addAll(List.of(x -> x.fits(8, 0, 0), x -> x.fits(3, 9, 0), x -> x.fits(3, 4, 6), x -> x.edgeAgainst(8, 0, 0),
                x -> x.edgeAgainst(0, 9, 0), x -> x.edgeAgainst(0, 0, 6), x -> x.waysOf(8), x -> x.isLeftover(8)));
        calls.addAll(List.of(x -> x.looksToProve(8), x -> x.looksToProve(0), x -> x.looksToProve(3), x -> x.putTile(8, 4, 0),
                x -> x.putTile(3, 9, 0), x -> x.putTile(3, 4, 6), x -> x.putTile(3, 4, -1), x -> x.putTile(0, 4, 0)));
        calls.addAll(List.of(x -> x.putTile(3, 5, 0), x -> x.putTile(3, 0, 0), x -> x.putTile(7, 4, 0), x -> x.takeTile(8),
                x -> x.takeTile(3), x -> x.takeTile(-1), x -> x.fitTile(8), x -> x.fitTile(0), x -> x.fitTile(7)));
        calls.addAll(List.of(x -> x.playRounds(0), x -> x.playRounds(21), x -> x.playRounds(-1), x -> x.pointsAfter(0),
                x -> x.pointsAfter(21), x -> x.pointsAfter(-1), x -> x.bestCell(8), x -> x.bestCell(0), x -> x.bestCell(7)));
        calls.addAll(List.of(x -> x.bestTurn(8), x -> x.bestTurn(0), x -> x.bestTurn(7)));
        return calls;
    }

    private static RingDomino midGame() {
        RingDomino x = Check.taught(RING + "fit d when round=3;take a when on d;");
        x.playRounds(2);
        x.putTile(0, 5, 1);
        x.putTile(1, 7, 2);
        x.putTile(2, 6, 3);
        Check.equal("an error ahead", Check.teach(x, "tile ? "), 1);
        // Bytes on the tape, which the next teach has to find.
        x.feed(0x74696c65, 0x20612031, 0x20322033, 0x3b202020, 0x20202020);
        return x;
    }

    private static void throwsChangeNothing() {
        Check.sentence("A method that throws an exception changes nothing.");
        List<Call> calls = wrongCalls();
        RingDomino all = midGame();
        for (int n = 0; n < calls.size(); n++) {
            RingDomino x = midGame();
            boolean thrown = throwsOne(calls.get(n), x);
            throwsOne(calls.get(n), all);
            Check.holds("wrong call " + n + " throws", thrown);
            unchanged("wrong call " + n, x);
        }
        unchanged("all wrong calls", all);
        RingDomino full = new RingDomino();
        Check.feed(full, RING + " ".repeat(2000 - RING.length()));
        Check.holds("a feed too many", throwsOne(x -> x.feed(-1, -1, -1, -1, -1), full));
        Check.tapeHolds(full, 2000);
        Check.equal("the tape's game", full.teach(), 0);
        Check.equal("its tiles", full.tiles(), 8);
    }

    private static boolean throwsOne(Call call, RingDomino x) {
        try {
            call.on(x);
            return false;
        } catch (IndexOutOfBoundsException | IllegalStateException | IllegalArgumentException e) {
            return true;
        }
    }

    private static void unchanged(String what, RingDomino x) {
        RingDomino due = midGame();
        Check.equal(what + ": digest", x.digest(), due.digest());
        Check.equal(what + ": errorAt", x.errorAt(), 5);
        Check.equal(what + ": rounds", x.rounds(), 2);
        Check.equal(what + ": points after three", x.pointsAfter(3), due.pointsAfter(3));
        Check.equal(what + ": a round", x.playRounds(1), 0);
        Check.equal(what + ": one more", x.playRounds(1), 2);
        due.playRounds(2);
        Check.equal(what + ": digest behind them", x.digest(), due.digest());
        Check.tapeHolds(x, 20);
        Check.equal(what + ": teach", x.teach(), 0);
        Check.equal(what + ": the tape's tile", x.tiles(), 1);
    }

    private static void roundsThatAreNot() {
        Check.sentence("Throws `IllegalArgumentException` if rounds is not 1 to 20");
        for (int rounds = -3; rounds <= 25; rounds++) {
            RingDomino x = Check.taught("tile a 1 1 1;tile b 3 3 3;tile c 3 3 3;fit b;fit c;take c;fit c when round=19;");
            int asked = rounds;
            if (rounds >= 1 && rounds <= 20) {
                Check.equal("points after " + rounds, x.pointsAfter(rounds), rounds == 20 ? 3 : 0);
                Check.equal("orders of " + rounds, x.playRounds(rounds), 1 + 2 * rounds + (rounds == 20 ? 1 : 0));
                Check.equal("rounds " + rounds, x.rounds(), rounds);
            } else {
                Check.illegalArgument("pointsAfter " + rounds, () -> x.pointsAfter(asked));
                Check.illegalArgument("playRounds " + rounds, () -> x.playRounds(asked));
                Check.equal("no round", x.rounds(), 0);
            }
        }
        RingDomino x = new RingDomino();
        for (int rounds : FAR) {
            Check.illegalArgument("pointsAfter " + rounds, () -> x.pointsAfter(rounds));
            Check.illegalArgument("playRounds " + rounds, () -> x.playRounds(rounds));
        }
    }

    // ---- the game and its cells

    private static void countsFromLeastToMost() {
        Check.sentence("Returns how many tiles lie on the board.");
        RingDomino x = Check.taught("board 4 by 4;" + tiles(16, "9 9 9"));
        Check.equal("all tiles", x.tiles(), 16);
        // In a row each tile matches the one ahead of it; below the first row two more, but for the last in its row.
        int matches = 0;
        for (int cell = 0; cell < 16; cell++) {
            Check.equal("placedTiles", x.placedTiles(), cell);
            int more = (cell % 4 > 0 ? 1 : 0) + (cell >= 4 ? 1 : 0) + (cell >= 4 && cell % 4 < 3 ? 1 : 0);
            // With cell 9 the ring around 5 is closed, with 10 the one around 6, and so on.
            int rings = cell == 9 || cell == 10 || cell == 13 || cell == 14 ? 1 : 0;
            Check.equal("points of " + cell, x.putTile(cell, cell, 0), 9 * more + 10 * rings);
            matches += more;
            Check.equal("matches with " + cell, x.matches(), matches);
        }
        Check.equal("a full board", x.placedTiles(), 16);
        Check.equal("the most matches", x.matches(), 33);
        Check.equal("the most points", x.points(), 33 * 9 + 40);
        Check.equal("the most rings", x.rings(), 4);
        Check.equal("the mean", x.meanMatch(), 9.0);
        int left = x.points();
        for (int cell = 0; cell < 16; cell++) {
            left -= x.takeTile(cell);
            Check.equal("points left", x.points(), left);
            Check.equal("tiles left", x.placedTiles(), 15 - cell);
        }
        Check.equal("no points left", left, 0);
        Check.equal("no matches left", x.matches(), 0);
        Check.equal("no rings left", x.rings(), 0);
    }

    private static void roundsGone() {
        Check.sentence("Returns how many rounds went by.");
        RingDomino x = Check.taught("tile a 1 1 1;fit a;");
        Check.equal("none", x.rounds(), 0);
        x.fitTile(0);
        x.pointsAfter(20);
        x.roundsUntilRing();
        Check.equal("none by hand, and none that would be", x.rounds(), 0);
        x.playRounds(1);
        Check.equal("one", x.rounds(), 1);
        x.playRounds(20);
        Check.equal("twenty more", x.rounds(), 21);
        Check.equal("an error", Check.teach(x, "?"), 1);
        Check.equal("the rounds stay", x.rounds(), 21);
        Check.equal("a new game", x.teach(), 0);
        Check.equal("the rounds are none", x.rounds(), 0);
    }

    private static void groups() {
        Check.sentence("how many groups of tiles there are, each as great as can be, in which one comes from each to each other"
                + " one by matches.");
        RingDomino x = Check.taught("board 7 by 3;" + tiles(9, "0 0 0"));
        Check.equal("none", x.groups(), 0);
        for (int n = 0; n < 7; n++) {
            x.putTile(n, 7 + n, 0);
            Check.equal("one of " + n, x.groups(), 1);
        }
        int[] taken = {1, 3, 5};
        for (int n = 0; n < 3; n++) {
            x.takeTile(taken[n]);
            Check.equal("parted " + n, x.groups(), n + 2);
        }
        Check.equal("no match", x.matches(), 0);
        // Cell 1 lies above the cells 7 and 8, cell 15 below the cells 8 and 9.
        x.putTile(1, 1, 0);
        Check.equal("one more of the first", x.groups(), 4);
        x.putTile(3, 8, 0);
        Check.equal("two become one", x.groups(), 3);
        x.takeTile(0);
        x.takeTile(2);
        x.takeTile(4);
        x.takeTile(6);
        Check.equal("1 and 8 are one", x.groups(), 1);
        x.takeTile(1);
        Check.equal("a single one", x.groups(), 1);
        x.takeTile(3);
        Check.equal("none again", x.groups(), 0);
        RingDomino ring = ring(6);
        Check.equal("a ring is one", ring.groups(), 1);
        ring.takeTile(0);
        Check.equal("an open ring is one", ring.groups(), 1);
        ring.takeTile(3);
        Check.equal("two halves are two", ring.groups(), 2);
        ring.putTile(6, 4, 0);
        Check.equal("the midst makes them one", ring.groups(), 1);
    }

    /** Tiles in lines, in which each edge is needed to come from the smallest cell to the end. */
    private static void groupsInLines() {
        Check.sentence("in which one comes from each to each other one by matches.");
        int[][] lines = {{0, 1, 2, 3, 4, 5, 6}, {0, 7, 14, 21, 28, 35, 42}, {6, 12, 18, 24, 30, 36, 42},
            {3, 10, 17, 16, 15, 14}, {0, 7, 14, 21, 22, 23, 16, 9}, {2, 8, 14, 21, 22, 16, 10, 4}};
        for (int[] line : lines) {
            RingDomino x = Check.taught("board 7 by 7;" + tiles(16, "3 3 3"));
            for (int n = 0; n < line.length; n++) {
                x.putTile(n, line[n], n % 6);
                Check.equal("a line up to cell " + line[n], x.groups(), 1);
            }
            for (int n = 1; n < line.length - 1; n++) {
                x.takeTile(n);
                Check.equal("without cell " + line[n], x.groups(), touch(line[n - 1], line[n + 1]) ? 1 : 2);
                x.putTile(n, line[n], 0);
            }
        }
    }

    /** Every call that looks at all cells, with a tile at each cell of the least and of the greatest board. */
    private static void tileAtEachCell() {
        Check.sentence("for each cell its tile (-1 without one), matchesOf(), isRing(); for each tile how much it is turned"
                + " (-1 if it lies nowhere), waysOf(), isLeftover() (all in their order).");
        for (int side : new int[] {3, 7}) {
            for (int cell = 0; cell < side * side; cell++) {
                RingDomino x = Check.taught("board " + side + " by " + side + ";tile a 4 4 4;tile b 4 4 5;");
                x.putTile(0, cell, cell % 6);
                String what = "a at " + cell + " of " + side + " by " + side;
                Check.equal(what + ": groups", x.groups(), 1);
                Check.equal(what + ": digest", x.digest(), reckoned(x));
                int beside = x.fitTile(1);
                Check.equal(what + ": groups with b at " + beside, x.groups(), 1);
                Check.equal(what + ": matches with b", x.matchesOf(cell), 1);
                Check.equal(what + ": the last cell's tile", x.hasTile(side * side - 1) ? 1 : 0,
                        Math.max(cell, beside) == side * side - 1 ? 1 : 0);
            }
        }
    }

    /** Whether two cells of a board with seven columns are beside each other. */
    private static boolean touch(int cell, int other) {
        int columns = other % 7 - cell % 7;
        int rows = other / 7 - cell / 7;
        return Math.abs(columns) <= 1 && Math.abs(rows) <= 1 && columns != rows;
    }

    private static void allTilesStay() {
        Check.sentence("if nothing is done by hand (nothing is changed).");
        RingDomino x = Check.taught("board 4 by 4;" + tiles(16, "2 2 2") + "take ta when round=0;take tp when round=1;");
        for (int n = 0; n < 16; n++) {
            x.putTile(n, n, n % 6);
        }
        Check.equal("points now", x.points(), 106);
        Check.equal("without the first", x.pointsAfter(1), 102);
        Check.equal("without the first and the last", x.pointsAfter(2), 98);
        Check.equal("twenty rounds", x.pointsAfter(20), 98);
        Check.equal("a ring now", x.roundsUntilRing(), 0);
        for (int n = 0; n < 16; n++) {
            Check.equal("tile " + n + " lies where it lay", x.cellOf(n), n);
            Check.equal("tile " + n + " is turned as it was", x.turnOf(n), n % 6);
        }
        Check.equal("points again", x.points(), 106);
        Check.equal("no round", x.rounds(), 0);
        Check.equal("then both are taken", x.playRounds(2), 2);
    }

    private static void tileAt() {
        Check.sentence("Throws `IllegalStateException` if there is none");
        RingDomino x = ring(6);
        for (int cell : new int[] {0, 4, 8}) {
            Check.fails("hasTile " + cell, x.hasTile(cell));
            Check.illegalState("tileAt " + cell, () -> x.tileAt(cell));
        }
        x.takeTile(0);
        Check.illegalState("tileAt of one taken", () -> x.tileAt(5));
        x.putTile(0, 5, 0);
        Check.equal("tileAt of one put again", x.tileAt(5), 0);
    }

    private static void numberAt() {
        Check.sentence("Throws `IllegalStateException` if there is no tile");
        RingDomino x = ring(6);
        for (int edge = 0; edge < 6; edge++) {
            int one = edge;
            for (int cell : new int[] {0, 4, 8}) {
                Check.illegalState("numberAt " + cell, () -> x.numberAt(cell, one));
            }
        }
        RingDomino y = Check.taught("tile a 0 9 0;");
        y.putTile(0, 24, 5);
        int[] due = {0, 9, 9, 0, 0, 0};
        for (int edge = 0; edge < 6; edge++) {
            Check.equal("the last cell's edge " + edge, y.numberAt(24, edge), due[edge]);
        }
    }

    private static void matchesOf() {
        Check.sentence("Returns with how many tiles beside it its own one matches, 0 without one.");
        RingDomino x = ring(6);
        Check.equal("six beside it, none on it", x.matchesOf(4), 0);
        Check.equal("a corner without one", x.matchesOf(0), 0);
        x.putTile(6, 4, 0);
        Check.equal("six beside it", x.matchesOf(4), 6);
        for (int n = 0; n < 6; n++) {
            Check.equal("three beside " + AROUND[n], x.matchesOf(AROUND[n]), 3);
        }
        for (int n = 0; n < 6; n++) {
            x.takeTile(n);
            Check.equal("one fewer", x.matchesOf(4), 5 - n);
        }
    }

    // ---- tiles

    private static void cellAndTurn() {
        Check.sentence("Throws `IllegalStateException` if it lies nowhere");
        RingDomino x = Check.taught("tile a 1 1 1;tile b 1 1 1;");
        Check.illegalState("cellOf at first", () -> x.cellOf(0));
        Check.illegalState("turnOf at first", () -> x.turnOf(0));
        Check.illegalState("takeTile at first", () -> x.takeTile(0));
        x.putTile(0, 0, 0);
        Check.equal("cell 0", x.cellOf(0), 0);
        Check.equal("turn 0", x.turnOf(0), 0);
        Check.illegalState("cellOf the other", () -> x.cellOf(1));
        Check.illegalState("turnOf the other", () -> x.turnOf(1));
        Check.illegalState("takeTile of the other", () -> x.takeTile(1));
        x.takeTile(0);
        Check.illegalState("cellOf behind takeTile", () -> x.cellOf(0));
        Check.illegalState("turnOf behind takeTile", () -> x.turnOf(0));
        Check.illegalState("takeTile twice", () -> x.takeTile(0));
        x.putTile(0, 24, 5);
        Check.equal("cell 24", x.cellOf(0), 24);
        Check.equal("turn 5", x.turnOf(0), 5);
    }

    private static void fitsOfATileThatLies() {
        Check.sentence("Returns whether it fits there so; false if it lies somewhere.");
        RingDomino x = Check.taught("tile a 1 1 1;tile b 1 1 1;");
        x.putTile(0, 12, 3);
        Check.fails("a where it lies", x.fits(0, 12, 3));
        Check.fails("a beside itself", x.fits(0, 13, 3));
        x.putTile(1, 13, 0);
        Check.fails("a beside b", x.fits(0, 14, 0));
        x.takeTile(1);
        Check.holds("b again", x.fits(1, 13, 0));
    }

    private static void edgeAgainst() {
        Check.sentence("Returns the smallest edge at which a tile beside the cell has another number than this one would have"
                + " there; -1 if there is none.");
        RingDomino x = ring(6);
        for (int cell = 0; cell < 9; cell++) {
            Check.equal("no edge against, cell " + cell, x.edgeAgainst(6, cell, 0), -1);
        }
        // h has 2 at the edges 0 and 1, 3 at 2 and 3, and 2 at 4 and 5: all against, all around the midst.
        for (int n = 0; n < 6; n++) {
            Check.equal("the smallest with " + n + " fewer", x.edgeAgainst(7, 4, 0), n);
            x.takeTile(n);
        }
        Check.equal("the empty board", x.edgeAgainst(7, 4, 0), -1);
        RingDomino y = Check.taught("tile a 0 0 0;tile b 0 1 0;");
        y.putTile(0, 12, 0);
        Check.equal("0 and 0", y.edgeAgainst(1, 11, 0), -1);
        Check.equal("0 and 1", y.edgeAgainst(1, 11, 4), 0);
        Check.equal("no tile beside the cell", y.edgeAgainst(1, 0, 4), -1);
        Check.equal("the cell of the tile itself", y.edgeAgainst(0, 12, 0), -1);
        Check.equal("a cell with a tile, none beside it", y.edgeAgainst(1, 12, 0), -1);
        // It does not matter whether the tile lies somewhere, not even if it is the one beside the cell.
        RingDomino z = Check.taught("tile a 1 2 3;tile b 1 1 1;");
        z.putTile(0, 12, 0);
        int[] due = {3, 3, -1, -1, 3, 3};
        for (int turn = 0; turn < 6; turn++) {
            Check.equal("a beside itself, turned by " + turn, z.edgeAgainst(0, 13, turn), due[turn]);
        }
        z.putTile(1, 13, 0);
        for (int turn = 0; turn < 6; turn++) {
            Check.equal("a on the other side of b, turned by " + turn, z.edgeAgainst(0, 14, turn), due[turn]);
            Check.equal("a on a cell with a tile, turned by " + turn, z.edgeAgainst(0, 13, turn), due[turn]);
        }
    }

    private static void waysOf() {
        Check.sentence("Returns in how many ways it fits.");
        RingDomino x = ring(6);
        Check.equal("one that lies", x.waysOf(0), 0);
        Check.equal("three cells, six turns", x.waysOf(6), 18);
        Check.equal("left over", x.waysOf(7), 0);
        x.putTile(6, 4, 0);
        Check.equal("lies", x.waysOf(6), 0);
        RingDomino y = Check.taught("board 7 by 7;tile a 1 2 3;");
        Check.equal("the greatest board", y.waysOf(0), 294);
    }

    private static void looksToProve() {
        Check.sentence("six ways for each such cell, or one, if its three numbers are the same.");
        String[] numbers = {"7 7 7", "7 7 8", "7 8 7", "8 7 7", "7 8 9"};
        for (String three : numbers) {
            RingDomino x = Check.taught("tile a 1 1 1;tile b " + three + ";");
            int each = three.equals("7 7 7") ? 1 : 6;
            x.putTile(0, 12, 0);
            Check.equal("in the midst, " + three, x.looksToProve(1), 6 * each);
            x.takeTile(0);
            x.putTile(0, 0, 0);
            Check.equal("in a corner, " + three, x.looksToProve(1), 2 * each);
            x.takeTile(0);
            x.putTile(0, 4, 0);
            Check.equal("in another corner, " + three, x.looksToProve(1), 3 * each);
        }
        Check.sentence("Throws `IllegalStateException` if it is not left over");
        RingDomino x = Check.taught("tile a 1 1 1;tile b 1 7 7;tile c 7 7 7;");
        for (int tile = 0; tile < 3; tile++) {
            int one = tile;
            Check.illegalState("the empty board, " + tile, () -> x.looksToProve(one));
        }
        x.putTile(0, 12, 0);
        Check.illegalState("it lies", () -> x.looksToProve(0));
        Check.illegalState("it fits", () -> x.looksToProve(1));
        Check.equal("it is left over", x.looksToProve(2), 6);
        RingDomino full = Check.taught("board 3 by 3;" + tiles(10, "1 1 1"));
        for (int n = 0; n < 8; n++) {
            full.fitTile(n);
        }
        Check.illegalState("one cell is free", () -> full.looksToProve(9));
        full.fitTile(8);
        Check.equal("no cell is free", full.looksToProve(9), 0);
    }

    private static void pairsToLookAt() {
        Check.sentence("how many pairs of a cell without a tile, beside one with a tile, and of a way to turn it");
        RingDomino x = Check.taught("board 7 by 7;" + tiles(7, "1 1 1") + "tile x 7 7 7;tile y 7 7 8;");
        int[] cells = {24, 25, 32, 31, 30, 23, 17};
        // A cell that is beside several tiles counts once, and a cell with a tile does not count.
        int[] due = {6, 8, 10, 10, 11, 12, 13};
        for (int n = 0; n < 7; n++) {
            x.putTile(n, cells[n], 0);
            Check.equal("open cells of " + (n + 1), x.looksToProve(7), due[n]);
            Check.equal("six ways each", x.looksToProve(8), 6 * due[n]);
        }
    }

    // ---- by hand

    private static void putTile() {
        Check.sentence("Throws `IllegalStateException` if it lies somewhere, or does not fit there so");
        RingDomino x = ring(2);
        Check.illegalState("it lies there so", () -> x.putTile(0, 5, 0));
        Check.illegalState("it lies elsewhere", () -> x.putTile(0, 4, 0));
        Check.illegalState("a tile lies there", () -> x.putTile(2, 5, 0));
        Check.illegalState("no tile beside", () -> x.putTile(2, 0, 0));
        for (int turn = 0; turn < 6; turn++) {
            int one = turn;
            Check.illegalState("does not match, turned by " + turn, () -> x.putTile(7, 4, one));
        }
        Check.sentence("Returns how many points more there are then.");
        RingDomino y = Check.taught(RING);
        int[] due = {0, 1, 1, 1, 1, 12};
        for (int n = 0; n < 6; n++) {
            Check.equal("points more with " + n, y.putTile(n, AROUND[n], 0), due[n]);
        }
        Check.equal("points of the midst", y.putTile(6, 4, 0), 6);
    }

    private static void takeTile() {
        Check.sentence("Returns how many points fewer there are then.");
        RingDomino x = ring(6);
        x.putTile(6, 4, 0);
        Check.equal("the midst", x.takeTile(6), 6);
        int[] due = {12, 1, 1, 1, 1, 0};
        for (int n = 0; n < 6; n++) {
            Check.equal("points fewer with " + n, x.takeTile(n), due[n]);
        }
        Check.equal("no points left", x.points(), 0);
        Check.equal("no tile left", x.placedTiles(), 0);
    }

    private static void fitTile() {
        Check.sentence("Throws `IllegalStateException` if it has no way");
        RingDomino x = ring(6);
        Check.illegalState("fitTile of one that lies", () -> x.fitTile(0));
        Check.illegalState("fitTile of one left over", () -> x.fitTile(7));
        Check.illegalState("bestCell of one that lies", () -> x.bestCell(0));
        Check.illegalState("bestCell of one left over", () -> x.bestCell(7));
        Check.illegalState("bestTurn of one that lies", () -> x.bestTurn(0));
        Check.illegalState("bestTurn of one left over", () -> x.bestTurn(7));
        RingDomino full = Check.taught("board 3 by 3;" + tiles(10, "1 1 1"));
        for (int n = 0; n < 9; n++) {
            Check.equal("fitTile " + n, full.fitTile(n), n);
        }
        Check.illegalState("fitTile on a full board", () -> full.fitTile(9));
        Check.illegalState("bestCell on a full board", () -> full.bestCell(9));
        Check.illegalState("bestTurn on a full board", () -> full.bestTurn(9));
        Check.sentence("Puts a tile as an order to fit it does.");
        RingDomino y = Check.taught("tile a 1 2 3;tile b 4 5 2;");
        y.putTile(0, 24, 1);
        // Turned by 1, a has 2 at the edges 3 and 4, towards the cells 23 and 19.
        Check.equal("the smaller cell", y.fitTile(1), 19);
        Check.equal("the smaller turn", y.turnOf(1), 2);
    }

    // ---- rounds

    private static void playRounds() {
        Check.sentence("Returns how many orders are carried out in them.");
        Check.equal("no orders", Check.taught("tile a 1 1 1;").playRounds(20), 0);
        RingDomino x = Check.taught("tile a 1 1 1;fit a when round=20;");
        Check.equal("not in the first twenty", x.playRounds(20), 0);
        Check.equal("in the next one", x.playRounds(1), 1);
        Check.equal("rounds", x.rounds(), 21);
        RingDomino y = Check.taught("tile a 1 1 1;" + "fit a;take a;".repeat(8));
        Check.equal("all of sixteen", y.playRounds(1), 16);
        Check.equal("none of them left", y.placedTiles(), 0);
    }

    private static void pointsAfter() {
        Check.sentence("Returns all points behind them, if nothing is done by hand (nothing is changed).");
        RingDomino x = ring(5);
        Check.equal("no orders", x.pointsAfter(1), 4);
        Check.equal("no orders, twenty rounds", x.pointsAfter(20), 4);
        Check.equal("a ring counts", ring(6).pointsAfter(20), 16);
        RingDomino y = Check.taught(RING + "put f at 2,0 turned 5 when round=20;take a when round=21;take f when round=21;");
        for (int n = 0; n < 5; n++) {
            y.putTile(n, AROUND[n], n);
        }
        long digest = y.digest();
        Check.equal("behind twenty not yet", y.pointsAfter(20), 4);
        Check.equal("the digest stays", y.digest(), digest);
        y.playRounds(1);
        digest = y.digest();
        Check.equal("behind nineteen not yet", y.pointsAfter(19), 4);
        Check.equal("behind twenty", y.pointsAfter(20), 16);
        Check.equal("the digest stays again", y.digest(), digest);
        Check.equal("the rounds stay", y.rounds(), 1);
        y.playRounds(20);
        Check.equal("now", y.points(), 16);
        Check.equal("opened then", y.pointsAfter(1), 3);
        for (int n = 0; n < 6; n++) {
            Check.equal("tile " + n + " lies where it lay", y.cellOf(n), AROUND[n]);
            Check.equal("tile " + n + " is turned as it was", y.turnOf(n), n);
        }
        Check.equal("carried out then", y.playRounds(1), 2);
        Check.equal("points then", y.points(), 3);
    }

    private static RingDomino closingAt(int round) {
        RingDomino x = Check.taught(RING + "put f at 2,0 turned 0 when round=" + round + ";");
        for (int n = 0; n < 5; n++) {
            x.putTile(n, AROUND[n], n);
        }
        return x;
    }

    private static void roundsUntilRing() {
        Check.sentence("0 if there is one now, at most 20; -1 if not by then (nothing is changed).");
        for (int round = 0; round <= 25; round++) {
            RingDomino x = closingAt(round);
            long digest = x.digest();
            Check.equal("closing in round " + round, x.roundsUntilRing(), round < 20 ? round + 1 : -1);
            Check.equal("the digest stays, " + round, x.digest(), digest);
            x.playRounds(5);
            int due = round < 5 ? 0 : round < 25 ? round - 4 : -1;
            Check.equal("five rounds on, " + round, x.roundsUntilRing(), due);
            Check.equal("the rounds stay, " + round, x.rounds(), 5);
        }
        Check.equal("one now", ring(6).roundsUntilRing(), 0);
        Check.equal("never", ring(5).roundsUntilRing(), -1);
        Check.equal("no tiles", new RingDomino().roundsUntilRing(), -1);
    }

    private static void firstRing() {
        Check.sentence("Returns behind how many rounds some ring is closed for the first time, if nothing is done by hand");
        RingDomino x = Check.taught(RING + "take f when round=4;take f when round=1;put f at 2,0 turned 0 when round=0 or"
                + " round=3 or round=9;");
        for (int n = 0; n < 5; n++) {
            x.putTile(n, AROUND[n], n);
        }
        int[] due = {1, 0, 2, 1, 0, 5, 4, 3, 2, 1, 0, 0};
        for (int n = 0; n < due.length; n++) {
            Check.equal("with " + n + " rounds gone", x.roundsUntilRing(), due[n]);
            x.playRounds(1);
        }
        RingDomino y = ring(6);
        y.takeTile(0);
        Check.equal("opened by hand", y.roundsUntilRing(), -1);
        y.putTile(0, 5, 0);
        Check.equal("closed by hand", y.roundsUntilRing(), 0);
        RingDomino now = Check.taught(RING + "take a;");
        for (int n = 0; n < 6; n++) {
            now.putTile(n, AROUND[n], n);
        }
        Check.equal("now, though it opens at once", now.roundsUntilRing(), 0);
    }

    // ---- what would be best

    private static void bestCell() {
        Check.sentence("Returns the cell at which it had best be put, so that there are the most points, of several the smallest"
                + " number (nothing is changed).");
        RingDomino x = Check.taught("board 7 by 7;tile a 0 0 0;tile b 0 0 0;tile c 0 0 5;tile d 5 0 0;");
        Check.equal("the empty board", x.bestCell(3), 0);
        x.putTile(0, 24, 0);
        Check.equal("no points anywhere", x.bestCell(1), 17);
        // c turns its 5 to the edges 0 and 1, towards the cells 32 and 38.
        x.putTile(2, 31, 2);
        long digest = x.digest();
        Check.equal("the first with 5 points", x.bestCell(3), 32);
        Check.equal("no points, of several the smallest", x.bestCell(1), 17);
        Check.equal("nothing is changed", x.digest(), digest);
        RingDomino ring = ring(5);
        Check.equal("the ring's points count", ring.bestCell(5), 2);
        RingDomino full = Check.taught("board 3 by 3;" + tiles(10, "1 1 1"));
        for (int n = 0; n < 8; n++) {
            full.putTile(n, n, 0);
        }
        Check.equal("the last cell", full.bestCell(9), 8);
        full.takeTile(0);
        Check.equal("two matches at 0 and at 8", full.bestCell(9), 0);
        full.takeTile(4);
        Check.equal("six matches at 4", full.bestCell(9), 4);
        bestRing();
    }

    /** A ring's ten points against those of two matches. */
    private static void bestRing() {
        int[] around = {25, 31, 30, 23, 17};
        for (int number = 0; number <= 9; number++) {
            String others = "tile x 0 N N;tile y N N N;tile z 0 0 N;".replace("N", "" + number);
            RingDomino x = Check.taught("board 7 by 7;" + tiles(5, "0 0 0") + others);
            for (int n = 0; n < 5; n++) {
                x.putTile(n, around[n], 0);
            }
            // x turns its zeros to the ring and its number to the cells 39 and 44, which y touches, too.
            x.putTile(5, 38, 4);
            x.putTile(6, 45, 0);
            Check.equal("a ring or two matches of " + number, x.bestCell(7), number > 5 ? 39 : 18);
            Check.equal("its points", x.putTile(7, x.bestCell(7), x.bestTurn(7)), number > 5 ? 2 * number : 10);
        }
    }

    private static void bestTurn() {
        Check.sentence("Returns by how much it had best be turned at bestCell(), so that there are the most points, of several"
                + " the smallest number (nothing is changed).");
        RingDomino x = Check.taught("tile a 1 2 3;tile b 1 1 1;");
        Check.equal("the empty board", x.bestTurn(0), 0);
        Check.equal("the empty board, one number", x.bestTurn(1), 0);
        int[] around = {13, 17, 16, 11, 7, 8};
        for (int edge = 0; edge < 6; edge++) {
            RingDomino y = Check.taught("tile a 1 1 1;tile b 2 1 1;tile c 1 2 3;");
            y.putTile(0, around[edge], 0);
            y.putTile(1, around[(edge + 1) % 6], (edge + 3) % 6);
            // Only so c has its 1 at this edge of cell 12 and its 2 at the next one.
            long digest = y.digest();
            Check.equal("between 1 and 2, edge " + edge, y.bestCell(2), 12);
            Check.equal("its only turn, edge " + edge, y.bestTurn(2), (edge + 5) % 6);
            Check.equal("nothing is changed", y.digest(), digest);
            Check.equal("its points", y.putTile(2, y.bestCell(2), y.bestTurn(2)), 3);
        }
        for (int turn = 0; turn < 6; turn++) {
            // a turns its 9 to the edges turn and turn + 1; b has its own there with two turns.
            RingDomino z = Check.taught("board 3 by 3;tile a 9 8 8;tile b 9 7 7;");
            z.putTile(0, 4, turn);
            int[] cells = {5, 7, 6, 3, 1, 2};
            int first = Math.min(cells[turn], cells[(turn + 1) % 6]);
            int edge = first == cells[turn] ? (turn + 3) % 6 : (turn + 4) % 6;
            Check.equal("the cell beside the 9, " + turn, z.bestCell(1), first);
            Check.equal("the smaller of two turns, " + turn, z.bestTurn(1), edge == 0 ? 0 : edge - 1);
        }
    }

    private static void bestTile() {
        Check.sentence("Returns the tile that had best be put, where it is best, so that there are the most points, of several"
                + " the smallest number; -1 if none has a way (nothing is changed).");
        Check.equal("no tiles", new RingDomino().bestTile(), -1);
        for (int count = 1; count <= 16; count++) {
            Check.equal("the empty board with " + count, Check.taught(tiles(count, "1 2 3")).bestTile(), 0);
        }
        RingDomino x = Check.taught("tile a 0 0 0;tile b 5 5 5;tile c 0 0 0;tile d 0 0 0;tile e 0 5 5;tile f 5 5 5;");
        x.putTile(0, 12, 0);
        Check.equal("no points, of several the smallest", x.bestTile(), 2);
        x.putTile(4, 13, 2);
        long digest = x.digest();
        Check.equal("the most points", x.bestTile(), 1);
        Check.equal("nothing is changed", x.digest(), digest);
        // Beside both fives there are ten points.
        x.putTile(1, x.bestCell(1), 0);
        Check.equal("the last tile", x.bestTile(), 5);
        x.putTile(5, x.bestCell(5), 0);
        x.putTile(2, x.bestCell(2), 0);
        Check.equal("no points again", x.bestTile(), 3);
        x.putTile(3, x.bestCell(3), 0);
        Check.equal("all lie", x.bestTile(), -1);
        RingDomino y = Check.taught("tile a 1 1 1;tile b 2 2 2;");
        y.putTile(0, 12, 0);
        Check.equal("left over", y.bestTile(), -1);
        y.takeTile(0);
        y.putTile(1, 12, 0);
        Check.equal("the other one left over", y.bestTile(), -1);
        Check.equal("the ring's points count", ring(5).bestTile(), 5);
    }

    private static void meanMatch() {
        Check.sentence("Returns the mean number of all matches; 0 without any.");
        Check.equal("a new object", new RingDomino().meanMatch(), 0.0);
        RingDomino x = Check.taught("board 7 by 3;tile a 9 9 9;tile b 9 9 9;tile c 9 9 8;tile d 8 8 8;");
        Check.equal("no tile", x.meanMatch(), 0.0);
        x.putTile(0, 7, 0);
        Check.equal("one tile", x.meanMatch(), 0.0);
        x.putTile(1, 8, 0);
        Check.equal("one match", x.meanMatch(), 9.0);
        // c turns its 8 to the right.
        x.putTile(2, 9, 2);
        Check.equal("two of 9", x.meanMatch(), 9.0);
        x.putTile(3, 10, 0);
        Check.equal("two of 9 and one of 8", x.meanMatch(), 26.0 / 3);
        x.takeTile(0);
        Check.equal("a half", x.meanMatch(), 8.5);
        x.takeTile(2);
        Check.equal("two tiles without a match", x.meanMatch(), 0.0);
        RingDomino zeros = Check.taught("tile a 0 0 0;tile b 0 0 0;");
        zeros.putTile(0, 0, 0);
        zeros.putTile(1, 1, 0);
        Check.equal("a match of 0", zeros.meanMatch(), 0.0);
        Check.equal("a ring is no match", ring(6).meanMatch(), 1.0);
    }

    // ---- the checksum

    private static void digestOfEdges() {
        Check.sentence("A number d starts with 1009; for each of the following numbers x, d becomes d * 31 + x, which wraps"
                + " around as a 64-bit integer (whether something is so counts 1 or 0)");
        long d = 1009;
        int[] heads = {5, 5, 0, 0, 0, 0, 0, 0, 0, -1};
        for (int head : heads) {
            d = d * 31 + head;
        }
        for (int cell = 0; cell < 25; cell++) {
            d = ((d * 31 - 1) * 31 + 0) * 31 + 0;
        }
        Check.equal("a new object", new RingDomino().digest(), d);
        Check.equal("no tile", Check.taught("").digest(), reckoned(new RingDomino()));
        String[] games = {"board 3 by 3;", "board 7 by 7;", tiles(16, "1 1 1"), "board 7 by 7;" + tiles(16, "9 0 9"),
            "board 3 by 3;" + tiles(10, "1 1 1"), "board 4 by 4;" + tiles(16, "2 2 2"), RING};
        for (String game : games) {
            RingDomino x = Check.taught(game);
            Check.equal("at first, " + game, x.digest(), reckoned(x));
            RingDomino full = filled(game);
            Check.equal("as full as can be, " + game, full.digest(), reckoned(full));
            RingDomino later = filled(game);
            later.playRounds(20);
            if (later.tiles() > 1) {
                later.takeTile(1);
            }
            Check.equal("with one taken, " + game, later.digest(), reckoned(later));
        }
    }

    private static RingDomino filled(String game) {
        RingDomino x = Check.taught(game);
        int tiles = x.tiles();
        for (int n = 0; n < tiles; n++) {
            if (x.waysOf(n) > 0) {
                x.putTile(n, x.bestCell(n), x.bestTurn(n));
            }
        }
        return x;
    }

    private static long reckoned(RingDomino x) {
        List<Long> numbers = new ArrayList<>();
        int[] heads = {x.columns(), x.rows(), x.tiles(), x.rounds(), x.placedTiles(), x.matches(), x.points(), x.rings(),
            x.groups(), x.bestTile()};
        for (int head : heads) {
            numbers.add((long) head);
        }
        // No object may be called more than 512 times.
        for (int cell = 0; cell < heads[0] * heads[1]; cell++) {
            numbers.add(x.hasTile(cell) ? (long) x.tileAt(cell) : -1L);
            numbers.add((long) x.matchesOf(cell));
            numbers.add(x.isRing(cell) ? 1L : 0L);
        }
        for (int tile = 0; tile < heads[2]; tile++) {
            numbers.add(x.isPlaced(tile) ? (long) x.turnOf(tile) : -1L);
            numbers.add((long) x.waysOf(tile));
            numbers.add(x.isLeftover(tile) ? 1L : 0L);
        }
        long d = 1009;
        for (long number : numbers) {
            d = d * 31 + number;
        }
        return d;
    }
}
