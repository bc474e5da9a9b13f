/** Promises 1 and 6 to 38, on small games whose answers were worked out by hand. */
public final class PromisesTest {
    /** Six tiles that match wherever they touch, and one that does not. */
    private static final String RING = "board 3 by 3; tile a 1 1 1; tile b 1 1 1; tile c 1 1 1;"
            + "tile d 1 1 1; tile e 1 1 1; tile f 1 1 1; tile g 2 3 2;";
    /** The cells around cell 4 on a board of 3 by 3, in the order of the edges. */
    private static final int[] AROUND = {5, 7, 6, 3, 1, 2};

    public static void main(String[] args) {
        newObject();
        board();
        countsOfTheGame();
        groups();
        cells();
        numbersAndTurns();
        edges();
        lyingTiles();
        fits();
        edgeAgainst();
        ways();
        leftover();
        putTile();
        takeTile();
        fitTile();
        playRounds();
        putOrders();
        testsOfOrders();
        arithmetic();
        pointsAfter();
        roundsUntilRing();
        best();
        meanMatch();
        digest();
        Check.close("PromisesTest");
    }

    private static RingDomino ring(int tiles) {
        RingDomino x = Check.taught(RING);
        for (int n = 0; n < tiles; n++) {
            x.putTile(n, AROUND[n], n);
        }
        return x;
    }

    private static void newObject() {
        RingDomino x = new RingDomino();
        Check.equal("promise 1: columns", x.columns(), 5);
        Check.equal("promise 1: rows", x.rows(), 5);
        Check.equal("promise 1: tiles", x.tiles(), 0);
        Check.equal("promise 1: rounds", x.rounds(), 0);
        Check.equal("promise 1: placedTiles", x.placedTiles(), 0);
        Check.equal("promise 1: matches", x.matches(), 0);
        Check.equal("promise 1: points", x.points(), 0);
        Check.equal("promise 1: rings", x.rings(), 0);
        Check.equal("promise 1: groups", x.groups(), 0);
        Check.equal("promise 1: errorAt", x.errorAt(), -1);
        Check.equal("promise 1: orders", x.playRounds(20), 0);
        Check.equal("promise 9: rounds without orders", x.rounds(), 20);
        Check.fails("promise 1: hasTile", x.hasTile(24));
        Check.equal("promise 36: no tile", x.bestTile(), -1);
        Check.equal("promise 37: no match", x.meanMatch(), 0.0);
        Check.outOfBounds("promise 20: no tile", () -> x.isPlaced(0));
    }

    private static void board() {
        RingDomino x = Check.taught("board 7 by 4; tile a 1 2 3; tile b 1 2 3; fit a;");
        Check.equal("promise 6: columns", x.columns(), 7);
        Check.equal("promise 7: rows", x.rows(), 4);
        Check.equal("promise 8: tiles", x.tiles(), 2);
        Check.equal("promise 9: none went by", x.rounds(), 0);
        x.playRounds(3);
        x.putTile(1, x.bestCell(1), x.bestTurn(1));
        Check.equal("promise 9: three went by", x.rounds(), 3);
        x.playRounds(20);
        Check.equal("promise 9: 23 went by", x.rounds(), 23);
        x.pointsAfter(5);
        x.roundsUntilRing();
        Check.equal("promise 9: what would be does not count", x.rounds(), 23);
    }

    private static void countsOfTheGame() {
        int[] matches = {0, 0, 1, 2, 3, 4, 6};
        for (int n = 0; n <= 6; n++) {
            RingDomino x = ring(n);
            Check.equal("promise 10: placedTiles of " + n, x.placedTiles(), n);
            Check.equal("promise 11: matches of " + n, x.matches(), matches[n]);
            Check.equal("promise 12: points of " + n, x.points(), n == 6 ? 16 : matches[n]);
            Check.equal("promise 13: rings of " + n, x.rings(), n == 6 ? 1 : 0);
            Check.equal("promise 14: groups of " + n, x.groups(), n == 0 ? 0 : 1);
        }
        // The tile in the midst matches all six around it and leaves the ring closed.
        RingDomino x = Check.taught(RING.replace("2 3 2", "1 1 1"));
        for (int n = 0; n < 6; n++) {
            x.putTile(n, AROUND[n], 0);
        }
        Check.equal("promise 28: the midst", x.putTile(6, 4, 0), 6);
        Check.equal("promise 11: matches with the midst", x.matches(), 12);
        Check.equal("promise 12: points with the midst", x.points(), 22);
        Check.equal("promise 13: rings with the midst", x.rings(), 1);
        Check.holds("promise 19: a ring around a tile", x.isRing(4));
    }

    private static void groups() {
        RingDomino x = Check.taught("board 5 by 3; tile a 4 4 4; tile b 4 4 4; tile c 4 4 4; tile d 4 4 4; tile e 4 4 4;");
        for (int n = 0; n < 5; n++) {
            x.putTile(n, n, 0);
        }
        Check.equal("promise 14: a row", x.groups(), 1);
        x.takeTile(1);
        Check.equal("promise 14: two parts", x.groups(), 2);
        x.takeTile(3);
        Check.equal("promise 14: three parts", x.groups(), 3);
        Check.equal("promise 11: no match left", x.matches(), 0);
        Check.equal("promise 12: no points left", x.points(), 0);
        x.putTile(1, 6, 0);
        Check.equal("promise 14: cell 6 is beside 2, not beside 0", x.groups(), 3);
        x.putTile(3, 5, 0);
        Check.equal("promise 14: cell 5 is beside 0 and 6", x.groups(), 2);
        x.takeTile(2);
        Check.equal("promise 14: the two at the left and the last one", x.groups(), 2);
    }

    private static void cells() {
        RingDomino x = ring(6);
        Check.holds("promise 15: hasTile", x.hasTile(7));
        Check.fails("promise 15: the midst", x.hasTile(4));
        Check.fails("promise 15: the corner", x.hasTile(8));
        for (int n = 0; n < 6; n++) {
            Check.equal("promise 16: tileAt " + AROUND[n], x.tileAt(AROUND[n]), n);
            Check.equal("promise 18: matchesOf " + AROUND[n], x.matchesOf(AROUND[n]), 2);
            Check.fails("promise 19: isRing " + AROUND[n], x.isRing(AROUND[n]));
        }
        Check.illegalState("promise 16: no tile", () -> x.tileAt(4));
        Check.equal("promise 18: no tile", x.matchesOf(4), 0);
        Check.equal("promise 18: no tile in the corner", x.matchesOf(0), 0);
        Check.holds("promise 19: the ring", x.isRing(4));
        Check.fails("promise 19: the corner", x.isRing(0));
        for (int cell : new int[] {-1, 9, Integer.MIN_VALUE, Integer.MAX_VALUE}) {
            Check.outOfBounds("promise 15: cell " + cell, () -> x.hasTile(cell));
            Check.outOfBounds("promise 16: cell " + cell, () -> x.tileAt(cell));
            Check.outOfBounds("promise 17: cell " + cell, () -> x.numberAt(cell, 0));
            Check.outOfBounds("promise 18: cell " + cell, () -> x.matchesOf(cell));
            Check.outOfBounds("promise 19: cell " + cell, () -> x.isRing(cell));
        }
        x.takeTile(3);
        Check.fails("promise 19: opened", x.isRing(4));
        Check.fails("promise 15: taken", x.hasTile(3));
        Check.equal("promise 18: one less", x.matchesOf(1), 1);
        Check.equal("promise 18: as many", x.matchesOf(5), 2);
    }

    private static void numbersAndTurns() {
        RingDomino x = Check.taught("tile a 4 5 6;");
        int[] unturned = {4, 4, 5, 5, 6, 6};
        for (int turn = 0; turn < 6; turn++) {
            x.putTile(0, 12, turn);
            Check.equal("promise 22: turn " + turn, x.turnOf(0), turn);
            for (int edge = 0; edge < 6; edge++) {
                Check.equal("promise 17: edge " + edge + " turned " + turn, x.numberAt(12, edge),
                        unturned[(edge - turn + 6) % 6]);
            }
            x.takeTile(0);
        }
        Check.illegalState("promise 17: no tile", () -> x.numberAt(12, 0));
        Check.outOfBounds("promise 17: edge 6", () -> x.numberAt(12, 6));
        Check.outOfBounds("promise 17: edge -1", () -> x.numberAt(12, -1));
        Check.outOfBounds("promise 17: no cell and no edge", () -> x.numberAt(25, 6));
    }

    /** Which cells lie beside a cell, and which edges touch. */
    private static void edges() {
        int[] beside = {13, 17, 16, 11, 7, 8};
        for (int edge = 0; edge < 6; edge++) {
            RingDomino x = Check.taught("tile a 1 2 3; tile b 7 8 9;");
            x.putTile(0, 12, 0);
            // Turned so, b's edges against a and the next one bear 7.
            int turn = (edge + 3) % 6;
            Check.equal("promise 24: edge " + edge, x.edgeAgainst(1, beside[edge], turn), (edge + 3) % 6);
            RingDomino y = Check.taught("tile a 1 2 3; tile b " + (edge / 2 + 1) + " 8 9;");
            y.putTile(0, 12, 0);
            Check.holds("promise 23: edge " + edge, y.fits(1, beside[edge], turn));
            Check.holds("promise 23: edge " + edge + " turned one less", y.fits(1, beside[edge], (turn + 5) % 6));
            Check.fails("promise 23: edge " + edge + " turned one more", y.fits(1, beside[edge], (turn + 1) % 6));
            Check.equal("promise 28: edge " + edge, y.putTile(1, beside[edge], turn), edge / 2 + 1);
            Check.equal("promise 11: edge " + edge, y.matches(), 1);
        }
        // On the greatest board the last cells have no more cells behind them.
        RingDomino z = Check.taught("board 7 by 7; tile a 1 1 1; tile b 1 1 1;");
        for (int cell : new int[] {48, 42, 6, 0}) {
            z.putTile(0, cell, 0);
            Check.equal("promise 25: beside corner " + cell, z.waysOf(1), cell == 0 || cell == 48 ? 12 : 18);
            z.takeTile(0);
        }
        // No cell goes on at the other side of the board.
        RingDomino x = Check.taught("board 3 by 3; tile a 1 1 1; tile b 1 1 1;");
        x.putTile(0, 5, 0);
        Check.fails("promise 23: the next row is not beside", x.fits(1, 6, 0));
        Check.equal("promise 25: beside the right rim", x.waysOf(1), 24);
        x.takeTile(0);
        x.putTile(0, 0, 0);
        Check.equal("promise 25: beside the corner", x.waysOf(1), 12);
        x.takeTile(0);
        x.putTile(0, 2, 0);
        Check.equal("promise 25: beside the other corner", x.waysOf(1), 18);
    }

    private static void lyingTiles() {
        RingDomino x = Check.taught("tile a 1 2 3; tile b 4 5 6;");
        Check.fails("promise 20: not yet", x.isPlaced(0));
        x.putTile(0, 24, 5);
        Check.holds("promise 20: placed", x.isPlaced(0));
        Check.fails("promise 20: the other", x.isPlaced(1));
        Check.equal("promise 21: cell", x.cellOf(0), 24);
        Check.equal("promise 22: turn", x.turnOf(0), 5);
        Check.illegalState("promise 21: nowhere", () -> x.cellOf(1));
        Check.illegalState("promise 22: nowhere", () -> x.turnOf(1));
        for (int tile : new int[] {-1, 2, Integer.MIN_VALUE, Integer.MAX_VALUE}) {
            Check.outOfBounds("promise 20: tile " + tile, () -> x.isPlaced(tile));
            Check.outOfBounds("promise 21: tile " + tile, () -> x.cellOf(tile));
            Check.outOfBounds("promise 22: tile " + tile, () -> x.turnOf(tile));
            Check.outOfBounds("promise 23: tile " + tile, () -> x.fits(tile, 0, 0));
            Check.outOfBounds("promise 24: tile " + tile, () -> x.edgeAgainst(tile, 0, 0));
            Check.outOfBounds("promise 25: tile " + tile, () -> x.waysOf(tile));
            Check.outOfBounds("promise 26: tile " + tile, () -> x.isLeftover(tile));
            Check.outOfBounds("promise 27: tile " + tile, () -> x.looksToProve(tile));
            Check.outOfBounds("promise 28: tile " + tile, () -> x.putTile(tile, 0, 0));
            Check.outOfBounds("promise 29: tile " + tile, () -> x.takeTile(tile));
            Check.outOfBounds("promise 30: tile " + tile, () -> x.fitTile(tile));
            Check.outOfBounds("promise 34: tile " + tile, () -> x.bestCell(tile));
            Check.outOfBounds("promise 35: tile " + tile, () -> x.bestTurn(tile));
        }
    }

    private static void fits() {
        RingDomino x = Check.taught("tile a 1 2 3; tile b 1 5 2; tile c 0 0 0;");
        for (int turn = 0; turn < 6; turn++) {
            Check.holds("promise 23: the empty board, turned " + turn, x.fits(2, 24, turn));
        }
        x.putTile(0, 12, 0);
        Check.fails("promise 23: it lies", x.fits(0, 0, 0));
        Check.fails("promise 23: it lies there", x.fits(0, 12, 0));
        Check.fails("promise 23: a tile lies there", x.fits(1, 12, 0));
        Check.fails("promise 23: no tile beside", x.fits(1, 14, 0));
        Check.holds("promise 23: 1 at edge 3", x.fits(1, 13, 3));
        Check.fails("promise 23: 5 at edge 3", x.fits(1, 13, 1));
        x.putTile(1, 13, 3);
        // Cell 17 is beside 12 (with its edge 4, against 1) and beside 13 (with its edge 5).
        Check.equal("promise 17: number at edge 2", x.numberAt(13, 2), 2);
        Check.fails("promise 23: one of two is not enough", x.fits(2, 17, 0));
        Check.outOfBounds("promise 23: cell 25", () -> x.fits(0, 25, 0));
        Check.outOfBounds("promise 23: cell -1", () -> x.fits(0, -1, 0));
        Check.outOfBounds("promise 23: turn 6", () -> x.fits(0, 0, 6));
        Check.outOfBounds("promise 23: turn -1", () -> x.fits(0, 0, -1));
        x.takeTile(0);
        x.takeTile(1);
        Check.holds("promise 23: empty again", x.fits(0, 3, 3));
        RingDomino y = Check.taught("tile a 0 0 0; tile b 0 0 0; tile c 9 9 9;");
        y.putTile(0, 12, 0);
        Check.holds("promise 23: zeros match", y.fits(1, 11, 2));
        Check.fails("promise 23: zeros and nines do not", y.fits(2, 11, 2));
        Check.equal("promise 28: a match of zeros", y.putTile(1, 11, 2), 0);
        Check.equal("promise 11: a match of zeros counts", y.matches(), 1);
        Check.equal("promise 37: a mean of zero", y.meanMatch(), 0.0);
    }

    private static void edgeAgainst() {
        RingDomino x = Check.taught("tile a 1 1 1; tile b 1 1 1; tile c 2 2 1; tile d 1 1 1;");
        Check.equal("promise 24: the empty board", x.edgeAgainst(2, 12, 0), -1);
        x.putTile(0, 12, 0);
        x.putTile(1, 13, 0);
        Check.equal("promise 24: cell 17 not turned", x.edgeAgainst(2, 17, 0), -1);
        Check.equal("promise 24: cell 17 turned by 1", x.edgeAgainst(2, 17, 1), 4);
        Check.equal("promise 24: cell 17 turned by 5", x.edgeAgainst(2, 17, 5), 5);
        Check.equal("promise 24: cell 17 turned by 3", x.edgeAgainst(2, 17, 3), 4);
        Check.equal("promise 24: no tile beside", x.edgeAgainst(2, 0, 0), -1);
        RingDomino y = Check.taught("tile a 0 0 0; tile b 1 0 0;");
        y.putTile(0, 6, 0);
        Check.equal("promise 24: 0 is another number than 1", y.edgeAgainst(1, 5, 0), 0);
        Check.equal("promise 24: 0 and 0", y.edgeAgainst(1, 5, 2), -1);
        Check.equal("promise 24: all match", x.edgeAgainst(3, 17, 0), -1);
        Check.equal("promise 24: on a tile", x.edgeAgainst(2, 12, 0), 0);
        Check.equal("promise 24: a tile that lies", x.edgeAgainst(1, 13, 0), -1);
        Check.outOfBounds("promise 24: cell 25", () -> x.edgeAgainst(0, 25, 0));
        Check.outOfBounds("promise 24: cell -1", () -> x.edgeAgainst(0, -1, 0));
        Check.outOfBounds("promise 24: turn 6", () -> x.edgeAgainst(0, 0, 6));
        Check.outOfBounds("promise 24: turn -1", () -> x.edgeAgainst(0, 0, -1));
    }

    private static void ways() {
        RingDomino x = Check.taught("board 3 by 4; tile a 1 2 3; tile b 1 5 6; tile c 7 7 7; tile d 3 3 3;");
        Check.equal("promise 25: the empty board", x.waysOf(2), 72);
        x.putTile(0, 4, 0);
        Check.equal("promise 25: lies", x.waysOf(0), 0);
        Check.equal("promise 25: two cells, two turns each", x.waysOf(1), 4);
        Check.equal("promise 25: none", x.waysOf(2), 0);
        Check.equal("promise 25: two cells, six turns each", x.waysOf(3), 12);
        x.takeTile(0);
        x.putTile(0, 0, 0);
        Check.equal("promise 25: in the corner", x.waysOf(3), 0);
    }

    private static void leftover() {
        RingDomino x = Check.taught("board 3 by 3; tile a 1 2 3; tile b 1 5 6; tile c 7 7 7; tile d 8 7 7; tile e 7 8 7;"
                + "tile f 7 7 8;");
        Check.fails("promise 26: the empty board", x.isLeftover(2));
        Check.illegalState("promise 27: the empty board", () -> x.looksToProve(2));
        x.putTile(0, 4, 0);
        Check.fails("promise 26: lies", x.isLeftover(0));
        Check.fails("promise 26: fits", x.isLeftover(1));
        Check.holds("promise 26: left over", x.isLeftover(2));
        Check.illegalState("promise 27: lies", () -> x.looksToProve(0));
        Check.illegalState("promise 27: fits", () -> x.looksToProve(1));
        Check.equal("promise 27: one way to turn it", x.looksToProve(2), 6);
        Check.equal("promise 27: six ways to turn it", x.looksToProve(3), 36);
        Check.equal("promise 27: the second is another", x.looksToProve(4), 36);
        Check.equal("promise 27: the third is another", x.looksToProve(5), 36);
        x.putTile(1, 5, 3);
        Check.equal("promise 27: five cells and one more are open", x.looksToProve(2), 6);
        x.takeTile(0);
        Check.equal("promise 27: cells beside 5", x.looksToProve(3), 24);
        x.takeTile(1);
        x.putTile(1, 1, 0);
        Check.equal("promise 27: cell 0 counts, too", x.looksToProve(2), 4);
        StringBuilder full = new StringBuilder("board 3 by 3;");
        for (int n = 0; n < 10; n++) {
            full.append("tile t").append((char) ('a' + n)).append(" 1 1 1;");
        }
        RingDomino y = Check.taught(full.toString());
        for (int n = 0; n < 9; n++) {
            Check.equal("promise 30: cell " + n, y.fitTile(n), n);
        }
        Check.holds("promise 26: a full board", y.isLeftover(9));
        Check.equal("promise 27: a full board", y.looksToProve(9), 0);
        Check.equal("promise 11: a full board", y.matches(), 16);
        Check.equal("promise 13: a full board", y.rings(), 1);
    }

    private static void putTile() {
        RingDomino x = ring(5);
        Check.outOfBounds("promise 28: cell 9", () -> x.putTile(5, 9, 0));
        Check.outOfBounds("promise 28: cell -1", () -> x.putTile(5, -1, 0));
        Check.outOfBounds("promise 28: turn 6", () -> x.putTile(5, 2, 6));
        Check.outOfBounds("promise 28: turn -1", () -> x.putTile(5, 2, -1));
        Check.outOfBounds("promise 28: it lies, and there is no such cell", () -> x.putTile(0, 9, 0));
        Check.illegalState("promise 28: it lies", () -> x.putTile(0, 2, 0));
        Check.illegalState("promise 28: a tile lies there", () -> x.putTile(5, 5, 0));
        Check.illegalState("promise 28: does not match", () -> x.putTile(6, 2, 0));
        long digest = x.digest();
        Check.illegalState("promise 28: does not match", () -> x.putTile(6, 4, 0));
        Check.equal("promise 28: a throw changes nothing", x.digest(), digest);
        Check.equal("promise 28: two matches and a ring", x.putTile(5, 2, 5), 12);
        Check.equal("promise 28: turn", x.turnOf(5), 5);
        Check.equal("promise 28: points", x.points(), 16);
        RingDomino y = Check.taught(RING);
        y.putTile(0, 0, 0);
        Check.illegalState("promise 28: no tile beside", () -> y.putTile(1, 2, 0));
        Check.illegalState("promise 28: corners are not beside the midst", () -> y.putTile(1, 4, 0));
    }

    private static void takeTile() {
        RingDomino x = ring(6);
        Check.illegalState("promise 29: nowhere", () -> x.takeTile(6));
        Check.equal("promise 29: two matches and a ring", x.takeTile(2), 12);
        Check.equal("promise 29: points", x.points(), 4);
        Check.fails("promise 29: placed", x.isPlaced(2));
        Check.illegalState("promise 29: twice", () -> x.takeTile(2));
        Check.equal("promise 29: one match", x.takeTile(1), 1);
        Check.equal("promise 29: one more", x.takeTile(0), 1);
        Check.equal("promise 29: and another", x.takeTile(3), 1);
        Check.equal("promise 29: of two", x.takeTile(4), 1);
        Check.equal("promise 29: the last", x.takeTile(5), 0);
        Check.equal("promise 29: placedTiles", x.placedTiles(), 0);
        Check.equal("promise 25: all ways again", x.waysOf(6), 54);
    }

    private static void fitTile() {
        RingDomino x = Check.taught("board 4 by 3; tile a 1 2 3; tile b 3 4 4; tile c 5 5 5; tile d 2 2 9;");
        Check.equal("promise 30: the empty board", x.fitTile(0), 0);
        Check.equal("promise 30: not turned", x.turnOf(0), 0);
        Check.illegalState("promise 30: it lies", () -> x.fitTile(0));
        Check.illegalState("promise 30: left over", () -> x.fitTile(2));
        x.takeTile(0);
        x.putTile(0, 5, 0);
        // Edge 4 of cell 5 bears 3 and touches edge 1 of cell 1, where b bears 3 turned by 0 or 1.
        Check.equal("promise 30: the smallest cell", x.fitTile(1), 1);
        Check.equal("promise 30: the smallest turn", x.turnOf(1), 0);
        // Edges 2 and 3 of cell 5 bear 2; cell 4 touches with edge 0, but it is beside cell 1 with edge 5, too.
        Check.equal("promise 30: a cell that matches both", x.fitTile(3), 8);
        Check.equal("promise 30: its turn", x.turnOf(3), 2);
        RingDomino y = Check.taught("tile a 1 1 1; tile b 5 1 2; tile c 1 1 2;");
        y.putTile(0, 12, 0);
        Check.equal("promise 30: beside a", y.fitTile(2), 7);
        // Edge 4 of cell 7 bears 2 and touches edge 1 of cell 2, where b bears 2 turned by 2 or 3.
        Check.equal("promise 30: beside c", y.fitTile(1), 2);
        Check.equal("promise 30: turned by 2", y.turnOf(1), 2);
    }

    private static void playRounds() {
        RingDomino x = Check.taught("tile a 1 1 1; tile b 1 1 1; fit a; take b; fit b when round = 2; take a when on b;");
        for (int rounds : new int[] {0, 21, -1, Integer.MIN_VALUE, Integer.MAX_VALUE}) {
            Check.illegalArgument("promise 31: " + rounds + " rounds", () -> x.playRounds(rounds));
            Check.illegalArgument("promise 32: " + rounds + " rounds", () -> x.pointsAfter(rounds));
        }
        Check.equal("promise 31: a is fitted once", x.playRounds(2), 1);
        Check.equal("promise 31: b is fitted, a taken", x.playRounds(1), 2);
        Check.equal("promise 31: b lies", x.cellOf(1), 1);
        Check.fails("promise 31: a does not", x.isPlaced(0));
        // a is put at 0, b is taken, and then nothing changes.
        Check.equal("promise 31: the last rounds", x.playRounds(17), 2);
        Check.equal("promise 9: rounds", x.rounds(), 20);
        Check.fails("promise 31: b was taken", x.isPlaced(1));
    }

    private static void putOrders() {
        RingDomino x = Check.taught("board 4 by 3; tile a 1 2 3; put a at -1, 0 - 2 turned -1;");
        Check.equal("promise 31: put", x.playRounds(1), 1);
        Check.equal("promise 31: remainders 3 and 1", x.cellOf(0), 7);
        Check.equal("promise 31: turned by 5", x.turnOf(0), 5);
        RingDomino y = Check.taught("board 4 by 3; tile a 1 2 3; put a at 6, 4 turned 9;");
        y.playRounds(1);
        Check.equal("promise 31: remainders 2 and 1", y.cellOf(0), 6);
        Check.equal("promise 31: turned by 3", y.turnOf(0), 3);
        RingDomino z = Check.taught("tile a 1 2 3; tile b 4 5 6; put a at 2, 2 turned 0; put b at 3, 2 turned 0;"
                + "put a at 0, 0 turned 0; put b at 2, 2 turned 0; put b at 4, 4 turned 0;");
        Check.equal("promise 31: only where it fits", z.playRounds(20), 1);
        Check.equal("promise 31: it lies where it was put first", z.cellOf(0), 12);
        Check.fails("promise 31: b does not lie", z.isPlaced(1));
    }

    /** Whether an order with this test is carried out on a game with tile a at cell 0, after two rounds. */
    private static void test(String test, boolean due) {
        RingDomino x = Check.taught("board 3 by 4; tile a 1 1 1; tile b 1 1 1; tile c 2 2 2; take b when " + test + ";");
        x.playRounds(2);
        x.putTile(0, 0, 0);
        x.putTile(1, 1, 0);
        Check.equal("promise 31: " + test, x.playRounds(1), due ? 1 : 0);
    }

    private static void testsOfOrders() {
        test("1 < 2", true);
        test("2 < 2", false);
        test("3 > 2", true);
        test("2 > 2", false);
        test("2 = 2", true);
        test("2 = 3", false);
        test("2 <= 2", true);
        test("3 <= 2", false);
        test("2 >= 2", true);
        test("1 >= 2", false);
        test("on a", true);
        test("on c", false);
        test("fits a", false);
        test("fits c", false);
        test("not on c", true);
        test("not not on c", false);
        test("on a and on c", false);
        test("on a and on b", true);
        test("on c or on a", true);
        test("on c or on c", false);
        test("on a or on a and on c", true);
        test("on c and on a or on a", true);
        test("[on a or on a] and on c", false);
        test("not on c and on c", false);
        test("not [on c and on c]", true);
        test("not on a or on a", true);
        test("round = 2", true);
        test("placed = 2", true);
        test("matches = 1", true);
        test("points = 1", true);
        test("rings = 0", true);
        test("free = 10", true);
        test("ways of a = 0", true);
        test("ways of c = 0", true);
        RingDomino x = Check.taught("board 3 by 4; tile a 1 1 1; tile b 1 1 1; fit a when ways of a = 72 and fits a;"
                + "fit b when ways of b = 12 and fits b;");
        Check.equal("promise 31: ways and fits", x.playRounds(1), 2);
        RingDomino y = Check.taught(RING + "take a when rings = 1 and points = 16 and matches = 6;");
        for (int n = 0; n < 6; n++) {
            y.putTile(n, AROUND[n], 0);
        }
        Check.equal("promise 31: rings, points and matches", y.playRounds(1), 1);
        RingDomino z = Check.taught("tile a 1 1 1; tile b 1 1 1; fit a when placed = 0; fit b when placed = 1;");
        Check.equal("promise 31: a test holds as its turn comes", z.playRounds(1), 2);
    }

    private static void sum(String sum, int due) {
        String number = due < 0 ? "-" + -(long) due : "" + due;
        RingDomino x = Check.taught("tile a 1 1 1; fit a when " + sum + " = " + number + ";");
        Check.equal("promise 31: " + sum + " = " + number, x.playRounds(1), 1);
    }

    private static void holds(String test) {
        RingDomino x = Check.taught("tile a 1 1 1; fit a when " + test + ";");
        Check.equal("promise 31: " + test, x.playRounds(1), 1);
    }

    private static void arithmetic() {
        sum("2 + 3 * 4", 14);
        sum("(2 + 3) * 4", 20);
        sum("10 - 3 - 2", 5);
        sum("2 - 3", -1);
        sum("10 + 3 - 2", 11);
        sum("10 - 3 + 2", 9);
        sum("10 / 3 * 2 / 4 - 1 + 7 - 2", 5);
        sum("100 / 7 / 2", 7);
        sum("100 / 7 * 2", 28);
        sum("7 / 2", 3);
        sum("-7 / 2", -3);
        sum("7 / -2", -3);
        sum("-7 / -2", 3);
        sum("7 / 0", 0);
        sum("7 / (1 - 1) + 2", 2);
        sum("-2 * 3", -6);
        sum("2 * -3", -6);
        sum("- - 2", 2);
        sum("1 - -1", 2);
        sum("min(3, 2)", 2);
        sum("min(-3, 2)", -3);
        sum("max(3, 2)", 3);
        sum("max(-3, -2) * 2", -4);
        sum("min(1, 2) + max(3, 4)", 5);
        sum("0 * 999999 + 000007", 7);
        // 65536 * 32768 is 2 to the 31st, which wraps around.
        String least = "(65536 * 32768)";
        holds(least + " < 0");
        holds(least + " - 1 > 0");
        holds("-" + least + " = " + least);
        holds(least + " / -1 = " + least);
        holds(least + " + " + least + " = 0");
        holds("65536 * 65536 = 0");
        holds("46341 * 46341 < 0");
        holds(least + " / 2 = -(32768 * 32768)");
        RingDomino x = Check.taught("board 3 by 7; tile a 1 2 3; put a at 65536 * 32768, 65536 * 32768 turned 65536 * 32768;");
        x.playRounds(1);
        Check.equal("promise 31: remainders of the least number", x.cellOf(0), 5 * 3 + 1);
        Check.equal("promise 31: turned by its remainder", x.turnOf(0), 4);
    }

    private static void pointsAfter() {
        RingDomino x = Check.taught("tile a 1 1 1; tile b 1 1 1; tile c 1 1 1; fit a; fit b when round = 1; fit c when round = 2;"
                + "take a when round = 4;");
        long digest = x.digest();
        int[] due = {0, 1, 2, 2, 1, 2};
        for (int n = 1; n <= due.length; n++) {
            Check.equal("promise 32: points after " + n, x.pointsAfter(n), due[n - 1]);
            Check.equal("promise 32: nothing is changed by " + n, x.digest(), digest);
        }
        x.playRounds(2);
        x.takeTile(1);
        x.putTile(1, 5, 3);
        digest = x.digest();
        Check.equal("promise 32: two more", x.pointsAfter(2), 3);
        Check.equal("promise 32: nothing is changed then", x.digest(), digest);
        Check.equal("promise 32: the turn is kept", x.turnOf(1), 3);
        Check.equal("promise 32: twenty", x.pointsAfter(20), 3);
    }

    private static void roundsUntilRing() {
        StringBuilder orders = new StringBuilder(RING);
        for (int n = 0; n < 6; n++) {
            orders.append("put ").append((char) ('a' + n)).append(" at ").append(AROUND[n] % 3).append(",")
                    .append(AROUND[n] / 3).append(" turned 0 when round >= ").append(n * 3 + 4).append(";");
        }
        RingDomino x = Check.taught(orders.toString());
        long digest = x.digest();
        Check.equal("promise 33: behind the 20th", x.roundsUntilRing(), 20);
        Check.equal("promise 33: nothing is changed", x.digest(), digest);
        x.playRounds(1);
        Check.equal("promise 33: one less", x.roundsUntilRing(), 19);
        x.playRounds(19);
        Check.equal("promise 33: now", x.roundsUntilRing(), 0);
        x.takeTile(0);
        Check.equal("promise 33: at once", x.roundsUntilRing(), 1);
        RingDomino y = Check.taught(orders.toString().replace(">= 19", ">= 20"));
        Check.equal("promise 33: not behind 20", y.roundsUntilRing(), -1);
        y.playRounds(1);
        Check.equal("promise 33: behind 20 then", y.roundsUntilRing(), 20);
        Check.equal("promise 33: no orders", ring(5).roundsUntilRing(), -1);
        Check.equal("promise 33: a ring now", ring(6).roundsUntilRing(), 0);
    }

    private static void best() {
        RingDomino x = ring(5);
        Check.equal("promise 34: the ring is best", x.bestCell(5), 2);
        Check.equal("promise 35: turned least", x.bestTurn(5), 0);
        Check.equal("promise 36: only f has a way", x.bestTile(), 5);
        Check.illegalState("promise 34: it lies", () -> x.bestCell(0));
        Check.illegalState("promise 35: it lies", () -> x.bestTurn(0));
        Check.illegalState("promise 34: left over", () -> x.bestCell(6));
        Check.illegalState("promise 35: left over", () -> x.bestTurn(6));
        x.putTile(5, 2, 0);
        Check.equal("promise 36: none has a way", x.bestTile(), -1);
        RingDomino y = Check.taught("tile a 1 2 3; tile b 2 2 5; tile c 3 3 3; tile d 3 3 3; tile e 9 9 9;");
        Check.equal("promise 34: the empty board", y.bestCell(3), 0);
        Check.equal("promise 35: the empty board", y.bestTurn(3), 0);
        Check.equal("promise 36: the empty board", y.bestTile(), 0);
        y.putTile(0, 12, 0);
        // Cells 16 and 11 match with 2, cells 7 and 8 with 3.
        Check.equal("promise 34: the smaller cell", y.bestCell(1), 11);
        Check.equal("promise 35: edge 0 bears 2 turned by 0", y.bestTurn(1), 0);
        Check.equal("promise 34: 3", y.bestCell(2), 7);
        Check.equal("promise 36: of several the smallest", y.bestTile(), 2);
        y.putTile(2, 7, 0);
        // Cell 8 is beside both, and both have 3 there.
        long digest = y.digest();
        Check.equal("promise 34: twice 3", y.bestCell(3), 8);
        Check.equal("promise 36: d", y.bestTile(), 3);
        Check.equal("promise 34: nothing is changed", y.digest(), digest);
        RingDomino w = Check.taught("board 3 by 3; tile a 1 1 1; tile b 1 1 1; tile c 1 2 3;");
        w.putTile(0, 5, 0);
        w.putTile(1, 2, 0);
        // Only cell 4 is beside both, with its edges 0 and 5.
        Check.equal("promise 34: beside both", w.bestCell(2), 4);
        Check.equal("promise 35: turned the most", w.bestTurn(2), 5);
        RingDomino z = Check.taught("tile a 4 5 6; tile b 5 7 4;");
        z.putTile(0, 12, 0);
        // 5 at cell 11 (edge 0) is more than 4 at cell 13; b has it there turned by 0 and by 5.
        Check.equal("promise 34: the most points", z.bestCell(1), 11);
        Check.equal("promise 35: the smallest turn", z.bestTurn(1), 0);
    }

    private static void meanMatch() {
        RingDomino x = Check.taught("tile a 1 2 2; tile b 1 1 1; tile c 2 2 2; tile d 2 2 2;");
        x.putTile(0, 12, 0);
        Check.equal("promise 37: no match", x.meanMatch(), 0.0);
        x.putTile(1, 13, 0);
        Check.equal("promise 37: one of 1", x.meanMatch(), 1.0);
        x.putTile(2, 11, 0);
        Check.equal("promise 37: 1 and 2", x.meanMatch(), 1.5);
        x.putTile(3, 16, 0);
        Check.equal("promise 37: 1 and three of 2", x.meanMatch(), 1.75);
        Check.equal("promise 37: the ring does not count", ring(6).meanMatch(), 1.0);
        RingDomino y = Check.taught("tile a 1 2 2; tile b 1 1 1; tile c 1 1 1; tile d 2 2 2;");
        y.putTile(0, 12, 0);
        y.putTile(1, 13, 0);
        y.putTile(2, 14, 0);
        y.putTile(3, 11, 0);
        Check.equal("promise 37: a third", y.meanMatch(), 4.0 / 3);
    }

    private static void digest() {
        Check.equal("promise 38: a new object", new RingDomino().digest(), reckoned(new RingDomino()));
        for (int n = 0; n <= 6; n++) {
            RingDomino x = ring(n);
            Check.equal("promise 38: of " + n, x.digest(), reckoned(x));
            x.playRounds(n + 1);
            Check.equal("promise 38: of " + n + " behind rounds", x.digest(), reckoned(x));
        }
    }

    private static long reckoned(RingDomino x) {
        long d = 1009;
        long[] heads = {x.columns(), x.rows(), x.tiles(), x.rounds(), x.placedTiles(), x.matches(), x.points(),
            x.rings(), x.groups(), x.bestTile()};
        for (long head : heads) {
            d = d * 31 + head;
        }
        for (int cell = 0; cell < x.columns() * x.rows(); cell++) {
            d = d * 31 + (x.hasTile(cell) ? x.tileAt(cell) : -1);
            d = d * 31 + x.matchesOf(cell);
            d = d * 31 + (x.isRing(cell) ? 1 : 0);
        }
        for (int tile = 0; tile < x.tiles(); tile++) {
            d = d * 31 + (x.isPlaced(tile) ? x.turnOf(tile) : -1);
            d = d * 31 + x.waysOf(tile);
            d = d * 31 + (x.isLeftover(tile) ? 1 : 0);
        }
        return d;
    }
}
