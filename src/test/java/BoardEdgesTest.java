import java.util.ArrayList;
import java.util.List;

/** The boundary cases that the sentences on numbers, board, tiles and rounds name, a method for each sentence. */
public final class BoardEdgesTest {
    private static final int LEAST = Integer.MIN_VALUE;
    private static final int MOST = Integer.MAX_VALUE;
    private static final int[][] SIDES = {{3, 3}, {7, 7}, {3, 7}, {7, 3}, {5, 5}, {4, 6}};

    public static void main(String[] args) {
        wrapAround();
        division();
        remainders();
        sidesOfTheBoard();
        numberedAsTold();
        cellsBeside();
        edgesThatTouch();
        turns();
        fitsOnAnEmptyBoard();
        fitsBesideTiles();
        matches();
        ringAroundACell();
        ringsOfAFullBoard();
        ways();
        leftOver();
        ordersInTheirOrder();
        putOrders();
        takeOrders();
        fitOrders();
        carriedOut();
        roundIsOneGreater();
        numbersOfTests();
        comparisons();
        andAndOr();
        Check.close("BoardEdgesTest");
    }

    // ---- numbers

    /** A sum of the language that is this number; none of its parts has more than six digits. */
    private static String written(int number) {
        return number < 0 ? "-" + -(number / 10000) + "*10000-" + -(number % 10000)
                : number / 10000 + "*10000+" + number % 10000;
    }

    private static void sum(String sum, int due) {
        RingDomino x = Check.taught("tile a 1 1 1;fit a when " + sum + "=" + written(due) + ";");
        Check.equal(sum + " = " + due, x.playRounds(1), 1);
    }

    private static void wrapAround() {
        Check.sentence("sums, differences and products of the language wrap around in 32 bits");
        String least = "(" + written(LEAST) + ")";
        String most = "(" + written(MOST) + ")";
        sum(most, MOST);
        sum(least, LEAST);
        sum(most + "+1", LEAST);
        sum(most + "+" + most, -2);
        sum(least + "+" + least, 0);
        sum(least + "+" + most, -1);
        sum(least + "-1", MOST);
        sum(most + "-(-1)", LEAST);
        sum("0-" + least, LEAST);
        sum(most + "-" + least, -1);
        sum("-" + least, LEAST);
        sum("-" + most, LEAST + 1);
        sum("--" + least, LEAST);
        sum("65536*65536", 0);
        sum("65536*32768", LEAST);
        sum("65535*65537", -1);
        sum("46341*46341", 46341 * 46341);
        sum("999999*999999", 999999 * 999999);
        sum("999999*999999*999999", 999999 * 999999 * 999999);
        sum("-999999*999999", -999999 * 999999);
        sum(least + "*" + least, 0);
        sum(least + "*-1", LEAST);
        sum(most + "*" + most, 1);
        sum(most + "+1-1", MOST);
        sum("min(" + most + "," + most + "+1)", LEAST);
        sum("max(" + least + "," + least + "-1)", MOST);
    }

    private static void division() {
        String least = "(" + written(LEAST) + ")";
        String most = "(" + written(MOST) + ")";
        Check.sentence("/ is cut towards 0");
        sum("7/2", 3);
        sum("-7/2", -3);
        sum("7/-2", -3);
        sum("-7/-2", 3);
        sum("-1/2", 0);
        sum("1/-2", 0);
        sum("1/2", 0);
        sum("999999/(1000*1000)", 0);
        sum("5/6*6", 0);
        sum(least + "/2", LEAST / 2);
        sum(least + "/1", LEAST);
        sum(most + "/-1", -MOST);
        sum(least + "/" + most, -1);
        sum(most + "/" + least, 0);
        sum(least + "/" + least, 1);
        Check.sentence("gives 0 with 0 on the right side");
        sum("7/0", 0);
        sum("-7/0", 0);
        sum("0/0", 0);
        sum(least + "/0", 0);
        sum(most + "/0", 0);
        sum("7/(1-1)+5", 5);
        sum("7/0/0", 0);
        sum("7/rings", 0);
        sum("7/-0", 0);
        Check.sentence("and -2147483648 / -1 gives -2147483648.");
        sum(least + "/-1", LEAST);
        sum(least + "/(1-2)", LEAST);
        sum("(" + least + "-1)/-1", -MOST);
        sum("(" + least + "+1)/-1", MOST);
        sum(least + "/-1/-1", LEAST);
    }

    private static void placed(int columns, int rows, int column, int row, int turn) {
        RingDomino x = Check.taught("board " + columns + " by " + rows + ";tile a 1 1 1;put a at " + written(column) + ","
                + written(row) + " turned " + written(turn) + ";");
        Check.equal("put at " + column + "," + row + " turned " + turn, x.playRounds(1), 1);
        Check.equal("the cell of " + column + "," + row, x.cellOf(0),
                Math.floorMod(row, rows) * columns + Math.floorMod(column, columns));
        Check.equal("the turn of " + turn, x.turnOf(0), Math.floorMod(turn, 6));
    }

    private static void remainders() {
        Check.sentence("by their remainders of columns and rows (0 or greater), turned by the remainder of the third one by"
                + " 6 (likewise)");
        for (int n = -15; n <= 15; n++) {
            placed(3, 7, n, 2, 0);
            placed(7, 4, 2, n, 0);
            placed(5, 5, 2, 2, n);
            placed(4, 5, n, n, n);
        }
        for (int n : new int[] {LEAST, LEAST + 1, MOST, MOST - 1, 999999, -999999}) {
            placed(3, 7, n, n, n);
            placed(7, 3, n, n, n);
            placed(5, 6, n, n, n);
        }
    }

    // ---- the board

    private static void sidesOfTheBoard() {
        Check.sentence("The board has so many columns and rows as its line says, 5 and 5 without one.");
        for (int columns = 3; columns <= 7; columns++) {
            for (int rows = 3; rows <= 7; rows++) {
                RingDomino x = Check.taught("board " + columns + " by " + rows + ";tile a 1 1 1;");
                Check.equal("columns", x.columns(), columns);
                Check.equal("rows", x.rows(), rows);
                int last = columns * rows - 1;
                Check.fails("a tile at the last cell", x.hasTile(last));
                Check.outOfBounds("the cell behind the last", () -> x.hasTile(last + 1));
                Check.equal("put at the last cell", x.putTile(0, last, 0), 0);
                Check.equal("its cell", x.cellOf(0), last);
                x.takeTile(0);
                Check.equal("ways of all cells", x.waysOf(0), columns * rows * 6);
            }
        }
        RingDomino x = Check.taught("board 7 by 6;");
        Check.equal("teach without a board", Check.teach(x, "tile a 1 1 1;"), 0);
        Check.equal("columns without one", x.columns(), 5);
        Check.equal("rows without one", x.rows(), 5);
        Check.outOfBounds("cell 25 without one", () -> x.hasTile(25));
    }

    private static void numberedAsTold() {
        Check.sentence("Tiles and orders are numbered from 0 in the order in which they are told.");
        StringBuilder text = new StringBuilder();
        for (int n = 0; n < 16; n++) {
            // The names are told against the alphabet, and orders stand between them.
            char name = (char) ('z' - n);
            text.append("tile ").append(name).append(' ').append(n % 10).append(' ').append(n / 10).append(" 5;");
            text.append("take ").append(name).append(";");
        }
        RingDomino x = Check.taught(text.toString());
        for (int n = 0; n < 16; n++) {
            x.putTile(n, 3, 0);
            Check.equal("first number of tile " + n, x.numberAt(3, 0), n % 10);
            Check.equal("second number of tile " + n, x.numberAt(3, 2), n / 10);
            Check.equal("tile at 3", x.tileAt(3), n);
            Check.equal("the order of tile " + n, x.playRounds(1), 1);
            Check.fails("tile at 3 behind it", x.hasTile(3));
        }
    }

    /** The cells beside a cell by edge, as the document lists them, -1 off the board. */
    private static int[] beside(int columns, int rows, int cell) {
        int column = cell % columns;
        int row = cell / columns;
        int[][] places = {{column + 1, row}, {column, row + 1}, {column - 1, row + 1}, {column - 1, row},
            {column, row - 1}, {column + 1, row - 1}};
        int[] cells = new int[6];
        for (int edge = 0; edge < 6; edge++) {
            int c = places[edge][0];
            int r = places[edge][1];
            cells[edge] = c >= 0 && c < columns && r >= 0 && r < rows ? r * columns + c : -1;
        }
        return cells;
    }

    private static boolean contains(int[] cells, int cell) {
        for (int one : cells) {
            if (one == cell) {
                return true;
            }
        }
        return false;
    }

    private static void cellsBeside() {
        Check.sentence("The six edges of a cell, and the cells beside it there, as far as they are on the board: 0, column + 1"
                + " in its row; 1, its column in row + 1; 2, column - 1 in row + 1; 3, column - 1 in its row; 4, its column in"
                + " row - 1; 5, column + 1 in row - 1.");
        for (int[] sides : SIDES) {
            int cells = sides[0] * sides[1];
            for (int cell = 0; cell < cells; cell++) {
                RingDomino x = Check.taught("board " + sides[0] + " by " + sides[1] + ";tile a 1 1 1;tile b 1 1 1;tile c 2 2 2;");
                x.putTile(0, cell, 0);
                int[] beside = beside(sides[0], sides[1], cell);
                int count = 0;
                for (int other = 0; other < cells; other++) {
                    boolean touches = contains(beside, other);
                    count += touches ? 1 : 0;
                    String what = "board " + sides[0] + " by " + sides[1] + ", " + other + " beside " + cell;
                    Check.equal(what, x.fits(1, other, 0) ? 1 : 0, touches ? 1 : 0);
                    int edge = x.edgeAgainst(2, other, 0);
                    Check.equal(what + " by its edge", edge < 0 ? -1 : beside(sides[0], sides[1], other)[edge],
                            touches ? cell : -1);
                }
                Check.equal("ways beside " + cell, x.waysOf(1), 6 * count);
                Check.equal("looks beside " + cell, x.looksToProve(2), count);
            }
        }
    }

    private static void edgesThatTouch() {
        Check.sentence("The edge e of a cell touches the edge (e + 3) of the cell beside it, without 6 if that is 6 or more.");
        int[] touched = {3, 4, 5, 0, 1, 2};
        int[] beside = beside(5, 5, 12);
        for (int edge = 0; edge < 6; edge++) {
            for (int turn = 0; turn < 6; turn++) {
                RingDomino x = Check.taught("tile a 7 7 7;tile b 7 8 9;");
                x.putTile(0, 12, 0);
                // b bears its 7 at the edges turn and turn + 1.
                boolean seven = touched[edge] == turn || touched[edge] == (turn + 1) % 6;
                String what = "edge " + edge + ", turned by " + turn;
                Check.equal(what, x.fits(1, beside[edge], turn) ? 1 : 0, seven ? 1 : 0);
                Check.equal(what + " against", x.edgeAgainst(1, beside[edge], turn), seven ? -1 : touched[edge]);
                if (seven) {
                    Check.equal(what + " put", x.putTile(1, beside[edge], turn), 7);
                    Check.equal(what + " number", x.numberAt(beside[edge], touched[edge]), 7);
                }
            }
        }
    }

    private static void turns() {
        Check.sentence("turned by t, 0 to 5, it has at the edge e + t (without 6 if that is 6 or more) what it has at e, not"
                + " turned.");
        int[] unturned = {4, 4, 0, 0, 9, 9};
        RingDomino x = Check.taught("tile a 4 0 9;");
        for (int turn = 0; turn < 6; turn++) {
            x.putTile(0, 12, turn);
            for (int edge = 0; edge < 6; edge++) {
                int turned = edge + turn >= 6 ? edge + turn - 6 : edge + turn;
                Check.equal("edge " + turned + " turned by " + turn, x.numberAt(12, turned), unturned[edge]);
            }
            x.takeTile(0);
        }
        Check.sentence("Each lies on one cell, or on none (none, at first).");
        Check.fails("at first", Check.taught("tile a 1 1 1;").isPlaced(0));
        for (int cell = 0; cell < 25; cell++) {
            Check.fails("at first at " + cell, Check.taught("tile a 1 1 1;").hasTile(cell));
        }
    }

    // ---- where tiles fit

    private static void fitsOnAnEmptyBoard() {
        Check.sentence("or no tile lies on the board at all.");
        RingDomino x = Check.taught("board 4 by 3;tile a 1 2 3;tile b 4 5 6;");
        for (int cell = 0; cell < 12; cell++) {
            for (int turn = 0; turn < 6; turn++) {
                Check.holds("a fits at " + cell + " turned by " + turn, x.fits(0, cell, turn));
            }
        }
        x.putTile(0, 5, 2);
        Check.equal("b has no way beside a", x.waysOf(1), 0);
        x.takeTile(0);
        Check.equal("empty again", x.waysOf(1), 72);
        Check.equal("a, too", x.waysOf(0), 72);
        Check.equal("put at the last cell", x.putTile(1, 11, 5), 0);
    }

    private static void fitsBesideTiles() {
        Check.sentence("A tile that lies nowhere fits at a cell, turned by t, if no tile lies there");
        RingDomino x = Check.taught("tile a 1 1 1;tile b 1 1 1;tile c 1 1 2;tile d 1 1 1;");
        x.putTile(0, 12, 0);
        x.putTile(1, 13, 0);
        for (int cell = 0; cell < 25; cell++) {
            for (int turn = 0; turn < 6; turn++) {
                Check.fails("a, that lies, at " + cell, x.fits(0, cell, turn));
            }
        }
        for (int turn = 0; turn < 6; turn++) {
            Check.fails("c at 12", x.fits(2, 12, turn));
            Check.fails("c at 13", x.fits(2, 13, turn));
        }
        Check.sentence("each tile at a cell beside it has the same number at the edge that it would touch, and there is such a"
                + " tile");
        Check.fails("d where no tile is beside it", x.fits(3, 0, 0));
        Check.fails("d two cells away", x.fits(3, 10, 0));
        Check.holds("d beside one", x.fits(3, 11, 0));
        Check.holds("d beside two", x.fits(3, 17, 0));
        // Cell 17 touches cell 12 with its edge 4 and cell 13 with its edge 5; c has its 2 at the edges 4 and 5 of turn 0.
        boolean[] due = {false, false, true, true, true, false};
        for (int turn = 0; turn < 6; turn++) {
            Check.equal("c beside two, turned by " + turn, x.fits(2, 17, turn) ? 1 : 0, due[turn] ? 1 : 0);
        }
        for (int edge = 0; edge < 6; edge++) {
            betweenTwo(edge);
        }
    }

    /** A cell that a 1 is turned to at an edge, and a 2 at the next one. */
    private static void betweenTwo(int edge) {
        int[] around = beside(5, 5, 12);
        int next = (edge + 1) % 6;
        RingDomino x = Check.taught("tile a 1 1 1;tile b 2 1 1;tile c 1 2 3;tile d 1 1 1;tile e 2 2 2;");
        x.putTile(0, around[edge], 0);
        Check.equal("b beside a", x.putTile(1, around[next], (edge + 3) % 6), 1);
        int[] numbers = {1, 1, 2, 2, 3, 3};
        for (int turn = 0; turn < 6; turn++) {
            boolean one = numbers[(edge - turn + 6) % 6] == 1;
            boolean two = numbers[(next - turn + 6) % 6] == 2;
            String what = "a 1 at edge " + edge + " and a 2 at the next one, turned by " + turn;
            Check.equal(what, x.fits(2, 12, turn) ? 1 : 0, one && two ? 1 : 0);
            int smallest = Math.min(one ? 6 : edge, two ? 6 : next);
            Check.equal(what + " against", x.edgeAgainst(2, 12, turn), smallest < 6 ? smallest : -1);
            Check.fails(what + ", 1 alone", x.fits(3, 12, turn));
            Check.equal(what + ", 1 alone, against", x.edgeAgainst(3, 12, turn), next);
            Check.fails(what + ", 2 alone", x.fits(4, 12, turn));
            Check.equal(what + ", 2 alone, against", x.edgeAgainst(4, 12, turn), edge);
        }
        Check.equal("both match", x.putTile(2, 12, (edge + 5) % 6), 3);
    }

    private static void matches() {
        Check.sentence("a match brings as many points as this number is.");
        for (int number = 0; number <= 9; number++) {
            RingDomino x = Check.taught("tile a N N N;tile b N N N;tile c N N N;".replace("N", "" + number));
            Check.equal("the first", x.putTile(0, 12, 0), 0);
            Check.equal("no match yet", x.matches(), 0);
            Check.equal("one match of " + number, x.putTile(1, 13, 0), number);
            Check.equal("one match", x.matches(), 1);
            Check.equal("its points", x.points(), number);
            Check.equal("two more", x.putTile(2, 17, 0), 2 * number);
            Check.equal("three matches", x.matches(), 3);
            Check.equal("their points", x.points(), 3 * number);
            Check.equal("matchesOf a", x.matchesOf(12), 2);
            Check.equal("the mean", x.meanMatch(), (double) number);
            Check.equal("two fewer", x.takeTile(0), 2 * number);
            Check.equal("one match again", x.matches(), 1);
        }
    }

    // ---- rings

    private static String sixteen(int columns, int rows, int number) {
        StringBuilder text = new StringBuilder("board " + columns + " by " + rows + ";");
        for (int n = 0; n < 16; n++) {
            text.append("tile t").append((char) ('a' + n)).append((" " + number).repeat(3)).append(";");
        }
        return text.toString();
    }

    private static void ringAroundACell() {
        Check.sentence("A ring is closed around a cell, with a tile or without, if there are six cells beside it with a tile at"
                + " each. It brings 10 points more.");
        int[] around = beside(5, 5, 12);
        for (int last = 0; last < 6; last++) {
            RingDomino x = Check.taught(sixteen(5, 5, 0));
            for (int n = 1; n <= 5; n++) {
                x.putTile(n, around[(last + n) % 6], 0);
            }
            Check.fails("five of six", x.isRing(12));
            Check.equal("no ring", x.rings(), 0);
            Check.equal("no points", x.points(), 0);
            Check.equal("the sixth", x.putTile(0, around[last], 0), 10);
            Check.holds("six of six", x.isRing(12));
            Check.equal("a ring", x.rings(), 1);
            Check.equal("a tile in the midst", x.putTile(6, 12, 0), 0);
            Check.holds("with a tile", x.isRing(12));
            Check.equal("still one ring", x.rings(), 1);
            Check.equal("the midst goes", x.takeTile(6), 0);
            Check.holds("without a tile", x.isRing(12));
            Check.equal("one of the ring goes", x.takeTile(0), 10);
            Check.fails("open", x.isRing(12));
            Check.equal("no ring again", x.rings(), 0);
        }
        midstIsNoPart();
    }

    private static void midstIsNoPart() {
        RingDomino x = Check.taught(sixteen(5, 5, 0));
        int[] around = beside(5, 5, 12);
        x.putTile(6, 12, 0);
        for (int n = 0; n < 5; n++) {
            x.putTile(n, around[n], 0);
        }
        Check.fails("five and the midst are no ring", x.isRing(12));
        Check.equal("no ring of the midst", x.rings(), 0);
    }

    private static void ringsOfAFullBoard() {
        Check.sentence("if there are six cells beside it with a tile at each.");
        RingDomino x = Check.taught(sixteen(4, 4, 1));
        for (int n = 0; n < 16; n++) {
            x.putTile(n, n, 0);
        }
        for (int cell = 0; cell < 16; cell++) {
            boolean inner = cell == 5 || cell == 6 || cell == 9 || cell == 10;
            // At the rim fewer than six cells are beside a cell, so that no ring is closed there.
            Check.equal("a ring around " + cell, x.isRing(cell) ? 1 : 0, inner ? 1 : 0);
        }
        Check.equal("rings", x.rings(), 4);
        Check.equal("matches", x.matches(), 33);
        Check.equal("points", x.points(), 33 + 40);
        Check.equal("no cell is free", x.placedTiles(), 16);
        Check.equal("no best tile", x.bestTile(), -1);
        Check.equal("one tile of three rings goes", x.takeTile(6), 6 + 30);
        Check.equal("it comes back", x.fitTile(6), 6);
        Check.equal("all points again", x.points(), 73);
        RingDomino y = Check.taught(sixteen(3, 3, 1));
        for (int n = 0; n < 9; n++) {
            y.putTile(n, n, 0);
        }
        Check.equal("one ring of 3 by 3", y.rings(), 1);
        Check.equal("its matches", y.matches(), 16);
        Check.holds("a tenth is left over", y.isLeftover(9));
        Check.equal("with nothing to look at", y.looksToProve(9), 0);
    }

    // ---- ways

    private static void ways() {
        Check.sentence("cells where it fits turned by some t, and these t, each pair of both counted.");
        for (int[] sides : SIDES) {
            RingDomino x = Check.taught("board " + sides[0] + " by " + sides[1] + ";tile a 1 1 1;tile b 1 2 3;");
            Check.equal("the empty board, one number", x.waysOf(0), sides[0] * sides[1] * 6);
            Check.equal("the empty board, three numbers", x.waysOf(1), sides[0] * sides[1] * 6);
        }
        RingDomino x = Check.taught("tile a 1 1 1;tile b 1 2 3;tile c 1 1 3;tile d 1 1 1;tile e 3 3 3;");
        x.putTile(0, 12, 0);
        Check.equal("six cells, two turns", x.waysOf(1), 12);
        Check.equal("six cells, four turns", x.waysOf(2), 24);
        Check.equal("six cells, six turns", x.waysOf(3), 36);
        Check.equal("none", x.waysOf(4), 0);
        Check.sentence("A tile that lies somewhere has none, but is not left over.");
        Check.equal("a lies", x.waysOf(0), 0);
        Check.fails("a is not left over", x.isLeftover(0));
        Check.illegalState("nothing proves it", () -> x.looksToProve(0));
        x.takeTile(0);
        Check.equal("a lies no more", x.waysOf(0), 150);
    }

    private static void leftOver() {
        Check.sentence("It is left over, if it has none.");
        RingDomino x = Check.taught("tile a 1 1 1;tile b 2 2 2;tile c 1 2 2;");
        Check.fails("b on the empty board", x.isLeftover(1));
        x.putTile(0, 12, 0);
        Check.holds("b beside a", x.isLeftover(1));
        Check.fails("c beside a", x.isLeftover(2));
        x.putTile(2, 13, 2);
        Check.fails("b beside c", x.isLeftover(1));
        Check.equal("ways of b", x.waysOf(1) > 0 ? 1 : 0, 1);
    }

    // ---- rounds

    private static void ordersInTheirOrder() {
        Check.sentence("A round goes like this: orders, in the order in which they are told, if the test holds as it comes to"
                + " its turn (or there is none)");
        RingDomino x = Check.taught("tile a 1 1 1;tile b 1 1 1;take a;fit b when on a;fit a when placed=0;fit b when on a and"
                + " placed=1;");
        Check.equal("a and then b", x.playRounds(1), 2);
        Check.equal("a is first", x.cellOf(0), 0);
        Check.equal("b is next", x.cellOf(1), 1);
        RingDomino y = Check.taught("tile a 1 1 1;fit a when on a;");
        Check.equal("a test that never holds", y.playRounds(20), 0);
        RingDomino z = Check.taught("tile a 1 1 1;put a at 1,1 turned 0;take a;put a at placed,free-23 turned ways of a;");
        Check.equal("three orders", z.playRounds(1), 3);
        Check.equal("the sums are those of its turn", z.cellOf(0), 2 * 5);
    }

    private static void putOrders() {
        Check.sentence("if it lies nowhere and fits there.");
        RingDomino x = Check.taught("tile a 1 1 1;tile b 2 2 2;put a at 2,2 turned 1;put a at 2,2 turned 2;put a at 3,2"
                + " turned 3;put b at 2,2 turned 0;put b at 3,2 turned 0;put b at 0,0 turned 0;");
        Check.equal("only the first", x.playRounds(1), 1);
        Check.equal("its cell", x.cellOf(0), 12);
        Check.equal("its turn", x.turnOf(0), 1);
        Check.fails("b lies nowhere", x.isPlaced(1));
        Check.equal("nothing more", x.playRounds(20), 0);
    }

    private static void takeOrders() {
        Check.sentence("take: it is taken away, if it lies somewhere.");
        RingDomino x = Check.taught("tile a 1 1 1;tile b 1 1 1;take a;take b;");
        Check.equal("none lies", x.playRounds(1), 0);
        x.putTile(0, 0, 0);
        x.putTile(1, 1, 0);
        Check.equal("both lie", x.playRounds(1), 2);
        Check.equal("the board is empty", x.placedTiles(), 0);
        Check.equal("none lies again", x.playRounds(20), 0);
    }

    private static void fitOrders() {
        Check.sentence("fit: it is put at the cell with the smallest number at which it fits, turned by the smallest number with"
                + " which it fits there, if there is such a way.");
        RingDomino x = Check.taught("tile a 1 2 3;tile b 4 5 3;tile c 6 6 6;fit a;fit b;fit c;");
        Check.equal("a on the empty board", x.playRounds(1), 1);
        Check.equal("the first cell", x.cellOf(0), 0);
        Check.equal("not turned", x.turnOf(0), 0);
        x.takeTile(0);
        x.putTile(0, 12, 0);
        // a has 3 at the edges 4 and 5, towards the cells 7 and 8; b has it at the edge 1 turned by 2 or 3.
        Check.equal("b beside a", x.playRounds(1), 1);
        Check.equal("the smallest cell", x.cellOf(1), 7);
        Check.equal("the smallest turn", x.turnOf(1), 2);
        Check.equal("c has no way", x.playRounds(20), 0);
        x.takeTile(0);
        x.takeTile(1);
        Check.equal("by hand alike", x.fitTile(2), 0);
        for (int cell = 0; cell < 25; cell++) {
            RingDomino y = Check.taught("tile a 1 1 1;tile b 1 1 1;fit b;");
            y.putTile(0, cell, 0);
            int smallest = 25;
            for (int other : beside(5, 5, cell)) {
                smallest = other >= 0 ? Math.min(smallest, other) : smallest;
            }
            Check.equal("b beside " + cell, y.playRounds(1), 1);
            Check.equal("the smallest beside " + cell, y.cellOf(1), smallest);
            Check.equal("not turned beside " + cell, y.turnOf(1), 0);
        }
    }

    private static void carriedOut() {
        Check.sentence("Each one that changes something is carried out.");
        RingDomino x = Check.taught("tile a 1 1 1;fit a;take a;");
        Check.equal("put and taken in each round", x.playRounds(20), 40);
        RingDomino y = Check.taught("tile a 1 1 1;" + "fit a;take a;".repeat(8));
        Check.equal("sixteen orders, twenty rounds", y.playRounds(20), 320);
        RingDomino z = Check.taught("tile a 1 1 1;take a;fit a;");
        Check.equal("one and then two in each round", z.playRounds(20), 39);
        RingDomino w = Check.taught("tile a 1 1 1;fit a;fit a;fit a;");
        Check.equal("once", w.playRounds(20), 1);
    }

    private static void roundIsOneGreater() {
        Check.sentence("Then the number of rounds is 1 greater.");
        for (int n = 0; n < 5; n++) {
            RingDomino x = Check.taught("tile a 1 1 1;fit a when round=" + n + ";take a when round=" + (n + 1) + ";");
            for (int round = 0; round < 7; round++) {
                Check.equal("rounds ahead of " + round, x.rounds(), round);
                Check.equal("carried out in " + round, x.playRounds(1), round == n || round == n + 1 ? 1 : 0);
            }
        }
        RingDomino y = Check.taught("tile a 1 1 1;put a at round,round turned round;take a when round<19;");
        Check.equal("twenty rounds", y.playRounds(20), 39);
        Check.equal("put in the last one", y.cellOf(0), 4 * 5 + 4);
        Check.equal("turned in the last one", y.turnOf(0), 1);
    }

    // ---- tests and sums

    /** The numbers that tests tell of a full ring and of an empty board, by an order that is carried out if they hold. */
    private static void numbersOfTests() {
        Check.sentence("In tests and sums round is the number of rounds, placed how many tiles lie on the board, matches how many"
                + " matches there are, points all points, rings how many rings are closed, free how many cells have no tile,"
                + " ways how many ways a tile has");
        String tiles = "board 3 by 4;tile a 2 2 2;tile b 2 2 2;tile c 2 2 2;tile d 2 2 2;tile e 2 2 2;tile f 2 2 2;tile g 2 2 2;"
                + "tile h 3 3 3;";
        int[] around = {5, 7, 6, 3, 1, 2};
        List<String> due = new ArrayList<>();
        due.add("round=0 and placed=0 and matches=0 and points=0 and rings=0 and free=12 and ways of g=72 and ways of h=72");
        due.add("round=1 and placed=1 and matches=0 and points=0 and rings=0 and free=11 and ways of g=24 and ways of a=0");
        due.add("round=2 and placed=2 and matches=1 and points=2 and rings=0 and free=10 and ways of h=0");
        due.add("round=3 and placed=3 and matches=2 and points=4 and rings=0 and free=9");
        due.add("round=4 and placed=4 and matches=3 and points=6 and rings=0 and free=8");
        due.add("round=5 and placed=5 and matches=4 and points=8 and rings=0 and free=7");
        due.add("round=6 and placed=6 and matches=6 and points=22 and rings=1 and free=6 and ways of h=0");
        for (int n = 0; n <= 6; n++) {
            // Tile a is taken, and h is put if there is no tile at all; with a taken the second test holds no more.
            RingDomino x = Check.taught(tiles + "take a when " + due.get(n) + ";fit h when " + due.get(n) + ";");
            for (int tile = 0; tile < n; tile++) {
                x.playRounds(1);
                x.putTile(tile, around[tile], 0);
            }
            Check.equal("with " + n + " tiles: " + due.get(n), x.playRounds(1), 1);
        }
        onAndFits();
    }

    private static void onAndFits() {
        Check.sentence("on holds if a tile lies on the board, fits if it has a way.");
        String tiles = "tile a 1 1 1;tile b 2 2 2;tile c 1 1 1;";
        String[] empty = {"not on a", "fits a", "not on b", "fits b"};
        String[] behind = {"on a", "not fits a", "not on b", "not fits b", "not on c", "fits c"};
        for (String test : empty) {
            Check.equal(test + " on the empty board", Check.taught(tiles + "fit a when " + test + ";").playRounds(1), 1);
        }
        for (String test : behind) {
            RingDomino x = Check.taught(tiles + "take a when " + test + ";");
            x.putTile(0, 12, 0);
            Check.equal(test + " with a", x.playRounds(1), 1);
        }
    }

    private static boolean carriesOut(String test) {
        RingDomino x = Check.taught("tile a 1 1 1;tile b 1 1 1;take a when " + test + ";");
        x.putTile(0, 12, 0);
        return x.playRounds(1) == 1;
    }

    private static void comparisons() {
        Check.sentence("sum ( \"<\" | \">\" | \"=\" | \"<=\" | \">=\" ) sum");
        int[] numbers = {LEAST, -1, 0, 1, MOST};
        for (int left : numbers) {
            for (int right : numbers) {
                String l = written(left);
                String r = written(right);
                String what = left + " and " + right;
                Check.equal("< of " + what, carriesOut(l + "<" + r) ? 1 : 0, left < right ? 1 : 0);
                Check.equal("> of " + what, carriesOut(l + ">" + r) ? 1 : 0, left > right ? 1 : 0);
                Check.equal("= of " + what, carriesOut(l + "=" + r) ? 1 : 0, left == right ? 1 : 0);
                Check.equal("<= of " + what, carriesOut(l + "<=" + r) ? 1 : 0, left <= right ? 1 : 0);
                Check.equal(">= of " + what, carriesOut(l + ">=" + r) ? 1 : 0, left >= right ? 1 : 0);
                sum("min(" + l + "," + r + ")", Math.min(left, right));
                sum("max(" + l + "," + r + ")", Math.max(left, right));
            }
        }
    }

    private static void andAndOr() {
        Check.sentence("and binds more than or, not more than and.");
        String[] singles = {"on b", "on a"};
        for (int bits = 0; bits < 8; bits++) {
            boolean p = (bits & 1) != 0;
            boolean q = (bits & 2) != 0;
            boolean r = (bits & 4) != 0;
            String a = singles[bits & 1];
            String b = singles[bits >> 1 & 1];
            String c = singles[bits >> 2 & 1];
            due(a + " or " + b + " and " + c, p | q & r);
            due(a + " and " + b + " or " + c, p & q | r);
            due("[" + a + " or " + b + "] and " + c, (p | q) & r);
            due(a + " and [" + b + " or " + c + "]", p & (q | r));
            due("not " + a + " and " + b, !p & q);
            due("not " + a + " or " + b, !p | q);
            due("not [" + a + " and " + b + "]", !(p & q));
            due("not [" + a + " or " + b + "]", !(p | q));
            due("not not " + a, p);
            due(a + " and not " + b + " or not " + c, p & !q | !r);
            due(a + " or " + b + " or " + c, p | q | r);
            due(a + " and " + b + " and " + c, p & q & r);
        }
    }

    private static void due(String test, boolean due) {
        Check.equal(test, carriesOut(test) ? 1 : 0, due ? 1 : 0);
    }
}
