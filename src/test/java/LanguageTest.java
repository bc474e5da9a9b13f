/** Promises 2 to 5: the tape, the grammar, the depth and the errors. */
public final class LanguageTest {
    private static final String A = "tile a 1 2 3;";

    public static void main(String[] args) {
        feedAppends();
        trimShortens();
        teachBeginsAnew();
        errorKeepsAll();
        tokens();
        linesOfTheGrammar();
        testsOfTheGrammar();
        sumsOfTheGrammar();
        depth();
        tokenLimit();
        errorsOfMeaning();
        orderOfErrors();
        Check.close("LanguageTest");
    }

    private static void feedAppends() {
        RingDomino x = new RingDomino();
        for (int n = 1; n <= 100; n++) {
            Check.equal("promise 2: feed " + n, x.feed(0x20202020, 0x0a0a0a0a, 0x20202020, 0x20202020, 0x20202020),
                    20L * n);
        }
        Check.illegalState("promise 2: feed beyond 2000", () -> x.feed(0x20202020, 0, 0, 0, 0));
        Check.equal("promise 2: the tape stays", x.trim(2000), 2000);
        Check.equal("promise 3: trim to 1981", x.trim(1981), 1981);
        Check.illegalState("promise 2: feed to 2001", () -> x.feed(0, 0, 0, 0, 0));
        Check.equal("promise 3: trim to 1980", x.trim(1980), 1980);
        Check.equal("promise 2: feed to 2000", x.feed(0x20202020, 0x20202020, 0x20202020, 0x20202020, 0x20202020), 2000);
        Check.equal("promise 4: blanks alone are a game", x.teach(), 0);
        Check.equal("promise 4: the tape is empty behind", x.feed(0x20202020, 0, 0, 0, -1), 20);
        Check.equal("promise 2: bytes in their order", x.teach(), 1);
        Check.equal("promise 2: the position of the first zero", x.errorAt(), 4);
        // "tile", " abc", " 1 2", " 3;", and a byte above 127 as the very last
        x.feed(0x74696c65, 0x20616263, 0x20312032, 0x20333b20, 0x202020ff);
        Check.equal("promise 2: highest byte first", x.teach(), 1);
        Check.equal("promise 2: the position of the last byte", x.errorAt(), 19);
    }

    private static void trimShortens() {
        RingDomino x = new RingDomino();
        Check.equal("promise 3: trim of the empty tape", x.trim(0), 0);
        Check.illegalArgument("promise 3: trim beyond the empty tape", () -> x.trim(1));
        Check.illegalArgument("promise 3: trim below 0", () -> x.trim(-1));
        Check.illegalArgument("promise 3: trim of the least", () -> x.trim(Integer.MIN_VALUE));
        Check.feed(x, "tile a 1 2 3; tile b");
        Check.illegalArgument("promise 3: trim beyond the tape", () -> x.trim(21));
        Check.equal("promise 3: trim to all", x.trim(20), 20);
        Check.equal("promise 3: trim to some", x.trim(13), 13);
        Check.equal("promise 3: the first bytes are kept", x.teach(), 0);
        Check.equal("promise 3: the first bytes were a tile", x.tiles(), 1);
    }

    private static void teachBeginsAnew() {
        RingDomino x = Check.taught("board 6 by 4;" + A + "tile b 4 5 6; fit a;");
        Check.equal("promise 4: playRounds", x.playRounds(3), 1);
        Check.equal("promise 4: points ahead", x.placedTiles(), 1);
        Check.equal("promise 4: teach again", Check.teach(x, A), 0);
        Check.equal("promise 4: columns anew", x.columns(), 5);
        Check.equal("promise 4: rows anew", x.rows(), 5);
        Check.equal("promise 4: tiles anew", x.tiles(), 1);
        Check.equal("promise 4: rounds anew", x.rounds(), 0);
        Check.equal("promise 4: an empty board", x.placedTiles(), 0);
        Check.equal("promise 4: orders anew", x.playRounds(1), 0);
        Check.equal("promise 4: ways anew", x.waysOf(0), 150);
        Check.equal("promise 4: an empty tape is a game", x.teach(), 0);
        Check.equal("promise 4: without tiles", x.tiles(), 0);
        tilesAnew();
        ordersAnew();
    }

    private static void tilesAnew() {
        RingDomino x = Check.taught("board 4 by 3; tile a 1 1 1; tile b 1 1 1; fit a; fit b;");
        x.playRounds(1);
        Check.equal("promise 4: teach sides anew", Check.teach(x, "board 3 by 4; tile a 2 2 2; tile b 1 1 1;"), 0);
        Check.equal("promise 4: columns of the second board", x.columns(), 3);
        Check.equal("promise 4: rows of the second board", x.rows(), 4);
        x.putTile(0, 0, 0);
        Check.equal("promise 4: a tile of before lies no more", x.waysOf(1), 0);
        Check.equal("promise 4: its open cells are forgotten", x.looksToProve(1), 2);
        x.takeTile(0);
        x.putTile(1, 4, 0);
        Check.equal("promise 4: a's numbers of before are forgotten", x.waysOf(0), 0);
        Check.equal("promise 4: no match of before", x.matchesOf(4), 0);
    }

    private static void ordersAnew() {
        RingDomino x = Check.taught(A + "fit a;".repeat(16));
        for (int n = 0; n < 9; n++) {
            String text = A + "fit a when 1" + "+ 1".repeat(60) + " = 61; take a;" + "fit a;".repeat(14);
            Check.equal("promise 4: as many orders anew " + n, Check.teach(x, text), 0);
            Check.equal("promise 4: they are carried out " + n, x.playRounds(1), 3);
        }
        Check.equal("promise 4: sixteen orders anew", Check.teach(x, A + "take a;".repeat(15) + "fit a;"), 0);
        Check.equal("promise 31: the last of sixteen is carried out", x.playRounds(1), 1);
        Check.equal("promise 4: other orders anew", Check.teach(x, A + "take a; put a at 1, 1 turned 1;"), 0);
        Check.equal("promise 4: only those are carried out", x.playRounds(2), 3);
        Check.equal("promise 4: as they say", x.cellOf(0), 6);
    }

    private static void errorKeepsAll() {
        RingDomino x = Check.taught("board 6 by 4;" + A + "tile b 4 5 6; fit a; fit b;");
        Check.equal("promise 5: none", x.errorAt(), -1);
        x.putTile(0, 3, 4);
        x.playRounds(2);
        long digest = x.digest();
        String[] wrong = {"tile", "tile a 1 1 1; tile a 1 1 1;", "tile q 1 1 1; fit r;",
            "tile c 1 1 1;" + "take c;".repeat(17), "board 8 by 3;", "board 3 by 3; tile z 9 9 10;"};
        for (int n = 0; n < wrong.length; n++) {
            Check.equal("promise 4: " + wrong[n], Check.teach(x, wrong[n]), Math.min(n + 1, 5));
            Check.holds("promise 5: a position of " + wrong[n], x.errorAt() >= 0);
            Check.equal("promise 4: all stays behind " + wrong[n], x.digest(), digest);
            Check.illegalArgument("promise 4: the tape is empty behind " + wrong[n], () -> x.trim(1));
        }
        int position = x.errorAt();
        x.feed(0, 0, 0, 0, 0);
        x.trim(0);
        Check.equal("promise 5: feed and trim leave it", x.errorAt(), position);
        x.takeTile(0);
        Check.equal("promise 4: the orders stay", x.playRounds(1), 1);
        Check.equal("promise 4: the first order stays", x.cellOf(0), 0);
        Check.equal("promise 4: teach without error", x.teach(), 0);
        Check.equal("promise 5: none again", x.errorAt(), -1);
    }

    private static void tokens() {
        Check.good("");
        Check.good(" \n ");
        Check.good("\ntile\na\n1 2\n\n3\n;\n");
        Check.good("tile a1b2c3d4e5 1 2 3;take a1b2c3d4e5;");
        Check.good("tile a 000001 02 9;");
        Check.good("board 3by 3;tile a 1 2 3;put a at 1,2turned 3when 1<2and 3>2;");
        Check.good("tile fitx 1 2 3; tile fits1 1 2 3; take fitx when fits fits1;");
        Check.error("tile a1b2c3d4e5f 1 2 3;", 1, 5);
        Check.error("tile a 0000001 2 3;", 1, 7);
        Check.error("tile a 1 2 3; put a at 1000000, 1 turned 0;", 1, 23);
        Check.good("tile a 1 2 3; put a at 999999, 1 turned 0;");
        Check.error("tile a1 2 3;", 1, 11);
        Check.error("tile a 12 3;", 1, 11);
        Check.error("tile A 1 2 3;", 1, 5);
        Check.error("tile aB 1 2 3;", 1, 6);
        Check.error("tile\ta 1 2 3;", 1, 4);
        Check.error("tile a 1 2 3;\r", 1, 13);
        Check.error("tile a 1 2 3;\u0000", 1, 13);
        Check.error("tile a 1 2 3;\u00e9", 1, 13);
        Check.error("tile a_b 1 2 3;", 1, 6);
        Check.error("tile a 1 2 3 4;", 1, 13);
        Check.good(A + "fit a when 1<=2;");
        Check.good(A + "fit a when 1>=2;");
        Check.error(A + "fit a when 1< =2;", 1, 27);
        Check.error(A + "fit a when 1=<2;", 1, 26);
        Check.error(A + "fit a when 1==2;", 1, 26);
        Check.error(A + "fit a when 1<>2;", 1, 26);
        Check.error(A + "fit a when 1!2;", 1, 25);
        Check.error("tile\n1a 1 2 3;", 1, 5);
    }

    private static void linesOfTheGrammar() {
        Check.good("board 3 by 7;");
        Check.good(A + "take a; fit a; put a at 1, 2 turned 3;");
        Check.error("board 3 by 7", 1, 12);
        Check.error("board 3 by 7   ", 1, 15);
        Check.error("board 3 7;", 1, 8);
        Check.error("board a by 7;", 1, 6);
        Check.error("board 3 by 7; board 3 by 7;", 1, 14);
        Check.error(A + "board 3 by 7;", 1, 13);
        Check.error(";", 1, 0);
        Check.error(A + ";", 1, 13);
        Check.error("a", 1, 0);
        Check.error("when", 1, 0);
        Check.error("fits a;", 1, 0);
        Check.error("tile fit 1 2 3;", 1, 5);
        Check.error("tile round 1 2 3;", 1, 5);
        Check.error("tile 1 2 3;", 1, 5);
        Check.error("tile a -1 2 3;", 1, 7);
        Check.error("tile a 1, 2, 3;", 1, 8);
        Check.error("tile a 1 2 3", 1, 12);
        Check.error("tile a 1 2 3 when 1 < 2;", 1, 13);
        Check.error(A + "take a when;", 1, 24);
        Check.error(A + "take;", 1, 17);
        Check.error(A + "take a b;", 1, 20);
        Check.error(A + "put a 1, 2 turned 3;", 1, 19);
        Check.error(A + "put a at 1 2 turned 3;", 1, 24);
        Check.error(A + "put a at 1, 2 turned;", 1, 33);
        Check.error(A + "put a at 1, 2;", 1, 26);
        Check.error(A + "put a at 1, 2 turned 3, 4;", 1, 35);
    }

    private static void testsOfTheGrammar() {
        String fit = A + "fit a when ";
        int at = fit.length();
        Check.good(fit + "on a and fits a or not on a and [1 < 2 or 2 < 1];");
        Check.good(fit + "not not on a;");
        Check.good(fit + "not 1 < 2;");
        Check.good(fit + "[[on a]];");
        Check.good(fit + "(1) < 2;");
        Check.error(fit + "1;", 1, at + 1);
        Check.error(fit + "1 < 2 < 3;", 1, at + 6);
        Check.error(fit + "(1 < 2);", 1, at + 3);
        Check.error(fit + "[1] < 2;", 1, at + 2);
        Check.error(fit + "[on a;", 1, at + 5);
        Check.error(fit + "on a];", 1, at + 4);
        Check.error(fit + "on 1;", 1, at + 3);
        Check.error(fit + "fits (a);", 1, at + 5);
        Check.error(fit + "on a on a;", 1, at + 5);
        Check.error(fit + "on a and;", 1, at + 8);
        Check.error(fit + "and on a;", 1, at);
        Check.error(fit + "1 and 2 < 3;", 1, at + 2);
        Check.error(fit + "not;", 1, at + 3);
        Check.error(fit + "a < 1;", 1, at);
        Check.error(fit + "on a when on a;", 1, at + 5);
    }

    private static void sumsOfTheGrammar() {
        String put = A + "put a at ";
        int at = put.length();
        String rest = ", 0 turned 0;";
        Check.good(put + "1 + 2 - 3 * 4 / 5" + rest);
        Check.good(put + "round + placed + matches + points + rings + free + ways of a" + rest);
        Check.good(put + "min(1, max(2, 3)) + -4 - -(5)" + rest);
        Check.good(put + "1--1" + rest);
        Check.error(put + "+ 1" + rest, 1, at);
        Check.error(put + "1 + + 1" + rest, 1, at + 4);
        Check.error(put + "1 * / 1" + rest, 1, at + 4);
        Check.error(put + "()" + rest, 1, at + 1);
        Check.error(put + "(1" + rest, 1, at + 2);
        Check.error(put + "1)" + rest, 1, at + 1);
        Check.error(put + "min 1, 2" + rest, 1, at + 4);
        Check.error(put + "min(1)" + rest, 1, at + 5);
        Check.error(put + "min(1, 2, 3)" + rest, 1, at + 8);
        Check.error(put + "ways a" + rest, 1, at + 5);
        Check.error(put + "ways of 1" + rest, 1, at + 8);
        Check.error(put + "a" + rest, 1, at);
        Check.error(put + "1 2" + rest, 1, at + 2);
        Check.error(put + "1 < 2" + rest, 1, at + 2);
        Check.error(put + "not 1" + rest, 1, at);
        Check.error(put + "[1]" + rest, 1, at);
    }

    private static void depth() {
        String put = A + "put a at ";
        String fit = A + "fit a when ";
        String rest = ", 0 turned 0;";
        Check.good(put + "(".repeat(8) + "1" + ")".repeat(8) + rest);
        Check.error(put + "(".repeat(9) + "1" + ")".repeat(9) + rest, 1, put.length() + 8);
        Check.good(put + "1, " + "(".repeat(8) + "1" + ")".repeat(8) + " turned 1;");
        Check.error(put + "1, " + "(".repeat(9) + "1" + ")".repeat(9) + " turned 1;", 1, put.length() + 11);
        Check.good(put + "1, 1 turned " + "-".repeat(8) + "1;");
        Check.error(put + "1, 1 turned " + "-".repeat(9) + "1;", 1, put.length() + 20);
        Check.good(put + "-".repeat(8) + "1" + rest);
        Check.error(put + "-".repeat(9) + "1" + rest, 1, put.length() + 8);
        Check.good(put + "-(".repeat(4) + "1" + ")".repeat(4) + rest);
        Check.error(put + "-(".repeat(4) + "-1" + ")".repeat(4) + rest, 1, put.length() + 8);
        Check.good(put + "min(1,".repeat(8) + "1" + ")".repeat(8) + rest);
        Check.error(put + "min(1,".repeat(9) + "1" + ")".repeat(9) + rest, 1, put.length() + 8 * 6 + 3);
        Check.error(put + "max(".repeat(9) + "1", 1, put.length() + 8 * 4 + 3);
        Check.good(put + "1" + "+(-(1))".repeat(9) + rest);
        Check.good(put + "1 - 1 - 1 - 1 - 1 - 1 - 1 - 1 - 1 - 1 - 1" + rest);
        Check.good(fit + "not ".repeat(8) + "on a;");
        Check.error(fit + "not ".repeat(9) + "on a;", 1, fit.length() + 8 * 4);
        Check.good(fit + "[".repeat(8) + "on a" + "]".repeat(8) + ";");
        Check.error(fit + "[".repeat(9) + "on a" + "]".repeat(9) + ";", 1, fit.length() + 8);
        Check.good(fit + "not [not [not [not [1 < 2]]]];");
        Check.error(fit + "not [not [not [not [-1 < 2]]]];", 1, fit.length() + 20);
        Check.error(fit + "not [not [not [not [1 < (2)]]]];", 1, fit.length() + 24);
        Check.good(fit + "not [not [not [not on a and -1 < (1)]]];");
        Check.good(fit + "not on a" + " and not on a".repeat(9) + ";");
    }

    private static void tokenLimit() {
        // A tile has 6 tokens and an order to take or fit 3.
        String orders = "take a;".repeat(131);
        Check.error(A + orders, 4, 13 + 16 * 7);
        String most = A + "take a when -1" + " + 1".repeat(193) + " < 1;";
        Check.good(most.replace("when", "when  "));
        Check.error(most + "x", 1, most.length());
        Check.error(most + " \n take a;", 1, most.length() + 3);
        Check.error(most + "?", 1, most.length());
        Check.good(most + "\n  \n");
        String tooMany = A + "take a when --1" + " + 1".repeat(193) + " < 1;";
        Check.error(tooMany, 1, tooMany.length() - 1);
        Check.error(tooMany.replace(";", "; ").trim(), 1, tooMany.replace(";", "; ").trim().length() - 1);
        String cut = A + "take a when --1" + " + 1".repeat(193) + " < 1";
        Check.error(cut, 1, cut.length());
        Check.error(cut + "   ", 1, cut.length() + 3);
    }

    private static void errorsOfMeaning() {
        Check.error(A + "tile b 1 2 3; tile a 1 2 3;", 2, 32);
        Check.error("take a;", 3, 5);
        Check.error("take a;" + A, 3, 5);
        Check.error(A + "take ab;", 3, 18);
        Check.error("tile ab 1 2 3; take a;", 3, 20);
        Check.error(A + "take a when on b;", 3, 28);
        Check.error(A + "take a when fits b;", 3, 30);
        Check.error(A + "take a when ways of b > 1;", 3, 33);
        Check.error(A + "put b at 1, 1 turned 1;", 3, 17);
        Check.error(A + "put a at ways of b, 1 turned 1;", 3, 30);
        StringBuilder tiles = new StringBuilder();
        for (int n = 0; n < 16; n++) {
            tiles.append("tile t").append((char) ('a' + n)).append(" 1 2 3;");
        }
        Check.good(tiles.toString());
        Check.equal("promise 8: 16 tiles", Check.taught(tiles.toString()).tiles(), 16);
        Check.error(tiles + "tile x 1 2 3;", 4, tiles.length() + 5);
        Check.error(tiles + "tile ta 1 2 3;", 2, tiles.length() + 5);
        Check.error(tiles + "tile x 1 2 99;", 4, tiles.length() + 5);
        Check.good(A + "fit a;".repeat(16));
        Check.error(A + "fit a;".repeat(17), 4, 13 + 16 * 6);
        Check.error(A + "fit a;".repeat(16) + "put b at 1, 1 turned 1;", 4, 13 + 16 * 6);
        Check.error(A + "fit a;".repeat(16) + "take a;", 4, 13 + 16 * 6);
        Check.good(A + "fit a;".repeat(16) + "tile b 1 2 3;");
        Check.error("board 2 by 3;", 5, 6);
        Check.error("board 8 by 3;", 5, 6);
        Check.error("board 0 by 3;", 5, 6);
        Check.error("board 3 by 2;", 5, 11);
        Check.error("board 3 by 8;", 5, 11);
        Check.error("board 2 by 8;", 5, 6);
        Check.error("board 999999 by 8;", 5, 6);
        Check.good("board 3 by 7;");
        Check.good("board 7 by 3;");
        Check.good("board 007 by 003;");
        Check.error("tile a 10 2 3;", 5, 7);
        Check.error("tile a 1 10 3;", 5, 9);
        Check.error("tile a 1 2 999999;", 5, 11);
        Check.good("tile a 0 9 09;");
        Check.good(A + "put a at 10, 99 turned 999999 when 100 > 99;");
    }

    private static void orderOfErrors() {
        Check.error("board 2 by 2; take a; tile", 1, 26);
        Check.error("tile a 1 2 10; take b;", 5, 11);
        Check.error("take b; tile a 1 2 10;", 3, 5);
        Check.error("tile a 1 2 3; tile a 10 2 3;", 2, 19);
        Check.error("board 8 by 3; tile a 1 2 3; tile a 1 2 3;", 5, 6);
        Check.error(A + "take b when on c;", 3, 18);
        Check.error(A + "fit a;".repeat(16) + "fit a; tile b 10 1 1;", 4, 13 + 16 * 6);
    }
}
