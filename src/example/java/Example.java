import java.nio.charset.StandardCharsets;

/** Teaches a game, lets four rounds go by and prints the board behind each. */
public final class Example {
    static final String GAME = """
            board 4 by 3;
            tile a 2 5 1;  tile b 3 2 1;  tile c 1 3 6;  tile d 4 1 7;
            tile e 0 4 8;  tile f 5 0 9;  tile g 4 3 1;  tile h 2 2 2;
            put a at 1, 0 turned 0;
            put b at 2, 0 turned 1 when on a;
            put c at placed, 1 turned 8 when placed >= 2 and not on c;
            put d at 1, 2 turned 3 when round > 0;
            put e at 0, -1 turned 4 when on d;
            put f at 0, 1 turned max(5, round) when round > 1 or [ rings = 1 and free < 6 ];
            fit g when rings > 0;
            take b when round = 3 and points / 2 >= 14;
            """;

    private Example() {
    }

    public static void main(String[] args) {
        RingDomino game = new RingDomino();
        feed(game, GAME);
        int error = game.teach();
        if (error != 0) {
            System.out.println("error " + error + " at byte " + game.errorAt());
            return;
        }
        for (int n = 0; n < 4; n++) {
            int orders = game.playRounds(1);
            System.out.println("round " + game.rounds() + ": orders carried out " + orders
                    + ", points " + game.points() + ", rings " + game.rings());
            printBoard(game);
        }
    }

    /** Puts a text on the tape, which has to be empty. */
    static void feed(RingDomino game, String text) {
        byte[] bytes = text.getBytes(StandardCharsets.ISO_8859_1);
        int[] numbers = new int[(bytes.length + 19) / 20 * 5];
        for (int i = 0; i < bytes.length; i++) {
            numbers[i / 4] |= (bytes[i] & 255) << (24 - i % 4 * 8);
        }
        for (int i = 0; i < numbers.length; i += 5) {
            game.feed(numbers[i], numbers[i + 1], numbers[i + 2], numbers[i + 3], numbers[i + 4]);
        }
        game.trim(bytes.length);
    }

    /** A tile is shown as its letter and its turn; each row stands half a cell farther to the right. */
    private static void printBoard(RingDomino game) {
        for (int row = 0; row < game.rows(); row++) {
            StringBuilder line = new StringBuilder("  ".repeat(row));
            for (int column = 0; column < game.columns(); column++) {
                int cell = row * game.columns() + column;
                line.append("  ").append(game.hasTile(cell) ? shown(game, game.tileAt(cell)) : "--");
            }
            System.out.println(line);
        }
    }

    /** The tiles of GAME are named by the letters from a on, in their order. */
    private static String shown(RingDomino game, int tile) {
        return "" + (char) ('a' + tile) + game.turnOf(tile);
    }
}
