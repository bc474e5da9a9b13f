/** The boundary cases that the document's sentences on the language name, a method for each sentence. */
public final class LanguageEdgesTest {
    private static final String A = "tile a 1 2 3;";
    private static final String[] KEYWORDS = ("board by tile put at turned take fit when round placed matches points rings"
            + " free ways of on fits not and or min max").split(" ");
    /** The openings that make a sum deeper, with what closes them. */
    private static final String[][] OPENINGS = {{"(", ")"}, {"-", ""}, {"min(", ",1)"}, {"max(", ",1)"},
        {"min(1,", ")"}, {"max(1,", ")"}};
    /** Where a sum can stand: what is ahead of it and what is behind it. */
    private static final String[][] SUMS = {{A + "put a at ", ",0 turned 0;"}, {A + "put a at 0,", " turned 0;"},
        {A + "put a at 0,0 turned ", ";"}, {A + "put a at 0,0 turned 0 when ", "<1;"}, {A + "fit a when 1>=", ";"},
        {A + "fit a when 1+", "=1;"}, {A + "take a when 1*", "=1;"}, {A + "take a when on a and ", ">0;"}};
    /** Where a test can stand. */
    private static final String[][] TESTS = {{A + "fit a when ", ";"}, {A + "take a when on a and ", ";"},
        {A + "put a at 0,0 turned 0 when on a or ", " or on a;"}};

    public static void main(String[] args) {
        tapeIsFull();
        tapeIsEmpty();
        feedToTheLastByte();
        trimToEachLength();
        positions();
        bytesBetweenTokens();
        bytesOfWords();
        blanksThatHaveToStand();
        longestToken();
        lengthOfWords();
        lengthOfNumbers();
        keywordsAndNames();
        emptyGame();
        boardIsFirst();
        nothingOrMore();
        partsOfLines();
        partsOfOrders();
        partsOfTests();
        partsOfSums();
        endOfTheTape();
        wrongByteInEachPlace();
        depthOfSums();
        depthOfTests();
        depthGoesBack();
        tokenLimit();
        errorOneIsFirst();
        leftToRight();
        errorTwo();
        errorThree();
        errorFour();
        errorFive();
        teachBeginsAnew();
        errorAt();
        Check.close("LanguageEdgesTest");
    }

    // ---- the tape

    private static void fill(RingDomino x, int bytes) {
        for (int n = 20; n <= bytes; n += 20) {
            Check.equal("feed to " + n, x.feed(0x20202020, 0x20202020, 0x20202020, 0x20202020, 0x20202020), n);
        }
    }

    private static void tapeIsFull() {
        Check.sentence("The tape is a row of at most 2000 bytes");
        String blanks = " ".repeat(2000);
        RingDomino x = new RingDomino();
        Check.equal("teach of 2000 bytes", Check.teach(x, (blanks + A + "tile b 4 5 6;").substring(26)), 0);
        Check.equal("both tiles were read", x.tiles(), 2);
        Check.error(blanks.substring(1) + "?", 1, 1999);
        Check.error(blanks.substring(1) + "t", 1, 1999);
        Check.error((A + blanks).substring(0, 1994) + "tile a", 1, 2000);
        Check.error((A + blanks).substring(0, 1994) + "take b", 1, 2000);
        Check.error((A + blanks).substring(0, 1993) + "take b;", 3, 1998);
    }

    private static void tapeIsEmpty() {
        Check.sentence("at first empty, which feed and trim fill; teach reads it as a game, and it is empty behind it.");
        RingDomino x = new RingDomino();
        Check.tapeHolds(x, 0);
        Check.equal("teach of the empty tape", x.teach(), 0);
        Check.tapeHolds(x, 0);
        Check.teach(x, A);
        Check.tapeHolds(x, 0);
        Check.equal("the first feed behind a game", x.feed(0, 0, 0, 0, 0), 20);
        Check.equal("a wrong game", x.teach(), 1);
        Check.tapeHolds(x, 0);
        Check.equal("the first feed behind an error", x.feed(0x20202020, 0x20202020, 0x20202020, 0x20202020, 0x3b), 20);
        Check.equal("only the new bytes are read", x.teach(), 1);
        Check.equal("the first zero", x.errorAt(), 16);
        fill(x, 2000);
        Check.equal("a full tape", x.teach(), 0);
        fill(x, 2000);
    }

    private static void feedToTheLastByte() {
        Check.sentence("Throws `IllegalStateException` if there would be more than 2000");
        for (int size = 1980; size <= 2000; size++) {
            RingDomino x = new RingDomino();
            fill(x, 2000);
            x.trim(size);
            if (size == 1980) {
                Check.equal("feed to 2000", x.feed(0x20202020, 0x20202020, 0x20202020, 0x20202020, 0x20202020), 2000);
            } else {
                Check.illegalState("feed to " + (size + 20), () -> x.feed(0, 0, 0, 0, 0));
                Check.tapeHolds(x, size);
            }
            Check.equal("teach behind it", x.teach(), 0);
        }
    }

    private static void trimToEachLength() {
        Check.sentence("Throws `IllegalArgumentException` if n is not 0 to the number of bytes of the tape");
        RingDomino x = new RingDomino();
        Check.equal("trim of the empty tape to 0", x.trim(0), 0);
        for (int n : new int[] {1, -1, 2000, 2001, Integer.MAX_VALUE, Integer.MIN_VALUE}) {
            Check.illegalArgument("trim of the empty tape to " + n, () -> x.trim(n));
        }
        x.feed(0x74696c65, 0x20612031, 0x20322033, 0x3b746169, 0x6b652061);
        for (int n : new int[] {21, -1, 2000, Integer.MAX_VALUE, Integer.MIN_VALUE}) {
            Check.illegalArgument("trim of 20 bytes to " + n, () -> x.trim(n));
            Check.tapeHolds(x, 20);
        }
        Check.equal("trim to 13", x.trim(13), 13);
        Check.illegalArgument("trim of 13 bytes to 14", () -> x.trim(14));
        Check.equal("the first 13 bytes are a game", x.teach(), 0);
        Check.equal("with a tile", x.tiles(), 1);
        RingDomino y = new RingDomino();
        y.feed(0x74696c65, -1, -1, -1, -1);
        Check.equal("trim to 4", y.trim(4), 4);
        Check.equal("feed goes on there", y.feed(0x20612031, 0x20322033, 0x3b202020, 0x20202020, 0x20202020), 24);
        Check.equal("the bytes behind were dropped", y.teach(), 0);
        y.feed(-1, -1, -1, -1, -1);
        Check.equal("trim to none", y.trim(0), 0);
        Check.equal("an empty game", y.teach(), 0);
        RingDomino z = new RingDomino();
        fill(z, 2000);
        Check.illegalArgument("trim of a full tape to 2001", () -> z.trim(2001));
        Check.equal("trim of a full tape to 2000", z.trim(2000), 2000);
        Check.equal("trim of a full tape to 1999", z.trim(1999), 1999);
    }

    private static void positions() {
        Check.sentence("Positions of the tape are counted from 0, in bytes.");
        Check.error("?", 1, 0);
        Check.error(" ?", 1, 1);
        Check.error("\n\n?", 1, 2);
        Check.sentence("The position is that of its first byte.");
        Check.error("tile a 1 2 3 \n when", 1, 15);
        Check.error("tile a 1 2 3; fit a when 1 + <= 2;", 1, 29);
        Check.error("tile a 1 2 3 ; tile  abcdefghij 1 2 1000;", 5, 36);
        Check.error("tile abcdefghij 1 2 3; tile\nabcdefghij 1 2 3;", 2, 28);
        Check.sentence("the four bytes of each number, the highest one first.");
        for (int n = 0; n < 20; n++) {
            RingDomino x = new RingDomino();
            int[] words = {0x20202020, 0x20202020, 0x20202020, 0x20202020, 0x20202020};
            // The highest bit makes the number negative if it is its first byte.
            words[n / 4] |= 0x80 << (3 - n % 4) * 8;
            x.feed(words[0], words[1], words[2], words[3], words[4]);
            Check.equal("a wrong byte at " + n, x.teach(), 1);
            Check.equal("its position", x.errorAt(), n);
        }
    }

    // ---- tokens

    private static boolean isLetter(int sign) {
        return sign >= 'a' && sign <= 'z';
    }

    private static boolean isDigit(int sign) {
        return sign >= '0' && sign <= '9';
    }

    private static boolean isBlank(int sign) {
        return sign == 32 || sign == 10;
    }

    private static void bytesBetweenTokens() {
        Check.sentence("Blanks (32) and line ends (10) can stand between tokens, at the beginning and at the end");
        for (int sign = 0; sign < 256; sign++) {
            String one = "" + (char) sign;
            if (isBlank(sign)) {
                Check.good(one + "tile a 1 2 3;");
                Check.good("tile a 1 2 3;" + one);
                Check.good("tile a 1 2 3" + one + ";");
                Check.good(one + one + "tile" + one + "a" + one + one + "1" + one + "2" + one + "3" + one + ";" + one + one);
                Check.good(one.repeat(3));
            } else {
                Check.error(one + "tile a 1 2 3;", 1, 0);
                Check.error("tile a 1 2 3;" + one, 1, 13);
                Check.error("tile a 1 2 3" + one + ";", isDigit(sign) ? 5 : 1,
                        sign == ';' ? 13 : isDigit(sign) ? 11 : 12);
                Check.error(one.repeat(3), 1, 0);
            }
        }
    }

    private static void bytesOfWords() {
        Check.sentence("A word: a letter a to z, followed by letters a to z and digits");
        for (int sign = 0; sign < 256; sign++) {
            String one = "" + (char) sign;
            boolean letter = isLetter(sign);
            if (letter || isBlank(sign)) {
                Check.good("tile " + one + "q 1 2 3;");
            } else {
                Check.error("tile " + one + "q 1 2 3;", 1, 5);
            }
            if (letter || isDigit(sign) || isBlank(sign)) {
                Check.good("tile q" + one + " 1 2 3;");
                Check.good("tile q" + one + " 1 2 3;take q" + one + ";");
            } else {
                Check.error("tile q" + one + " 1 2 3;", 1, 6);
            }
            int at = A.length() + 12;
            if ("<>=".indexOf(sign) >= 0) {
                Check.good(A + "fit a when 1" + one + "2;");
            } else {
                boolean goesOn = isDigit(sign) || "+-*/".indexOf(sign) >= 0;
                Check.error(A + "fit a when 1" + one + "2;", 1, goesOn ? at + 2 : isBlank(sign) ? at + 1 : at);
            }
        }
    }

    private static void blanksThatHaveToStand() {
        Check.sentence("and have to stand between two tokens that would otherwise be read as one.");
        Check.error("tilea 1 2 3;", 1, 0);
        Check.error("tile a1 2 3;", 1, 11);
        Check.error("tile a 12 3;", 1, 11);
        Check.error(A + "takea;", 1, 13);
        Check.error(A + "fit awhen on a;", 1, 23);
        Check.error(A + "fit a when ona;", 1, 24);
        Check.error(A + "fit a when noton a;", 1, 24);
        Check.error(A + "put a at 0,0 turned0;", 1, 26);
        Check.error(A + "put a at0,0 turned 0;", 1, 19);
        Check.error("board3 by 3;", 1, 0);
        Check.error("board 3 by3;", 1, 8);
        Check.good("board 3by 3;tile a 1 2 3;put a at 1,2turned 3when[on a]and 1<2or not[on a];");
        Check.good(A + "put a at(1),-2turned(3)when(1)=1;");
        Check.good(A + "fit a when 1<-1and 1>=(1)or[on a];take a;fit a;");
    }

    private static void longestToken() {
        Check.sentence("The longest possible token is always read.");
        Check.good(A + "fit a when 1<=2;");
        Check.good(A + "fit a when 1>=2;");
        Check.error(A + "fit a when 1< =2;", 1, 27);
        Check.error(A + "fit a when 1> =2;", 1, 27);
        Check.error(A + "fit a when 1=<2;", 1, 26);
        Check.error(A + "fit a when 1=>2;", 1, 26);
        Check.error(A + "fit a when 1<==2;", 1, 27);
        Check.error(A + "fit a when 1>==2;", 1, 27);
        Check.error(A + "fit a when 1<<2;", 1, 26);
        Check.error(A + "fit a when 1<>2;", 1, 26);
        Check.error(A + "fit a when 1==2;", 1, 26);
        Check.error(A + "fit a when 1<", 1, 26);
        Check.error(A + "fit a when 1<=", 1, 27);
        Check.good("tile fits1 1 2 3;tile fitsa 1 2 3;fit fits1 when fits fitsa;");
        Check.good("tile at1 1 2 3;tile notat 1 2 3;put at1 at 1,1turned 1when not on notat;");
        // At the end of the tape nothing is left that could make the sign longer.
        RingDomino x = new RingDomino();
        Check.feed(x, A + "fit a when 1<=2;");
        x.trim(26);
        Check.equal("the = behind the tape is not read", x.teach(), 1);
        Check.equal("the end is told", x.errorAt(), 26);
    }

    private static void lengthOfWords() {
        Check.sentence("at most 10 bytes.");
        for (int length = 1; length <= 12; length++) {
            String word = "q123456789xy".substring(0, length);
            String text = "tile " + word + " 1 2 3; take " + word + ";";
            if (length <= 10) {
                Check.good(text);
                Check.good("tile " + word + " 1 2 3;fit " + word + " when on " + word + " or ways of " + word + "=1;");
            } else {
                Check.error(text, 1, 5);
                Check.error(A + "take " + word + ";", 1, 18);
                Check.error(A + "take a when on " + word + ";", 1, 28);
            }
        }
        Check.error("tile " + "a".repeat(1995), 1, 5);
        Check.error("turnedturned", 1, 0);
    }

    private static void lengthOfNumbers() {
        Check.sentence("A number: 1 to 6 digits.");
        for (int length = 1; length <= 12; length++) {
            String number = "000000000009".substring(12 - length);
            if (length <= 6) {
                Check.good("tile a " + number + " 2 3;");
                Check.good(A + "put a at " + "9".repeat(length) + ",0 turned 0;");
                Check.good("board " + number.replace('9', '7') + " by 3;");
            } else {
                Check.error("tile a " + number + " 2 3;", 1, 7);
                Check.error(A + "put a at " + "9".repeat(length) + ",0 turned 0;", 1, 22);
                Check.error("board " + number.replace('9', '7') + " by 3;", 1, 6);
            }
        }
        Check.error("tile a " + "1".repeat(1993), 1, 7);
        RingDomino x = Check.taught(A + "fit a when 999999=1000*1000-1 and 000012=12;");
        Check.equal("999999 is what it says", x.playRounds(1), 1);
    }

    private static void keywordsAndNames() {
        Check.sentence("All other words are names.");
        for (String word : KEYWORDS) {
            Check.error("tile " + word + " 1 2 3;", 1, 5);
            Check.error(A + "take " + word + ";", 1, 18);
            for (String name : new String[] {word + "x", word + "0", "x" + word, word.substring(0, word.length() - 1)}) {
                boolean known = java.util.List.of(KEYWORDS).contains(name);
                if (!known) {
                    Check.good("tile " + name + " 1 2 3;take " + name + " when on " + name + ";");
                }
            }
            String capital = word.toUpperCase();
            Check.error("tile " + capital + " 1 2 3;", 1, 5);
        }
        Check.good("tile when1 1 2 3;");
    }

    // ---- the grammar

    private static void emptyGame() {
        Check.sentence("game = [ \"board\" number \"by\" number \";\" ] { line \";\" }");
        for (String text : new String[] {"", " ", "\n", " \n \n"}) {
            Check.good(text);
            RingDomino x = Check.taught(text);
            Check.equal("columns of an empty game", x.columns(), 5);
            Check.equal("tiles of an empty game", x.tiles(), 0);
            Check.equal("orders of an empty game", x.playRounds(1), 0);
        }
        Check.good("board 4 by 4;");
        Check.good(A);
        Check.good("board 4 by 4;" + A);
    }

    private static void boardIsFirst() {
        Check.sentence("[ x ] outside of quotation marks means x or nothing");
        Check.error("board 4 by 4;board 4 by 4;", 1, 13);
        Check.error(A + "board 4 by 4;", 1, 13);
        Check.error(";board 4 by 4;", 1, 0);
        Check.error("board 4 by 4;;", 1, 13);
        Check.error(A + ";" + A, 1, 13);
        Check.error(A + "take a when when on a;", 1, 25);
        Check.error(A + "take a when on a when on a;", 1, 30);
        Check.error("tile a 1 2 3 when on a;", 1, 13);
        Check.error("board 4 by 4 when on a;", 1, 13);
    }

    private static void nothingOrMore() {
        Check.sentence("{ x } x any number of times, also none");
        for (int n : new int[] {0, 1, 2, 9, 30}) {
            Check.good(A + "fit a when 1" + "+1".repeat(n) + "<1" + "-1".repeat(n) + ";");
            Check.good(A + "fit a when 1" + "*1".repeat(n) + "<1" + "/1".repeat(n) + ";");
            Check.good(A + "fit a when on a" + " or on a".repeat(n) + ";");
            Check.good(A + "fit a when on a" + " and on a".repeat(n) + " or on a" + " and fits a".repeat(n) + ";");
        }
        for (String sign : new String[] {"+", "-", "*", "/"}) {
            Check.error(A + "fit a when 1" + sign + ";", 1, 26);
            Check.error(A + "fit a when 1" + sign + "<1;", 1, 26);
            Check.error(A + "fit a when " + (sign.equals("-") ? "1+" : "") + sign + ";", 1, sign.equals("-") ? 27 : 24);
        }
        Check.error(A + "fit a when on a and;", 1, 32);
        Check.error(A + "fit a when on a or;", 1, 31);
        Check.error(A + "fit a when on a and or on a;", 1, 33);
    }

    private static void partsOfLines() {
        Check.sentence("line = \"tile\" name number number number | order [ \"when\" test ]");
        Check.error("tile;", 1, 4);
        Check.error("tile a;", 1, 6);
        Check.error("tile a 1;", 1, 8);
        Check.error("tile a 1 2;", 1, 10);
        Check.good("tile a 1 2 3;");
        Check.error("tile a 1 2 3 4;", 1, 13);
        Check.error("tile a b 1 2 3;", 1, 7);
        Check.error("tile 1 2 3;", 1, 5);
        Check.error("tile a -1 2 3;", 1, 7);
        Check.error("tile a 1,2,3;", 1, 8);
        Check.error("tile a (1) 2 3;", 1, 7);
        Check.error(A + "take a when;", 1, 24);
        Check.error(A + "take a on a;", 1, 20);
        Check.error("board;", 1, 5);
        Check.error("board 3;", 1, 7);
        Check.error("board 3 by;", 1, 10);
        Check.error("board 3 by 3 3;", 1, 13);
        Check.error("board 3 by -3;", 1, 11);
    }

    private static void partsOfOrders() {
        Check.sentence("order = \"put\" name \"at\" sum \",\" sum \"turned\" sum | \"take\" name | \"fit\" name");
        Check.error(A + "take;", 1, 17);
        Check.error(A + "fit;", 1, 16);
        Check.error(A + "take a a;", 1, 20);
        Check.error(A + "fit a at 1,1;", 1, 19);
        Check.error(A + "put;", 1, 16);
        Check.error(A + "put a;", 1, 18);
        Check.error(A + "put a at;", 1, 21);
        Check.error(A + "put a at 1;", 1, 23);
        Check.error(A + "put a at 1,;", 1, 24);
        Check.error(A + "put a at 1,2;", 1, 25);
        Check.error(A + "put a at 1,2 turned;", 1, 32);
        Check.good(A + "put a at 1,2 turned 3;");
        Check.error(A + "put a at 1,2 turned 3,;", 1, 34);
        Check.error(A + "put a at 1,2,3 turned 3;", 1, 25);
        Check.error(A + "put a at 1 turned 3;", 1, 24);
        Check.error(A + "put a turned 3;", 1, 19);
        Check.error(A + "put 1 at 1,2 turned 3;", 1, 17);
    }

    private static void partsOfTests() {
        Check.sentence("single = \"not\" single | \"[\" test \"]\" | \"on\" name | \"fits\" name |");
        String fit = A + "fit a when ";
        int at = fit.length();
        for (String test : new String[] {"on a", "fits a", "not on a", "[on a]", "not [fits a]", "[not fits a]", "1<2",
            "1>2", "1=2", "1<=2", "1>=2", "[[1=2]]", "not not 1=2", "[on a or 1<2] and not [fits a]"}) {
            Check.good(fit + test + ";");
            Check.error(fit + test + "]", 1, at + test.length());
            Check.error(fit + "[" + test + ";", 1, at + 1 + test.length());
            Check.error(fit + test + ")", 1, at + test.length());
            Check.error(fit + test + " on a", 1, at + test.length() + 1);
            Check.error(fit + test + "<1", 1, at + test.length());
            Check.error(fit + test + " and;", 1, at + test.length() + 4);
            Check.error(fit + test + " or;", 1, at + test.length() + 3);
        }
        Check.error(fit + "on;", 1, at + 2);
        Check.error(fit + "fits;", 1, at + 4);
        Check.error(fit + "on [a];", 1, at + 3);
        Check.error(fit + "[];", 1, at + 1);
        Check.error(fit + "not;", 1, at + 3);
        Check.error(fit + "a;", 1, at);
        Check.error(fit + "1;", 1, at + 1);
        Check.error(fit + "1<;", 1, at + 2);
        Check.error(fit + "<1;", 1, at);
        Check.error(fit + "1<2<3;", 1, at + 3);
        Check.error(fit + "1=on a;", 1, at + 2);
        Check.error(fit + "(on a);", 1, at + 1);
        Check.error(fit + "(1<2);", 1, at + 2);
        Check.error(fit + "[1]<2;", 1, at + 2);
    }

    private static void partsOfSums() {
        Check.sentence("value = number | \"round\" | \"placed\" | \"matches\" | \"points\" | \"rings\" | \"free\" |"
                + " \"ways\" \"of\" name | \"-\" value | \"(\" sum \")\" | ( \"min\" | \"max\" ) \"(\" sum \",\" sum \")\"");
        for (String[] place : SUMS) {
            int at = place[0].length();
            // A blank ahead of "turned" is no token.
            int next = place[1].startsWith(" ") ? 1 : 0;
            for (String value : new String[] {"1", "round", "placed", "matches", "points", "rings", "free", "ways of a", "-1",
                "(1)", "min(1,2)", "max(round,free)", "-(1)", "--1", "(1+2)", "min(1+2,-3)", "-ways of a"}) {
                Check.good(place[0] + value + place[1]);
                Check.good(place[0] + value + "+" + value + "-" + value + "*" + value + "/" + value + place[1]);
                Check.error(place[0] + "(" + value + place[1], 1, at + 1 + value.length() + next);
                Check.error(place[0] + value + ")", 1, at + value.length());
                Check.error(place[0] + value + " 1", 1, at + value.length() + 1);
                Check.error(place[0] + value + "(", 1, at + value.length());
                Check.error(place[0] + value + "+" + place[1], 1, at + value.length() + 1 + next);
                Check.error(place[0] + "min(" + value + ")", 1, at + 4 + value.length());
                Check.error(place[0] + "max(" + value + ",1,", 1, at + 6 + value.length());
            }
            Check.error(place[0] + "()", 1, at + 1);
            Check.error(place[0] + "+1", 1, at);
            Check.error(place[0] + "-+1", 1, at + 1);
            Check.error(place[0] + "min 1", 1, at + 4);
            Check.error(place[0] + "min()", 1, at + 4);
            Check.error(place[0] + "max(1,)", 1, at + 6);
            Check.error(place[0] + "ways a", 1, at + 5);
            Check.error(place[0] + "ways of 1", 1, at + 8);
            Check.error(place[0] + "ways of (a)", 1, at + 8);
            Check.error(place[0] + "a", 1, at);
            Check.error(place[0] + "1 a", 1, at + 2);
            Check.error(place[0] + "of a", 1, at);
        }
    }

    /** A game in which each kind of token stands. */
    private static final String[] RICH = ("board 4 by 5 ; tile a 1 2 3 ; tile b 9 0 9 ; put a at 1 + 2 - 3 , ( 4 * 5 ) / 6"
            + " turned - ways of a when not on a and [ fits b or 1 < 2 ] ; take a when round > placed or matches >= points ;"
            + " fit b when rings <= free and min ( 1 , 2 ) = max ( 3 , 4 ) ; put b at 0 , 0 turned 0 ; fit a ;").split(" ");

    private static void endOfTheTape() {
        Check.sentence("the end of the tape (at its length)");
        StringBuilder text = new StringBuilder();
        for (int n = 0; n <= RICH.length; n++) {
            String start = text.toString().trim();
            boolean whole = start.isEmpty() || start.endsWith(";");
            if (whole) {
                Check.good(start);
                Check.good(start + "\n ");
            } else {
                Check.error(start, 1, start.length());
                Check.error(start + " ", 1, start.length() + 1);
                Check.error(start + " \n\n", 1, start.length() + 3);
            }
            text.append(n < RICH.length ? RICH[n] + " " : "");
        }
    }

    private static void wrongByteInEachPlace() {
        Check.sentence("This includes a byte with which no token begins, a word or number that is too long");
        StringBuilder text = new StringBuilder();
        for (int n = 0; n <= RICH.length; n++) {
            String rest = String.join(" ", java.util.Arrays.copyOfRange(RICH, n, RICH.length));
            for (String wrong : new String[] {"?", "A", "_", "\t", "\r", "\u0000", "\u0080", "\u00ff", "!", "{", "}", "\"",
                "a2345678901", "1234567", "boardboard1", "0000000"}) {
                Check.error(text + wrong + " " + rest, 1, text.length());
                Check.error(text + wrong, 1, text.length());
            }
            text.append(n < RICH.length ? RICH[n] + " " : "");
        }
        Check.sentence("Error 1: the first token with which the tokens so far are not the beginning of a game.");
        Check.error("tile 1 ?", 1, 5);
        Check.error("tile a 1 2 ? 1234567", 1, 11);
        Check.error("take a2345678901 ?", 1, 5);
        Check.error(A + "take a when 1 = = ?", 1, 29);
    }

    // ---- the depth

    private static String deep(String[] opening, int depth) {
        return opening[0].repeat(depth) + "1" + opening[1].repeat(depth);
    }

    /** Where the sign that opens stands within an opening. */
    private static int signWithin(String opening) {
        return Math.max(opening.indexOf('('), 0);
    }

    private static void depthOfSums() {
        Check.sentence("It may be at most 8.");
        for (String[] place : SUMS) {
            for (String[] opening : OPENINGS) {
                Check.good(place[0] + deep(opening, 8) + place[1]);
                int at = place[0].length() + 8 * opening[0].length() + signWithin(opening[0]);
                Check.error(place[0] + deep(opening, 9) + place[1], 1, at);
                Check.error(place[0] + deep(opening, 10) + place[1], 1, at);
                Check.error(place[0] + opening[0].repeat(9), 1, at);
                Check.error(place[0] + opening[0].repeat(8), 1, place[0].length() + 8 * opening[0].length());
                for (String[] other : OPENINGS) {
                    String inside = deep(opening, 4) + "*" + deep(other, 4);
                    Check.good(place[0] + "-(-(" + inside + "))" + place[1]);
                    Check.error(place[0] + "-(-(1+" + deep(other, 5), 1,
                            place[0].length() + 6 + 4 * other[0].length() + signWithin(other[0]));
                }
            }
        }
    }

    private static void depthOfTests() {
        Check.sentence("the (, [, - or not behind which the depth would be 9");
        String[][] openings = {{"not ", ""}, {"[", "]"}, {"not [", "]"}, {"[not ", "]"}};
        for (String[] place : TESTS) {
            for (String[] opening : openings) {
                int each = opening[0].trim().length() > 3 ? 2 : 1;
                String start = opening[0].repeat(8 / each);
                String end = opening[1].repeat(8 / each);
                int at = place[0].length() + start.length();
                for (String single : new String[] {"on a", "fits a", "1<2", "round=free+1"}) {
                    Check.good(place[0] + start + single + end + place[1]);
                    Check.error(place[0] + start + "not " + single + end + place[1], 1, at);
                    Check.error(place[0] + start + "[" + single + "]" + end + place[1], 1, at);
                    if (opening[0].endsWith("[")) {
                        // A not turns only what is next, but a [ goes on up to its ].
                        Check.error(place[0] + start + "1=1 and not " + single, 1, at + 8);
                        Check.error(place[0] + start + "1=1 or [" + single, 1, at + 7);
                    }
                }
                Check.error(place[0] + start + "-1<2" + end + place[1], 1, at);
                Check.error(place[0] + start + "(1)<2" + end + place[1], 1, at);
                Check.error(place[0] + start + "1<-2" + end + place[1], 1, at + 2);
                Check.error(place[0] + start + "1<(2)" + end + place[1], 1, at + 2);
                Check.error(place[0] + start + "min(1,2)<2" + end + place[1], 1, at + 3);
                Check.error(place[0] + start + "1<max(1,2)" + end + place[1], 1, at + 5);
            }
        }
    }

    private static void depthGoesBack() {
        Check.sentence("1 greater between a ( and its ), a [ and its ], behind a - in front (of a value) for what it turns,"
                + " and behind a not for what it turns.");
        for (String[] place : SUMS) {
            for (String[] opening : OPENINGS) {
                Check.good(place[0] + deep(opening, 8) + "+" + deep(opening, 8) + "*" + deep(opening, 8) + place[1]);
                Check.good(place[0] + "1-" + deep(opening, 8) + "-1" + place[1]);
                Check.good(place[0] + "min(" + deep(opening, 7) + "," + deep(opening, 7) + ")" + place[1]);
                Check.good(place[0] + "-1+" + deep(opening, 8) + place[1]);
                Check.good(place[0] + "-1*" + deep(opening, 8) + place[1]);
            }
        }
        String eight = "[".repeat(8) + "on a" + "]".repeat(8);
        for (String[] place : TESTS) {
            Check.good(place[0] + "not on a and " + eight + place[1]);
            Check.good(place[0] + "not 1<2 or " + eight + place[1]);
            Check.good(place[0] + eight + " and not " + eight.substring(1, eight.length() - 1) + " or " + eight + place[1]);
            Check.good(place[0] + "not ".repeat(8) + "on a and " + "not ".repeat(8) + "on a" + place[1]);
            Check.good(place[0] + "not ".repeat(8) + "on a or ((((((((1))))))))>0" + place[1]);
            Check.good(place[0] + "-".repeat(8) + "1<" + "-".repeat(8) + "1" + place[1]);
            // not turns the whole comparison, both of its sides.
            Check.good(place[0] + "not 1<" + "-".repeat(7) + "1" + place[1]);
            Check.error(place[0] + "not 1<" + "-".repeat(8) + "1" + place[1], 1, place[0].length() + 13);
            Check.error(place[0] + "not " + "-".repeat(8) + "1<1" + place[1], 1, place[0].length() + 11);
        }
    }

    private static void tokenLimit() {
        Check.sentence("the token that would be the 401st (the end of the tape not counted).");
        // The tile has 6 tokens, "fit a when 1" has 4, each "+1" has 2 and "<" is one.
        String start = A + "fit a when 1" + "+1".repeat(193) + "<";
        Check.equal("tokens of the start", start.replaceAll("[a-z]+|[0-9]+|[;+<]", "x").replace(" ", "").length(), 397);
        Check.good(start + "1;");
        Check.good(start + "-1;");
        Check.error(start + "--1;", 1, start.length() + 3);
        Check.error(start + "---1;", 1, start.length() + 3);
        Check.error(start + "-1; ;", 1, start.length() + 4);
        Check.good(start + "-1;\n \n");
        for (String more : new String[] {"tile", "take a;", "fit", "?", "abcdefghijk", "1234567", ";", "board", "("}) {
            Check.error(start + "-1;" + more, 1, start.length() + 3);
            Check.error(start + "-1; \n" + more, 1, start.length() + 5);
        }
        Check.error(start + "--1", 1, start.length() + 3);
        Check.error(start + "--1  ", 1, start.length() + 5);
        Check.error(start + "-1", 1, start.length() + 2);
        // An error ahead of the 401st token is told at its own token.
        Check.error(start + ";1 2 3 4 5", 1, start.length());
        Check.error("?" + start + "---1;", 1, 0);
        Check.error(start + "-?;1 2 3", 1, start.length() + 1);
        // Names and numbers are not looked at if the 401st token is there.
        Check.error(start.replace("fit a", "fit b") + "--1;", 1, start.length() + 3);
    }

    // ---- the errors 2 to 5

    private static String tiles(int count) {
        StringBuilder tiles = new StringBuilder();
        for (int n = 0; n < count; n++) {
            tiles.append("tile t").append((char) ('a' + n)).append(" 1 2 3;");
        }
        return tiles.toString();
    }

    private static void errorOneIsFirst() {
        Check.sentence("Only if there is no error 1, keywords, names and numbers are looked at");
        String[] wrong = {A + A, "take a;", A + "take a;".repeat(17), tiles(17), "board 2 by 2;", "tile a 10 1 1;"};
        for (String text : wrong) {
            Check.error(text + "?", 1, text.length());
            Check.error(text + "tile", 1, text.length() + 4);
            Check.error(text + ";", 1, text.length());
        }
    }

    private static void leftToRight() {
        Check.sentence("looked at from left to right, and the first error is told, at its token");
        Check.error("board 2 by 3;" + A + A, 5, 6);
        Check.error("board 2 by 2;", 5, 6);
        Check.error("board 3 by 2;tile a 10 1 1;", 5, 11);
        Check.error("board 8 by 3;take a;", 5, 6);
        Check.error(A + "tile a 10 2 3;", 2, 18);
        Check.error(A + "tile b 10 2 3;tile a 1 2 3;", 5, 20);
        Check.error(A + "take b;tile a 1 2 3;", 3, 18);
        Check.error(A + A + "take b;", 2, 18);
        Check.error("take b;tile a 1 2 10;", 3, 5);
        Check.error("tile a 1 2 10;take b;", 5, 11);
        Check.error(A + "take b when on c and fits d;", 3, 18);
        Check.error(A + "take a when on c and fits d;", 3, 28);
        Check.error(A + "put a at ways of c,ways of d turned 0 when on e;", 3, 30);
        Check.error(A + "take a;".repeat(16) + "take b;", 4, 13 + 16 * 7);
        Check.error(A + "take a;".repeat(15) + "take b;take a;", 3, 13 + 15 * 7 + 5);
        Check.error(A + "take a;".repeat(16) + "tile b 1 2 10;take a;", 5, 13 + 16 * 7 + 11);
        Check.error(tiles(16) + "tile x 10 10 10;", 4, 16 * 14 + 5);
        Check.error(tiles(15) + "tile x 10 10 10;tile y 1 1 1;", 5, 15 * 14 + 7);
        Check.error("tile a 1 10 11;", 5, 9);
        Check.sentence("of errors at one token the one with the smallest number.");
        Check.error(tiles(16) + "tile ta 1 2 3;", 2, 16 * 14 + 5);
        Check.error(tiles(16) + "tile tp 1 2 3;", 2, 16 * 14 + 5);
        Check.error(tiles(16) + "tile tq 1 2 3;", 4, 16 * 14 + 5);
    }

    private static void errorTwo() {
        Check.sentence("Error 2: the name behind tile is that of a tile told ahead.");
        Check.error(A + A, 2, 18);
        Check.error("tile q2345678ab 1 2 3;tile q2345678ab 1 2 3;", 2, 27);
        Check.error(tiles(5) + "tile tc 1 2 3;", 2, 75);
        Check.good("tile q2345678ab 1 2 3;tile q2345678ac 1 2 3;");
        Check.good("tile q2345678ab 1 2 3;tile r2345678ab 1 2 3;");
        Check.good("tile ab 1 2 3;tile a 1 2 3;tile abc 1 2 3;tile b 1 2 3;");
        Check.good("tile a0 1 2 3;tile a00 1 2 3;tile a 1 2 3;");
    }

    private static void errorThree() {
        Check.sentence("Error 3: another name is not that of a tile told ahead.");
        String[] places = {"take b;", "fit b;", "put b at 0,0 turned 0;", "put a at ways of b,0 turned 0;",
            "put a at 0,ways of b turned 0;", "put a at 0,0 turned ways of b;", "take a when on b;", "take a when fits b;",
            "take a when ways of b<1;", "take a when 1<ways of b;", "take a when [not on b];", "take a when -(ways of b)<1;",
            "take a when on a and on b;", "take a when on a or on b;"};
        for (String place : places) {
            // Each of these letters is the only b of its text.
            int at = A.length() + place.indexOf('b');
            Check.error(A + place, 3, at);
            Check.error(A + place + "tile b 1 2 3;", 3, at);
            Check.good(A + "tile b 1 2 3;" + place);
            Check.error("tile ab 1 2 3;tile ba 1 2 3;" + A + place, 3, at + 28);
        }
        Check.error("take a;" + A, 3, 5);
        Check.error("tile ab 1 2 3;take a;", 3, 19);
        Check.error("tile a 1 2 3;take ab;", 3, 18);
        Check.error("tile q2345678ab 1 2 3;take q2345678ac;", 3, 27);
    }

    private static void errorFour() {
        Check.sentence("Error 4: the name of the 17th tile, or the first word of the 17th order.");
        Check.good(tiles(16));
        Check.equal("16 tiles", Check.taught(tiles(16)).tiles(), 16);
        Check.error(tiles(17), 4, 16 * 14 + 5);
        Check.error(tiles(20), 4, 16 * 14 + 5);
        String[] orders = {"take a;", "fit a;", "put a at 0,0 turned 0;"};
        for (String order : orders) {
            String most = A + order.repeat(16);
            Check.good(most);
            for (String other : orders) {
                Check.error(most + other, 4, most.length());
                Check.error(most + "tile b 1 2 3;" + other, 4, most.length() + 13);
            }
            Check.good(most + "tile b 1 2 3;");
        }
        Check.good(tiles(16) + "take ta;".repeat(16));
        Check.error(tiles(16) + "take ta;".repeat(17), 4, 16 * 14 + 16 * 8);
        RingDomino x = Check.taught(A + "take a;".repeat(15) + "fit a;");
        Check.equal("the 16th order is carried out", x.playRounds(1), 1);
    }

    private static void errorFive() {
        Check.sentence("Error 5: a number of board is not 3 to 7, one of a tile greater than 9.");
        for (int n = 0; n <= 12; n++) {
            boolean side = n >= 3 && n <= 7;
            Check.error("board " + n + " by 3;", side ? 0 : 5, side ? -1 : 6);
            Check.error("board 7 by " + n + ";", side ? 0 : 5, side ? -1 : 11);
            boolean number = n <= 9;
            Check.error("tile a " + n + " 2 3;", number ? 0 : 5, number ? -1 : 7);
            Check.error("tile a 1 " + n + " 3;", number ? 0 : 5, number ? -1 : 9);
            Check.error("tile a 1 2 " + n + ";", number ? 0 : 5, number ? -1 : 11);
            // Other numbers may be as they like, also behind a board and a tile.
            Check.good("board 3 by 3;" + A + "put a at " + n + "," + n + " turned " + n + " when " + n + "<" + n + ";");
        }
        Check.error("board 999999 by 3;", 5, 6);
        Check.error("board 3 by 999999;", 5, 11);
        Check.error("tile a 1 2 999999;", 5, 11);
        Check.good(A + "put a at 999999,999999 turned 999999 when 999999=0;tile b 9 9 9;");
        Check.error(A + "put a at 999999,999999 turned 999999 when 999999=0;tile b 9 9 10;", 5, 75);
    }

    // ---- what teach leaves

    private static void teachBeginsAnew() {
        Check.sentence("Reads the tape as a game, in the place of all that was told before; all begins anew, with an empty"
                + " board.");
        RingDomino x = Check.taught("board 3 by 3;tile a 1 1 1;tile b 1 1 1;fit a;fit b;");
        x.playRounds(4);
        Check.equal("an empty game", x.teach(), 0);
        Check.equal("columns", x.columns(), 5);
        Check.equal("rows", x.rows(), 5);
        Check.equal("tiles", x.tiles(), 0);
        Check.equal("rounds", x.rounds(), 0);
        Check.equal("placedTiles", x.placedTiles(), 0);
        Check.equal("matches", x.matches(), 0);
        Check.equal("as a new object", x.digest(), new RingDomino().digest());
        Check.equal("no orders", x.playRounds(1), 0);
        Check.equal("the same game again", Check.teach(x, "board 3 by 3;tile a 1 1 1;tile b 1 1 1;fit a;fit b;"), 0);
        Check.fails("a lies", x.isPlaced(0));
        Check.equal("its orders", x.playRounds(1), 2);
        Check.sentence("If it has an error, all stays (but the tape is empty).");
        long digest = x.digest();
        String[] wrong = {"?", A + A, "take a;", A + "take a;".repeat(17), tiles(17), "board 7 by 8;", "tile a 1 1 10;",
            "board 4 by 4;tile c 2 2 2;tile d 3 3 3;take c;take d;take e;"};
        int[] errors = {1, 2, 3, 4, 4, 5, 5, 3};
        for (int n = 0; n < wrong.length; n++) {
            Check.equal("teach of " + wrong[n], Check.teach(x, wrong[n]), errors[n]);
            Check.equal("all stays", x.digest(), digest);
            Check.equal("a lies where it lay", x.cellOf(0), 0);
            Check.equal("its number", x.numberAt(0, 0), 1);
            Check.tapeHolds(x, 0);
        }
        x.takeTile(1);
        Check.equal("the orders stay", x.playRounds(1), 1);
        Check.equal("b is fitted again", x.cellOf(1), 1);
    }

    private static void errorAt() {
        Check.sentence("Returns the position of the error of the latest teach(); -1 if it had none, or there was none.");
        RingDomino x = new RingDomino();
        Check.equal("there was none", x.errorAt(), -1);
        x.feed(0, 0, 0, 0, 0);
        Check.equal("feed alone", x.errorAt(), -1);
        Check.equal("teach of a zero", x.teach(), 1);
        Check.equal("at the first byte", x.errorAt(), 0);
        Check.equal("teach of nothing", x.teach(), 0);
        Check.equal("no error", x.errorAt(), -1);
        Check.equal("teach of a tile", Check.teach(x, "tile"), 1);
        Check.equal("at the end", x.errorAt(), 4);
        x.feed(0, 0, 0, 0, 0);
        x.trim(7);
        x.playRounds(1);
        Check.equal("only teach tells", x.errorAt(), 4);
        Check.illegalArgument("trim", () -> x.trim(8));
        Check.equal("a refused call tells nothing", x.errorAt(), 4);
        x.trim(0);
        Check.equal("teach of a good game", Check.teach(x, A), 0);
        Check.equal("no error again", x.errorAt(), -1);
    }
}
