/** Promises 14, 15 and 22: first, rounds, afternoon. */
public final class GamesTest {
    public static void main(String[] args) {
        bad();
        oneRound();
        sureGames();
        evenGames();
        longestGame();
        lettersCount();
        afternoons();
        Check.end();
    }

    private static void bad() {
        BallAndName x = new BallAndName();
        int bad = BallAndName.BAD;
        for (int i : new int[] {-1, 3, Integer.MIN_VALUE, Integer.MAX_VALUE}) {
            Check.due("first", x.first(i, 0, 0), bad);
            Check.due("first of", x.first(0, i, 0), bad);
            Check.due("rounds", x.rounds(i, 0), bad);
        }
        for (int part : new int[] {-1, 2, Integer.MIN_VALUE, Integer.MAX_VALUE}) {
            Check.due("first, part", x.first(0, 0, part), bad);
            Check.due("rounds, part", x.rounds(0, part), bad);
            Check.due("afternoon, what", x.afternoon(0, part), bad);
        }
        for (int z : new int[] {-1, 10000, Integer.MIN_VALUE, Integer.MAX_VALUE}) {
            Check.due("afternoon", x.afternoon(z, 0), bad);
        }
    }

    private static void firstIs(String what, BallAndName x, int i, int k, long above, long below) {
        Check.due(what + ": first(" + i + ", " + k + ", 0)", x.first(i, k, 0), above);
        Check.due(what + ": first(" + i + ", " + k + ", 1)", x.first(i, k, 1), below);
    }

    private static void roundsAre(String what, BallAndName x, int i, long above, long below) {
        Check.due(what + ": rounds(" + i + ", 0)", x.rounds(i, 0), above);
        Check.due(what + ": rounds(" + i + ", 1)", x.rounds(i, 1), below);
    }

    private static void oneRound() {
        BallAndName x = new BallAndName();
        for (int i = 0; i < 3; i++) {
            x.letters(i, 3);
        }
        // at 0 by 4 of ten, else 1; at 1 by 5, else 2; at 1 by 6, else 0
        firstIs("three each", x, 0, 0, 2, 5);
        firstIs("three each", x, 0, 1, 3, 5);
        firstIs("three each", x, 0, 2, 0, 1);
        firstIs("three each", x, 1, 1, 1, 2);
        firstIs("three each", x, 1, 2, 1, 2);
        firstIs("three each", x, 2, 1, 3, 5);
        firstIs("three each", x, 2, 0, 2, 5);
        for (int i = 0; i < 3; i++) {
            roundsAre("three each", x, i, 1, 1);
        }
        // a letter less for 2: by 5 of ten a round more, his own
        x.letters(2, 2);
        firstIs("a letter less", x, 1, 1, 4, 5);
        firstIs("a letter less", x, 1, 0, 1, 5);
        firstIs("a letter less", x, 1, 2, 0, 1);
        roundsAre("a letter less", x, 1, 3, 2);
    }

    private static void sureGames() {
        // nobody can hit: who is called gets the letter, in turn
        BallAndName x = Check.laid("n40;d3;p0,5,1,0,0;p40,5,1,0,0;a0,1,40,9;a1,0,0,9;");
        firstIs("nobody can hit", x, 0, 1, 1, 1);
        firstIs("nobody can hit", x, 0, 0, 0, 1);
        firstIs("nobody can hit", x, 1, 0, 1, 1);
        roundsAre("nobody can hit", x, 0, 7, 1);
        // all hit: who calls gets all four
        BallAndName y = Check.laid("n5;d0;p2,1,9,9,0;p2,1,9,9,0;");
        firstIs("all hit", y, 0, 0, 1, 1);
        firstIs("all hit", y, 0, 1, 0, 1);
        roundsAre("all hit", y, 0, 4, 1);
        roundsAre("all hit", y, 1, 4, 1);
    }

    private static void evenGames() {
        // each hits by 5 of ten: late, one beat, no slide: all stay at 2; size 5, skill 0
        BallAndName x = Check.laid("n5;d0;p2,1,5,0,1;p2,1,5,0,1;");
        Check.due("5 of ten", x.thrown(0, 1), 5);
        Check.due("5 of ten", x.thrown(1, 1), 5);
        firstIs("even", x, 0, 0, 1, 2);
        firstIs("even", x, 1, 0, 1, 2);
        // the mean of the length of a race to four: 4 to 7 rounds by 8, 16, 20, 20 of 64
        roundsAre("even", x, 0, 93, 16);
        // by 7 of ten at the one who calls: three and three letters, then both 7 of ten
        BallAndName y = Check.laid("n5;d0;p2,1,7,0,1;p2,1,7,0,1;l0,3;l1,2;");
        firstIs("7 of ten", y, 0, 0, 79, 100);
        firstIs("7 of ten", y, 0, 1, 21, 100);
        roundsAre("7 of ten", y, 0, 13, 10);
    }

    private static void longestGame() {
        // four by tenths: each round at the caller, or at the one he calls, who is next
        BallAndName x = Check.laid("n5;d0;p2,1,1,0,1;p2,1,1,0,1;p2,1,1,0,1;p2,1,1,0,1;p2,1,1,0,1;");
        // it is thrown at 0 (at 1 if 0 is called) by 1 of ten
        for (int i = 0; i < 5; i++) {
            Check.due("tenths: whom", x.thrown(i, 0), i == 4 ? 1 : 0);
            Check.due("tenths: chance", x.thrown(i, 1), 1);
        }
        long sumAbove = 0;
        for (int k = 0; k < 5; k++) {
            long below = x.first(0, k, 1);
            Check.due("below divides ten to the 16", 10_000_000_000_000_000L % below, 0);
            sumAbove += x.first(0, k, 0) * (10_000_000_000_000_000L / below);
        }
        Check.due("together 1", sumAbove, 10_000_000_000_000_000L);
        // nobody hit: all have three letters, and the sixteenth round ends it
        BallAndName y = Check.laid("n40;d3;p40,5,1,0,0;p40,5,1,0,0;p40,5,1,0,0;p40,5,1,0,0;p40,5,1,0,0;"
                + "a0,1,0,9;a1,2,0,9;a2,3,0,9;a3,4,0,9;a4,0,0,9;");
        roundsAre("sixteen", y, 0, 16, 1);
        firstIs("sixteen", y, 0, 1, 1, 1);
        firstIs("sixteen", y, 3, 4, 1, 1);
        Check.due("sixteen: afternoon", y.afternoon(9999, 1), 16);
        Check.due("sixteen: out", y.afternoon(9999, 0), 1);
    }

    private static void lettersCount() {
        BallAndName x = Check.laid("n40;d3;p0,5,1,0,0;p40,5,1,0,0;a0,1,40,9;a1,0,0,9;l1,3;");
        roundsAre("three letters told", x, 0, 1, 1);
        firstIs("three letters told", x, 0, 1, 1, 1);
        roundsAre("three letters told", x, 1, 2, 1);
        x.letters(1, 0);
        x.letters(0, 3);
        roundsAre("three letters given", x, 0, 2, 1);
        firstIs("three letters given", x, 0, 0, 1, 1);
        Check.due("afternoon", x.afternoon(3, 1), 2);
        Check.due("afternoon", x.afternoon(3, 0), 0);
        // the game that is played changes no letters
        Check.due("letters stay", x.player(0, 5), 3);
        Check.due("letters stay", x.player(1, 5), 0);
    }

    private static void afternoons() {
        BallAndName x = new BallAndName();
        // x is 1, 6152, 12303, 18454, 24605, 30756, ..
        int[] draws = new int[16];
        int[] target = {0, 1, 1};
        int[] chance = {4, 5, 6};
        int[] callee = {1, 2, 0};
        for (int z : new int[] {0, 1, 7, 500, 9998, 9999}) {
            java.math.BigInteger modulus = java.math.BigInteger.valueOf(65521);
            for (int t = 0; t < 16; t++) {
                java.math.BigInteger y = java.math.BigInteger.valueOf(7919L * z + 6151L * t + 1);
                draws[t] = y.multiply(y).mod(modulus).intValue() % 10;
            }
            int[] letters = new int[3];
            int turn = 0;
            int t = 0;
            while (true) {
                int taker = draws[t] < chance[turn] ? target[turn] : callee[turn];
                t++;
                letters[taker]++;
                turn = taker;
                if (letters[taker] == 4) {
                    break;
                }
            }
            Check.due("afternoon(" + z + ", 0)", x.afternoon(z, 0), turn);
            Check.due("afternoon(" + z + ", 1)", x.afternoon(z, 1), t);
        }
        // a draw of the chance itself misses: x is 1 in the first round of z 0, and 1 modulo 10 is 1
        BallAndName one = Check.laid("n5;d0;p2,1,1,0,1;p2,1,1,0,1;l0,3;l1,3;");
        Check.due("1 of ten, drawn 1", one.afternoon(0, 0), 1);
        BallAndName two = Check.laid("n5;d0;p2,1,2,0,1;p2,1,1,0,1;l0,3;l1,3;");
        Check.due("2 of ten, drawn 1", two.afternoon(0, 0), 0);
    }
}
