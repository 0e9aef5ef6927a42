import java.math.BigInteger;

/** Section 3, afternoons, and promises 12 to 15 and 22: each sentence that names a bound, at it and one beyond. */
public final class BestBoundsTest {
    private static final int BAD = BallAndName.BAD;
    private static final int NONE = BallAndName.NONE;

    /** Two who stay at cell 2: of 0's call 1 has the ball and throws at 0, and the other way round. */
    private static final String DUEL = "n5;d0;p2,1,5,0,1;p2,1,5,0,1;";
    /** Nobody hits anybody: who is called gets the letter, 0 calls 1 and 1 calls 0. */
    private static final String FAR = "n40;d3;p0,5,1,0,0;p40,5,1,0,0;a0,1,40,9;a1,0,0,9;";
    /** Five far from the ball: nobody is hit, and each calls the next one. */
    private static final String RING = "n40;d3;p40,5,1,0,0;p40,5,1,0,0;p40,5,1,0,0;p40,5,1,0,0;p40,5,1,0,0;"
            + "a0,1,0,9;a1,2,0,9;a2,3,0,9;a3,4,0,9;a4,0,0,9;";

    public static void main(String[] args) {
        safeAnswers();
        safeIsNone();
        safeIsTheOnlyCall();
        safeIsByTheLeastChance();
        safeIsTheFirstOfSeveral();
        safeThrowsAtAnotherOne();
        safeAsTried();
        runAnswers();
        runIsTheLeastAndTheLowest();
        runIs0IfItIsNotThrownAtHim();
        runAsTried();
        gameEndsWithTheFourthLetter();
        gameBeginsWithTheRoundOfI();
        gameGoesOnWithWhoGetsTheLetter();
        oddsAreInLowestTerms();
        oddsOfOneRound();
        oddsOfTheLongestGames();
        roundsOnTheMean();
        afternoonsAnswers();
        afternoonHitsBelowTheChance();
        afternoonOfEveryZ();
        afternoonBeginsWith0();
        afternoonsOfManyRounds();
        gamesChangeNothing();
        Check.end();
    }

    private static long[] safeOf(BallAndName x, int i) {
        return new long[] {x.safe(i, 0), x.safe(i, 1), x.safe(i, 2), x.safe(i, 3)};
    }

    private static void safeIs(String text, int i, long... want) {
        Check.dueAll("safe(" + i + ") of " + text, safeOf(Check.laid(text), i), want);
    }

    /** Promise 12 'J (what = 0), B (1), H (2), the CHANCE (3). NONE; BAD'. */
    private static void safeAnswers() {
        BallAndName x = Check.laid("n12;p12,5,2,1,3;p11,1,9,2,0;p8,3,1,8,0;");
        int[] told = {2, 12, 9, 9};
        for (int what = -1; what <= 4; what++) {
            Check.due("safe(1, " + what + ")", x.safe(1, what), what < 0 || what > 3 ? BAD : told[what]);
        }
        for (int i = -1; i <= 3; i++) {
            Check.due("safe(" + i + ", 0)", x.safe(i, 0) == BAD ? 1 : 0, i < 0 || i > 2 ? 1 : 0);
        }
    }

    /** Promise 12 'NONE', 'none (it is thrown at him by all ..)'; BAD ahead of it. */
    private static void safeIsNone() {
        // of two it is always thrown at the one who calls, be it by 0
        for (String text : new String[] {DUEL, FAR, "n5;p0,1,1,0,0;p5,1,1,0,0;"}) {
            for (int i = 0; i < 2; i++) {
                safeIs(text, i, NONE, NONE, NONE, NONE);
                Check.due("BAD ahead of NONE", Check.laid(text).safe(i, 4), BAD);
                Check.due("BAD ahead of NONE", Check.laid(text).safe(i, -1), BAD);
            }
        }
        // all alike, all run to the same cell, all hit by ten: at the lowest, whom 0 is, wherever it is thrown
        String alike = "n5;d0;p2,1,9,9,0;p2,1,9,9,0;p2,1,9,9,0;";
        safeIs(alike, 0, NONE, NONE, NONE, NONE);
        safeIs(alike, 1, 2, 0, 1, 10);
        safeIs(alike, 2, 0, 0, 1, 10);
    }

    /** 'B is any cell of the ground': the only call by which it is not thrown at him, to 0, to N, 1 and 9 high. */
    private static void safeIsTheOnlyCall() {
        safeIs("n12;p12,5,2,1,3;p11,1,9,2,0;p8,3,1,8,0;", 1, 2, 12, 9, 9);
        safeIs("n5;p0,3,1,1,1;p2,1,3,8,3;p4,3,3,4,0;", 2, 0, 0, 1, 1);
        safeIs("n5;d0;p3,2,6,2,3;p0,4,5,2,0;p1,5,1,3,0;", 1, 2, 5, 1, 5);
        safeIs("n5;p4,5,6,0,0;p2,1,8,6,3;p4,4,8,7,2;", 0, 2, 0, 1, 10);
        safeIs("n5;d0;p2,2,4,3,3;p4,1,9,2,3;p4,2,7,7,0;", 2, 0, 5, 3, 6);
    }

    /** 'of several that by which it is thrown with the least CHANCE (at another one)': the one such call, not the first. */
    private static void safeIsByTheLeastChance() {
        safeIs("n12;d0;p10,5,1,6,1;p11,1,2,2,3;p1,5,4,7,1;", 0, 2, 12, 9, 1);
        safeIs("n12;d0;p3,1,9,5,0;p12,4,7,8,3;p8,2,4,0,1;", 1, 2, 0, 9, 0);
        safeIs("n6;d0;p3,2,9,5,0;p1,2,1,4,1;p5,1,1,3,1;", 1, 0, 6, 5, 4);
        safeIs("n6;p4,1,2,7,0;p4,3,2,3,0;p2,1,4,4,0;", 2, 1, 6, 1, 4);
    }

    /** 'of several the first (by J, then B, then H)'. */
    private static void safeIsTheFirstOfSeveral() {
        // also 2, 0, 6: J goes ahead of B
        safeIs("n8;d0;p1,1,8,1,3;p8,1,6,8,1;p2,2,6,2,3;", 1, 0, 1, 2, 2);
        // also 1, 5, 1: B goes ahead of H
        safeIs("n5;d0;p1,1,1,7,1;p5,2,6,0,0;p3,1,3,0,3;", 0, 1, 4, 2, 1);
        // also 1, 6, 3
        safeIs("n6;d2;p4,3,6,8,1;p5,3,4,8,3;p5,1,8,3,1;", 0, 1, 6, 2, 10);
        // also 1, 7, 3 and 1, 2, 5 to 1, 2, 9
        safeIs("n8;d0;p6,2,5,0,3;p5,1,7,1,1;p4,1,6,9,3;", 0, 1, 2, 4, 1);
    }

    /** 'by which it is not thrown at him .. (at another one)': though he would be hit by as much, or by 0. */
    private static void safeThrowsAtAnotherOne() {
        // it is thrown at the lowest, by 0: not at 1 and 2, but at 0
        String far = "n40;d3;p40,5,1,0,0;p40,5,1,0,0;p40,5,1,0,0;";
        BallAndName x = Check.laid(far);
        x.call(1, 2, 0, 9);
        Check.dueAll("by 0", new long[] {x.thrown(1, 0), x.thrown(1, 1)}, 0, 0);
        safeIs(far, 0, NONE, NONE, NONE, NONE);
        safeIs(far, 1, 2, 0, 1, 0);
        safeIs(far, 2, 0, 0, 1, 0);
    }

    /** SAFE as it can be tried out: each call told anew, and at whom it is thrown then. */
    private static void safeAsTried() {
        String[] texts = {"n8;d2;p5,3,3,6,3;p5,2,4,5,0;p0,1,1,9,2;", "n6;d0;p3,2,9,5,0;p1,2,1,4,1;p5,1,1,3,1;",
            "n5;p3,3,3,6,1;p0,2,8,2,1;p0,1,4,3,1;", "n7;d0;p0,1,1,9,1;p3,1,5,9,2;p3,1,5,9,3;p7,1,9,9,0;"};
        for (String text : texts) {
            BallAndName x = Check.laid(text);
            for (int i = 0; i < x.count(0); i++) {
                long[] best = {NONE, NONE, NONE, NONE};
                for (int j = 0; j < x.count(0); j++) {
                    BallAndName y = Check.laid(text);
                    for (int b = 0; b <= x.count(1) && i != j; b++) {
                        for (int h = 1; h <= 9; h++) {
                            y.call(i, j, b, h);
                            int chance = y.thrown(i, 1);
                            boolean less = best[3] == NONE || chance < best[3];
                            if (y.thrown(i, 0) != i && less) {
                                best = new long[] {j, b, h, chance};
                            }
                        }
                    }
                }
                Check.dueAll("safe as tried, " + i + " of " + text, safeOf(x, i), best);
            }
        }
    }

    /** Promise 13 'the KIND (what = 0), the CHANCE (1). BAD (k is J, too)'. */
    private static void runAnswers() {
        for (int j = 0; j < 3; j++) {
            for (int i = 0; i < 3; i++) {
                if (i != j) {
                    BallAndName x = Check.laid("p1,1,1,0,0;p2,1,1,0,0;p3,1,1,0,0;a" + i + "," + j + ",9,1;");
                    for (int k = -1; k <= 3; k++) {
                        boolean bad = k < 0 || k > 2 || k == j;
                        for (int what = 0; what <= 1; what++) {
                            Check.due("run of " + k, x.run(i, k, what) == BAD ? 1 : 0, bad ? 1 : 0);
                        }
                        Check.due("run, what -1", x.run(i, k, -1), BAD);
                        Check.due("run, what 2", x.run(i, k, 2), BAD);
                    }
                    Check.due("run(-1)", x.run(-1, i, 0), BAD);
                    Check.due("run(3)", x.run(3, i, 0), BAD);
                }
            }
        }
    }

    private static void runIs(String text, int i, int k, int kind, int chance) {
        BallAndName x = Check.laid(text);
        Check.due("run(" + i + ", " + k + ", 0) of " + text, x.run(i, k, 0), kind);
        Check.due("run(" + i + ", " + k + ", 1) of " + text, x.run(i, k, 1), chance);
    }

    /** 'the KIND by which .. the CHANCE that PLAYER k is hit .. is least, of several the lowest: it; that CHANCE'. */
    private static void runIsTheLeastAndTheLowest() {
        // plain, late, bold, ducking: 10 10 10 10; 4 4 4 3; 10 10 0 8; 0 2 5 0
        runIs("p4,3,2,9,2;p0,2,5,4,1;", 1, 1, 0, 10);
        runIs("p3,1,2,4,3;p3,3,4,2,0;", 0, 0, 3, 3);
        runIs("n8;p0,1,5,8,1;p4,3,7,8,0;p3,2,7,6,1;", 2, 2, 2, 0);
        runIs("p4,3,2,3,3;p9,1,6,3,3;", 0, 0, 0, 0);
        // 10 0 0 8; 10 0 0 0; 10 10 0 0; 0 10 0 0
        runIs("p1,3,7,0,2;p11,2,9,8,2;p9,3,7,2,0;", 0, 2, 1, 0);
        runIs("p5,4,7,4,0;p7,3,7,2,3;p6,1,6,3,3;p8,2,4,8,2;", 2, 1, 1, 0);
        runIs("p29,4,7,3,2;p20,1,7,7,3;p4,2,9,7,2;p16,2,6,9,0;", 2, 1, 2, 0);
        runIs("p4,1,7,0,0;p9,2,9,9,1;p4,2,9,5,0;", 0, 2, 0, 0);
        // 10 10 10 9; 10 10 10 0
        runIs("p2,2,8,8,0;p7,1,3,9,1;p0,2,2,9,2;", 0, 0, 3, 9);
        runIs("p0,1,9,9,2;p0,1,6,8,0;p8,2,3,7,0;", 1, 0, 3, 0);
    }

    /** 'the CHANCE that PLAYER k is hit (0, if it is not thrown at him)': though he could be hit by much. */
    private static void runIs0IfItIsNotThrownAtHim() {
        // 0 and 2 stay at the ball, 9 and 9: it is thrown at the lowest
        String text = "n40;d0;p9,1,9,0,1;p9,1,1,1,0;p9,1,9,0,1;a0,1,9,1;";
        BallAndName x = Check.laid(text);
        Check.dueAll("chances", new long[] {x.chance(0, 0), x.chance(0, 2), x.thrown(0, 0)}, 10, 10, 0);
        runIs(text, 0, 2, 0, 0);
        // 0 is hit by ten, if he is not DUCKING; then he could be by five, but it is thrown at 2, by ten
        runIs(text, 0, 0, 3, 0);
        // DUCKING he can be hit by ten, as 2 can; he is the lowest
        runIs("n40;d0;p9,1,2,0,1;p9,1,1,9,0;p9,1,1,0,1;a0,1,9,1;", 0, 0, 0, 10);
    }

    /** RUN as it can be tried out: laid anew with each kind, at whom it is thrown then. */
    private static void runAsTried() {
        int[][] games = {{10, 14, 20}, {3, 9, 9}, {0, 30, 15}, {12, 12, 12}, {16, 12, 13}};
        for (int[] cells : games) {
            for (int i = 0; i < 3; i++) {
                for (int k = 0; k < 3; k++) {
                    if (k == (i + 1) % 3) {
                        continue;
                    }
                    int least = 11;
                    int best = -1;
                    for (int kind = 0; kind < 4; kind++) {
                        BallAndName y = Check.laid(three(cells, k, kind));
                        int chance = y.thrown(i, 0) == k ? y.thrown(i, 1) : 0;
                        if (chance < least) {
                            least = chance;
                            best = kind;
                        }
                    }
                    for (int told = 0; told < 4; told++) {
                        runIs(three(cells, k, told), i, k, best, least);
                    }
                }
            }
        }
    }

    private static String three(int[] cells, int k, int kind) {
        StringBuilder text = new StringBuilder();
        for (int one = 0; one < 3; one++) {
            text.append('p').append(cells[one]).append(",2,").append(one + 5).append(",2,").append(one == k ? kind : one)
                    .append(';');
        }
        return text.toString();
    }

    private static void firstIs(String what, BallAndName x, int i, int k, long above, long below) {
        Check.dueAll(what + ": first(" + i + ", " + k + ")", new long[] {x.first(i, k, 0), x.first(i, k, 1)}, above, below);
    }

    private static void roundsAre(String what, BallAndName x, int i, long above, long below) {
        Check.dueAll(what + ": rounds(" + i + ")", new long[] {x.rounds(i, 0), x.rounds(i, 1)}, above, below);
    }

    /** 'With four one is OUT', '(LETTERS as they stand; of FIRST, ROUNDS, too)': 0 to 3 letters at first. */
    private static void gameEndsWithTheFourthLetter() {
        for (int letters = 0; letters <= 3; letters++) {
            // all are thrown at the one who calls, by ten, so 0 has all the rounds
            BallAndName x = Check.laid("n5;d0;p2,1,9,9,1;p2,1,9,9,1;l0," + letters + ";");
            firstIs(letters + " letters told", x, 0, 0, 1, 1);
            roundsAre(letters + " letters told", x, 0, 4 - letters, 1);
            roundsAre("the other one", x, 1, 4, 1);
            Check.dueAll("afternoon", new long[] {x.afternoon(0, 0), x.afternoon(0, 1)}, 0, 4 - letters);
            x.letters(0, 3 - letters);
            roundsAre(3 - letters + " letters given", x, 0, letters + 1, 1);
            Check.due("afternoon", x.afternoon(0, 1), letters + 1);
        }
    }

    /** 'A GAME begins with the ROUND of I'. */
    private static void gameBeginsWithTheRoundOfI() {
        BallAndName x = Check.laid(FAR);
        firstIs("nobody hits", x, 0, 0, 0, 1);
        firstIs("nobody hits", x, 0, 1, 1, 1);
        firstIs("nobody hits", x, 1, 0, 1, 1);
        firstIs("nobody hits", x, 1, 1, 0, 1);
        BallAndName ring = Check.laid(RING);
        for (int i = 0; i < 5; i++) {
            for (int k = 0; k < 5; k++) {
                firstIs("ring", ring, i, k, k == (i + 1) % 5 ? 1 : 0, 1);
            }
        }
    }

    /** 'who gets a LETTER has the next ROUND, each as told for him', 'if nobody is, J gets one'. */
    private static void gameGoesOnWithWhoGetsTheLetter() {
        BallAndName ring = Check.laid(RING + "l0,3;l1,2;l2,3;l3,3;l4,3;");
        // 1 gets his third, 2 his fourth
        roundsAre("to the next", ring, 0, 2, 1);
        firstIs("to the next", ring, 0, 2, 1, 1);
        ring.letters(2, 2);
        ring.letters(3, 0);
        ring.letters(4, 1);
        // 1, 2, 3, 4, 0: his fourth
        roundsAre("round the ring", ring, 0, 5, 1);
        firstIs("round the ring", ring, 0, 0, 1, 1);
        // 1 calls 0 instead of 2: 1, 0
        ring.call(1, 0, 0, 9);
        roundsAre("back to him", ring, 0, 2, 1);
        firstIs("back to him", ring, 0, 0, 1, 1);
    }

    /** 'in lowest terms': 0, 1, tenths that can be made less by 2, by 5, by 10, and that can't. */
    private static void oddsAreInLowestTerms() {
        long[][] terms = {{1, 10}, {1, 5}, {3, 10}, {2, 5}, {1, 2}, {3, 5}, {7, 10}, {4, 5}, {9, 10}, {1, 1}};
        for (int chance = 1; chance <= 10; chance++) {
            int size = Math.min(9, chance);
            BallAndName x = Check.laid("n5;d0;p2,1," + size + ",0,1;p2,1,1," + (chance - size) + ",1;l0,3;l1,3;");
            Check.due("chance", x.thrown(0, 1), chance);
            firstIs("by " + chance, x, 0, 0, terms[chance - 1][0], terms[chance - 1][1]);
            long[] rest = chance == 10 ? new long[] {0, 1} : terms[9 - chance];
            firstIs("by " + chance, x, 0, 1, rest[0], rest[1]);
            roundsAre("by " + chance, x, 0, 1, 1);
        }
        BallAndName far = Check.laid(FAR + "l0,3;l1,3;");
        firstIs("by 0", far, 0, 0, 0, 1);
        firstIs("by 0", far, 0, 1, 1, 1);
    }

    /** Promises 14 and 15 'above (part = 0), below (1). BAD'; k can be J, or I. */
    private static void oddsOfOneRound() {
        BallAndName x = Check.laid(DUEL + "l0,3;l1,3;");
        for (int i = -1; i <= 2; i++) {
            boolean badI = i < 0 || i > 1;
            for (int part = -1; part <= 2; part++) {
                boolean bad = badI || part < 0 || part > 1;
                Check.due("rounds(" + i + ", " + part + ")", x.rounds(i, part), bad ? BAD : 1);
                for (int k = -1; k <= 2; k++) {
                    boolean badK = bad || k < 0 || k > 1;
                    Check.due("first(" + i + ", " + k + ", " + part + ")", x.first(i, k, part),
                            badK ? BAD : part == 0 ? 1 : 2);
                }
            }
        }
    }

    /** FIRST and ROUNDS, 'in lowest terms', of five by up to sixteen rounds; as a second program told them. */
    private static void oddsOfTheLongestGames() {
        BallAndName x = Check.laid("n5;d0;p2,1,2,3,0;p3,2,2,3,3;p4,3,5,2,0;p5,2,4,3,2;p0,3,6,3,0;");
        firstIs("five", x, 4, 0, 237336920179L, 2500000000000000L);
        firstIs("five", x, 4, 1, 0, 1);
        firstIs("five", x, 4, 2, 164483585343L, 40000000000000L);
        firstIs("five", x, 4, 3, 13482749664279L, 5000000000000000L);
        firstIs("five", x, 4, 4, 77585658255117L, 78125000000000L);
        roundsAre("five", x, 4, 279495084909307L, 62500000000000L);
        // all by one of ten: it is thrown at 0, by 4's call at 1
        BallAndName tenths = Check.laid("n5;d0;p2,1,1,0,1;p2,1,1,0,1;p2,1,1,0,1;p2,1,1,0,1;p2,1,1,0,1;");
        firstIs("tenths", tenths, 1, 0, 430978579620769L, 1000000000000000L);
        firstIs("tenths", tenths, 2, 3, 377615263843899L, 1000000000000000L);
        firstIs("tenths", tenths, 4, 4, 0, 1);
        roundsAre("tenths", tenths, 1, 7188811766437133L, 500000000000000L);
        // three at first
        BallAndName three = new BallAndName();
        firstIs("three", three, 1, 0, 297, 3125);
        firstIs("three", three, 1, 1, 42683, 50000);
        firstIs("three", three, 1, 2, 513, 10000);
        roundsAre("three", three, 0, 41317, 6250);
        roundsAre("three", three, 1, 68841, 10000);
    }

    /** 'ROUNDS: in how many ROUNDS on the mean': one at least, sixteen at most, and halves. */
    private static void roundsOnTheMean() {
        BallAndName ring = Check.laid(RING);
        for (int i = 0; i < 5; i++) {
            roundsAre("sixteen", ring, i, 16, 1);
            Check.dueAll("afternoon", new long[] {ring.afternoon(i, 0), ring.afternoon(i, 1)}, 1, 16);
        }
        ring.letters(0, 1);
        roundsAre("a letter more of 0", ring, 0, 15, 1);
        firstIs("a letter more of 0", ring, 0, 0, 1, 1);
        roundsAre("a letter more of 0, from 4 on", ring, 4, 11, 1);
        for (int i = 0; i < 5; i++) {
            ring.letters(i, 3);
        }
        roundsAre("one", ring, 0, 1, 1);
        roundsAre("four to seven", Check.laid(DUEL), 0, 93, 16);
        roundsAre("one or two", Check.laid(DUEL + "l0,2;l1,3;"), 0, 3, 2);
    }

    /** 'An AFTERNOON by z (0 to 9999)', promise 22 'who is OUT (what = 0), ROUNDS (1). BAD'. */
    private static void afternoonsAnswers() {
        BallAndName x = new BallAndName();
        for (int z : new int[] {Integer.MIN_VALUE, -2, -1, 0, 1, 9998, 9999, 10000, 10001, Integer.MAX_VALUE}) {
            for (int what = -1; what <= 2; what++) {
                boolean bad = z < 0 || z > 9999 || what < 0 || what > 1;
                int got = x.afternoon(z, what);
                Check.due("afternoon(" + z + ", " + what + ")", got == BAD ? 1 : 0, bad ? 1 : 0);
            }
        }
        Check.dueAll("afternoon(0)", new long[] {x.afternoon(0, 0), x.afternoon(0, 1)}, 1, 9);
    }

    /** One round, of this chance: 0 is out if he is hit, else 1. */
    private static BallAndName oneRound(int chance) {
        int size = Math.min(9, chance);
        return chance == 0 ? Check.laid(FAR + "l0,3;l1,3;")
                : Check.laid("n5;d0;p2,1," + size + ",0,1;p2,1,1," + (chance - size) + ",1;l0,3;l1,3;");
    }

    /** 'is hit, if ((x times x) modulo 65521) modulo 10 is less than the CHANCE': one less, as much, one more. */
    private static void afternoonHitsBelowTheChance() {
        // the least and the greatest z by which the first round draws 0, 1, .. 9
        int[] least = {3, 0, 16, 1, 15, 4, 34, 7, 5, 17};
        int[] greatest = {9997, 9978, 9998, 9999, 9992, 9996, 9986, 9993, 9995, 9994};
        for (int drawn = 0; drawn <= 9; drawn++) {
            for (int chance = 0; chance <= 10; chance++) {
                BallAndName x = oneRound(chance);
                int out = drawn < chance ? 0 : 1;
                Check.due("drawn " + drawn + " by " + chance, x.afternoon(least[drawn], 0), out);
                Check.due("drawn " + drawn + " by " + chance, x.afternoon(greatest[drawn], 0), out);
                Check.due("one round", x.afternoon(least[drawn], 1), 1);
            }
        }
    }

    private static int draw(int z, int t) {
        BigInteger x = BigInteger.valueOf(7919).multiply(BigInteger.valueOf(z))
                .add(BigInteger.valueOf(6151).multiply(BigInteger.valueOf(t))).add(BigInteger.ONE);
        return x.multiply(x).mod(BigInteger.valueOf(65521)).intValue() % 10;
    }

    /** The same sentence, by every z there is. */
    private static void afternoonOfEveryZ() {
        BallAndName x = oneRound(5);
        BallAndName y = oneRound(5);
        for (int z = 0; z <= 9999; z++) {
            if (z % 500 == 0) {
                x = oneRound(1 + z / 500 % 9);
                y = Check.laid(DUEL);
            }
            int chance = 1 + z / 500 % 9;
            Check.due("z " + z, x.afternoon(z, 0), draw(z, 0) < chance ? 0 : 1);
            // of the duel each is hit by five of ten in his own round, else the other one
            int[] letters = new int[2];
            int turn = 0;
            int t = 0;
            while (letters[0] < 4 && letters[1] < 4) {
                turn = draw(z, t) < 5 ? turn : 1 - turn;
                letters[turn]++;
                t++;
            }
            Check.due("z " + z + ", rounds", y.afternoon(z, 1), t);
        }
    }

    /** 'a GAME from PLAYER 0 on (LETTERS as they stand ..)'. */
    private static void afternoonBeginsWith0() {
        BallAndName x = Check.laid(RING);
        for (int i = 0; i < 5; i++) {
            x.letters(i, 3);
        }
        Check.dueAll("of 0's call 1 is out", new long[] {x.afternoon(5, 0), x.afternoon(5, 1)}, 1, 1);
        x.letters(1, 2);
        Check.dueAll("of 1's call 2 is out", new long[] {x.afternoon(5, 0), x.afternoon(5, 1)}, 2, 2);
        x.letters(2, 0);
        x.letters(3, 0);
        x.letters(4, 0);
        Check.dueAll("of 4's call 0 is out", new long[] {x.afternoon(5, 0), x.afternoon(5, 1)}, 0, 5);
    }

    private static void afternoonIs(String text, int z, int out, int rounds) {
        BallAndName x = Check.laid(text);
        Check.dueAll("afternoon(" + z + ") of " + text, new long[] {x.afternoon(z, 0), x.afternoon(z, 1)}, out, rounds);
    }

    /** 'in ROUND t (0 first) .. x being 7919 z, 6151 t and 1 together': 4 to 16 rounds; as a second program told them. */
    private static void afternoonsOfManyRounds() {
        afternoonIs("n12;p6,3,1,2,1;p10,1,6,3,0;", 1, 1, 4);
        afternoonIs("n12;p6,3,1,2,1;p10,1,6,3,0;", 9999, 1, 5);
        afternoonIs("n12;p6,3,1,2,1;p10,1,6,3,0;", 9998, 1, 6);
        afternoonIs("n12;p6,3,1,2,1;p10,1,6,3,0;", 0, 1, 7);
        afternoonIs("n5;d2;p2,2,4,3,3;p3,2,2,2,3;p0,2,1,1,2;", 9998, 0, 8);
        afternoonIs("n8;d2;p5,1,2,0,3;p0,2,4,1,0;p3,2,6,0,0;p1,3,2,1,2;p0,1,2,4,0;", 0, 2, 10);
        afternoonIs("n8;d2;p5,1,2,0,3;p0,2,4,1,0;p3,2,6,0,0;p1,3,2,1,2;p0,1,2,4,0;", 9998, 2, 11);
        afternoonIs("n12;d0;p5,3,2,1,0;p4,2,1,1,0;p12,2,1,3,0;p9,1,2,4,0;p11,1,2,3,3;", 9999, 1, 13);
        afternoonIs("n12;d0;p5,3,2,1,0;p4,2,1,1,0;p12,2,1,3,0;p9,1,2,4,0;p11,1,2,3,3;", 9998, 0, 14);
        afternoonIs("n12;d2;p5,2,2,1,0;p5,3,4,4,0;p5,3,5,0,3;p2,3,4,3,1;p2,1,1,0,1;", 9999, 3, 15);
        afternoonIs("n12;d2;p5,2,2,1,0;p5,3,4,4,0;p5,3,5,0,3;p2,3,4,3,1;p2,1,1,0,1;", 0, 3, 16);
        afternoonIs("n8;d0;p8,3,1,1,3;p6,3,4,0,3;p2,2,4,1,0;p2,3,1,1,3;p7,1,2,1,0;", 9999, 4, 16);
        afternoonIs("n5;p3,3,1,1,3;p2,2,1,1,0;p3,3,1,1,3;p1,2,2,3,3;p0,2,1,1,3;", 9117, 1, 16);
    }

    /** What is asked of SAFE, RUN, FIRST, ROUNDS and of an AFTERNOON leaves calls, kinds and letters as they stand. */
    private static void gamesChangeNothing() {
        String text = "n12;d2;p5,2,2,1,0;p5,3,4,4,1;p2,3,4,3,2;l1,2;";
        BallAndName x = Check.laid(text);
        for (int i = 0; i < 3; i++) {
            x.safe(i, 0);
            x.run(i, i, 0);
            x.first(i, 0, 0);
            x.rounds(i, 1);
            x.afternoon(i, 0);
            x.kinds(i);
        }
        Check.dueAll("as if it were not asked", Look.through(x), Look.through(Check.laid(text)));
    }
}
