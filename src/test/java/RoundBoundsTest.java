/** Section 2 of the document and promises 6 to 11: each sentence that names a bound, at it and one beyond. */
public final class RoundBoundsTest {
    private static final int BAD = BallAndName.BAD;
    private static final int NONE = BallAndName.NONE;

    private static final int PLAIN = 0;
    private static final int LATE = 1;
    private static final int BOLD = 2;
    private static final int DUCKING = 3;

    public static void main(String[] args) {
        playersAnswers();
        callsAnswers();
        beatsAreCutUp();
        beatsAreHAtLeast();
        upFromTheBallItselfElseDown();
        upFromTheBallAtTheEdges();
        pacesInEachBeat();
        pacesDown();
        lateOneRunsOneBeatLess();
        boldOneStopsAtTheBall();
        boldOneDoesNotSlide();
        slideIsOnInThatWay();
        nobodyLeavesTheGround();
        calledOneStandsAtTheBall();
        stepsAreThreeAtMost();
        stepsAreNotBeyondHim();
        chanceIs0AtLeast();
        chanceIs10AtMost();
        duckingOneIsHalfCut();
        hiddenOneIsHitByHalfCut();
        hiddenBehindWhoIsNoSmaller();
        hiddenBehindWhoIsBetweenAtNeither();
        hiddenBehindTheLowest();
        hiddenBehindAThirdOne();
        thrownAtTheGreatestChance();
        thrownAtTheLowest();
        calledOneCannotBeHit();
        Check.end();
    }

    /** Promise 6 'X (what = 0), V (1), Z (2), S (3), KIND (4), LETTERS (5). BAD'. */
    private static void playersAnswers() {
        BallAndName x = Check.laid("p11,2,3,4,1;p29,5,9,8,3;l1,2;l0,1;");
        int[][] told = {{11, 2, 3, 4, 1, 1}, {29, 5, 9, 8, 3, 2}};
        for (int i = -1; i <= 2; i++) {
            for (int what = -1; what <= 6; what++) {
                boolean bad = i < 0 || i > 1 || what < 0 || what > 5;
                Check.due("player(" + i + ", " + what + ")", x.player(i, what), bad ? BAD : told[i][what]);
            }
        }
    }

    /** Promise 7 'J (what = 0), B (1), H (2), BEATS (3). BAD'. */
    private static void callsAnswers() {
        BallAndName x = Check.laid("p11,2,3,4,1;p29,5,9,8,3;a0,1,4,6;a1,0,27,9;");
        int[][] told = {{1, 4, 6, 6}, {0, 27, 9, 9}};
        for (int i = -1; i <= 2; i++) {
            for (int what = -1; what <= 4; what++) {
                boolean bad = i < 0 || i > 1 || what < 0 || what > 3;
                Check.due("called(" + i + ", " + what + ")", x.called(i, what), bad ? BAD : told[i][what]);
            }
        }
    }

    private static int cutUp(int far, int pace) {
        int beats = 0;
        for (int cells = 0; cells < far; cells += pace) {
            beats++;
        }
        return beats;
    }

    /** 'as many BEATS as J needs to B (how far it is by his PACE, cut up)': each pace, each way. */
    private static void beatsAreCutUp() {
        for (int pace = 1; pace <= 5; pace++) {
            for (int start : new int[] {0, 20, 40}) {
                BallAndName x = Check.laid("n40;p5,1,1,1,0;p" + start + "," + pace + ",1,1,0;");
                for (int b = 0; b <= 40; b++) {
                    x.call(0, 1, b, 1);
                    int needed = cutUp(Math.abs(b - start), pace);
                    Check.due("pace " + pace + ", " + start + " to " + b, x.called(0, 3), Math.max(1, needed));
                }
            }
        }
        // told by hand: 2 cells ahead of two beats' end, at it, one beyond
        BallAndName x = Check.laid("p5,1,1,1,0;p10,4,1,1,0;");
        int[][] dues = {{10, 1}, {11, 1}, {13, 1}, {14, 1}, {15, 2}, {17, 2}, {18, 2}, {19, 3}, {6, 1}, {5, 2}};
        for (int[] due : dues) {
            x.call(0, 1, due[0], 1);
            Check.due("pace 4, 10 to " + due[0], x.called(0, 3), due[1]);
        }
    }

    /** 'H at least': H one less than he needs, as many, one more. */
    private static void beatsAreHAtLeast() {
        for (int pace = 1; pace <= 5; pace++) {
            for (int far = 0; far <= 12; far++) {
                BallAndName x = Check.laid("n40;p5,1,1,1,0;p20," + pace + ",1,1,0;");
                int needed = cutUp(far, pace);
                for (int h = 1; h <= 9; h++) {
                    x.call(0, 1, 20 - far, h);
                    Check.due("needs " + needed + ", " + h + " high", x.called(0, 3), h < needed ? needed : h);
                }
            }
        }
    }

    private static void standsAre(String what, BallAndName x, int i, int... want) {
        for (int k = 0; k < want.length; k++) {
            Check.due(what + ": stands(" + i + ", " + k + ")", x.stands(i, k), want[k]);
        }
    }

    /** J is player 0, at 10; players 1 to 3, of this kind, below, at and above it; it is thrown to 10. */
    private static BallAndName around(int kind, int height) {
        return Check.laid("n20;d0;p10,1,1,1,0;p9,1,1,1," + kind + ";p10,1,1,1," + kind + ";p11,1,1,1," + kind
                + ";a1,0,10," + height + ";");
    }

    /** 'away from B (up from B itself and above, else down) .. toward B': one below B, at B, one above. */
    private static void upFromTheBallItselfElseDown() {
        standsAre("plain", around(PLAIN, 1), 1, 10, 8, 11, 12);
        standsAre("late, one beat", around(LATE, 1), 1, 10, 9, 10, 11);
        standsAre("late, two", around(LATE, 2), 1, 10, 8, 11, 12);
        standsAre("bold", around(BOLD, 1), 1, 10, 10, 10, 10);
        standsAre("ducking", around(DUCKING, 1), 1, 10, 8, 11, 12);
    }

    /** 'up from B itself and above, else down': the ball at either edge. */
    private static void upFromTheBallAtTheEdges() {
        for (int kind : new int[] {PLAIN, LATE, DUCKING}) {
            String others = "p0,1,1,1," + kind + ";p1,1,1,1," + kind + ";p19,1,1,1," + kind + ";p20,1,1,1," + kind + ";";
            int beats = kind == LATE ? 3 : 2;
            BallAndName low = Check.laid("n20;d0;p0,5,1,1,0;" + others + "a1,0,0," + beats + ";");
            standsAre("ball at 0", low, 1, 0, 2, 3, 20, 20);
            BallAndName high = Check.laid("n20;d0;p20,5,1,1,0;" + others + "a1,0,20," + beats + ";");
            standsAre("ball at N", high, 1, 20, 0, 0, 17, 20);
        }
    }

    /** 'a PLAIN one V cells in each .., a LATE one in one BEAT less .., a DUCKING one as a PLAIN one. Then .. D on'. */
    private static void pacesInEachBeat() {
        for (int pace = 1; pace <= 5; pace++) {
            for (int d = 0; d <= 3; d++) {
                String me = "p0," + pace + ",1,1,";
                BallAndName x = Check.laid("n40;d" + d + ";p0,5,1,1,0;" + me + "0;" + me + "1;" + me + "2;" + me + "3;");
                for (int beats = 1; beats <= 9; beats++) {
                    x.call(1, 0, 0, beats);
                    int plain = Math.min(40, pace * beats + d);
                    int late = Math.min(40, pace * (beats - 1) + d);
                    standsAre("pace " + pace + ", " + beats + " beats", x, 1, 0, plain, late, 0, plain);
                }
            }
        }
    }

    /** The same sentence, down from the ball, to the edge and beyond. */
    private static void pacesDown() {
        for (int pace = 1; pace <= 5; pace++) {
            for (int d = 0; d <= 3; d++) {
                String me = "p39," + pace + ",1,1,";
                BallAndName x = Check.laid("n40;d" + d + ";p40,5,1,1,0;" + me + "0;" + me + "1;" + me + "2;" + me + "3;");
                for (int beats = 1; beats <= 9; beats++) {
                    x.call(1, 0, 40, beats);
                    int plain = Math.max(0, 39 - pace * beats - d);
                    int late = Math.max(0, 39 - pace * (beats - 1) - d);
                    standsAre("pace " + pace + ", " + beats + " beats", x, 1, 40, plain, late, 40, plain);
                }
            }
        }
    }

    /** 'a LATE one in one BEAT less (so perhaps in none; he SLIDES all the same)': one beat, two, three. */
    private static void lateOneRunsOneBeatLess() {
        for (int d = 0; d <= 3; d++) {
            BallAndName x = Check.laid("n40;d" + d + ";p20,5,1,1,0;p20,4,1,1,1;p19,4,1,1,1;");
            x.call(1, 0, 20, 1);
            standsAre("one beat: none", x, 1, 20, 20 + d, 19 - d);
            x.call(1, 0, 20, 2);
            standsAre("two beats: one", x, 1, 20, 24 + d, 15 - d);
            x.call(1, 0, 20, 3);
            standsAre("three beats: two", x, 1, 20, 28 + d, 11 - d);
        }
    }

    /** 'a BOLD one toward B (not beyond it; he stays, if he is there)': one cell short, at it, one beyond. */
    private static void boldOneStopsAtTheBall() {
        for (int pace = 1; pace <= 5; pace++) {
            for (int beats = 1; beats <= 3; beats++) {
                int run = pace * beats;
                for (int far = Math.max(0, run - 1); far <= run + 1; far++) {
                    BallAndName x = Check.laid("n40;d3;p20,5,1,1,0;p" + (20 - far) + "," + pace + ",1,1,2;p" + (20 + far)
                            + "," + pace + ",1,1,2;p20," + pace + ",1,1,2;a1,0,20," + beats + ";");
                    int left = Math.max(0, far - run);
                    standsAre("bold, " + far + " by " + run, x, 1, 20, 20 - left, 20 + left, 20);
                }
            }
        }
    }

    /** 'each of them SLIDES D cells on in that way, a BOLD one not'. */
    private static void boldOneDoesNotSlide() {
        for (int d = 0; d <= 3; d++) {
            BallAndName x = Check.laid("n40;d" + d + ";p20,5,1,1,0;p10,2,1,1,2;p30,2,1,1,2;p20,2,1,1,2;a1,0,20,2;");
            standsAre("bold, slide " + d, x, 1, 20, 14, 26, 20);
        }
    }

    /** 'Then each of them SLIDES D cells on in that way': none to three cells, up and down. */
    private static void slideIsOnInThatWay() {
        for (int d = 0; d <= 3; d++) {
            BallAndName x = Check.laid("n40;d" + d + ";p20,5,1,1,0;p15,1,1,1,0;p25,1,1,1,0;p15,1,1,1,3;p25,1,1,1,3;"
                    + "a1,0,20,1;");
            standsAre("slide " + d, x, 1, 20, 14 - d, 26 + d, 14 - d, 26 + d);
        }
    }

    /** 'Nobody leaves the ground: he stays at its edge': one cell short of it, at it, one beyond, run or slid. */
    private static void nobodyLeavesTheGround() {
        for (int n : new int[] {5, 6, 30, 39, 40}) {
            for (int d = 0; d <= 3; d++) {
                for (int beats = 1; beats <= 2; beats++) {
                    for (int from = 0; from <= 5; from++) {
                        BallAndName x = Check.laid("n" + n + ";d" + d + ";p0,5,1,1,0;p" + (n - from) + ",1,1,1,0;p"
                                + (n - from) + ",1,1,1,1;");
                        // the ball is at 0: up, if it is not n - from itself
                        x.call(1, 0, 0, beats);
                        int all = x.called(1, 3);
                        standsAre("up to N " + n, x, 1, 0, Math.min(n, n - from + all + d),
                                Math.min(n, n - from + all - 1 + d));
                        if (from < n) {
                            BallAndName y = Check.laid("n" + n + ";d" + d + ";p" + n + ",5,1,1,0;p" + from + ",1,1,1,0;p"
                                    + from + ",1,1,1,1;a1,0," + n + "," + beats + ";");
                            standsAre("down to 0", y, 1, n, Math.max(0, from - beats - d),
                                    Math.max(0, from - beats + 1 - d));
                        }
                    }
                }
            }
        }
    }

    /** 'J stands at B', promise 8 '(J: at B)': of each kind, at either edge; he who calls is one of the others. */
    private static void calledOneStandsAtTheBall() {
        for (int kind = 0; kind <= 3; kind++) {
            BallAndName x = Check.laid("n40;d3;p7,3,1,1," + kind + ";p8,1,1,1," + kind + ";");
            for (int b : new int[] {0, 1, 7, 39, 40}) {
                for (int h : new int[] {1, 9}) {
                    x.call(1, 0, b, h);
                    Check.due("J of kind " + kind + " to " + b, x.stands(1, 0), b);
                    x.call(0, 1, b, h);
                    Check.due("the other one to " + b, x.stands(0, 1), b);
                }
            }
        }
    }

    /**
     * J is player 0 at cell 20 and of this skill; it is thrown there by player 1, in one beat. Nobody slides, so who
     * is LATE stays where he is told.
     */
    private static BallAndName statues(int skill, String others) {
        return Check.laid("n40;d0;p20,1,9," + skill + ",0;" + others + "a1,0,20,1;");
    }

    private static String late(int cell, int size) {
        return "p" + cell + ",1," + size + ",1,1;";
    }

    /** 'he takes as many steps to him as he can, 3 at most, each a cell .. less how far he is then': 0 to 20 off. */
    private static void stepsAreThreeAtMost() {
        for (int off = 0; off <= 20; off++) {
            int less = off <= 3 ? 0 : off - 3;
            int chance = Math.max(0, 9 - less);
            Check.due(off + " above", statues(4, late(20 + off, 5)).chance(1, 1), chance);
            Check.due(off + " below", statues(4, late(20 - off, 5)).chance(1, 1), chance);
        }
        // told by hand: two off, three, four, five
        int[] dues = {9, 9, 8, 7};
        for (int off = 2; off <= 5; off++) {
            Check.due(off + " off", statues(4, late(20 + off, 5)).chance(1, 1), dues[off - 2]);
        }
    }

    /** 'each a cell (not beyond him)': who is fewer than three cells off is no cell off then, and behind nobody. */
    private static void stepsAreNotBeyondHim() {
        for (int off = -3; off <= 3; off++) {
            for (int third = 15; third <= 25; third++) {
                BallAndName x = statues(4, late(20 + off, 5) + late(third, 9));
                Check.due(off + " off: chance", x.chance(1, 1), 9);
                Check.due(off + " off: hidden", x.hidden(1, 1), NONE);
            }
        }
    }

    /** 'CHANCE .. 0 at least': size, skill and cells together 1, 0, one less, and as few as there can be. */
    private static void chanceIs0AtLeast() {
        // size 1 and skill 3: four
        int[][] dues = {{26, 1}, {27, 0}, {28, 0}, {29, 0}, {40, 0}, {14, 1}, {13, 0}, {12, 0}, {0, 0}};
        for (int[] due : dues) {
            Check.due("0 at least, at " + due[0], statues(3, late(due[0], 1)).chance(1, 1), due[1]);
        }
        Check.due("size 1, skill 0", statues(0, late(20, 1)).chance(1, 1), 1);
        Check.due("size 1, skill 0, 4 off", statues(0, late(24, 1)).chance(1, 1), 0);
        BallAndName x = Check.laid("n40;d0;p0,1,1,0,0;" + late(40, 1) + "a1,0,0,1;");
        Check.due("40 off", x.chance(1, 1), 0);
        // who is hidden, too: half of 0
        BallAndName hidden = statues(3, late(40, 1) + late(30, 1));
        Check.due("0, hidden", hidden.chance(1, 1), 0);
        Check.due("hidden all the same", hidden.hidden(1, 1), 2);
    }

    /** 'CHANCE .. 10 at most': 9, 10, 11, and 18; by size, by skill, by cells. */
    private static void chanceIs10AtMost() {
        int[][] dues = {{5, 4, 20, 9}, {5, 5, 20, 10}, {5, 6, 20, 10}, {6, 5, 20, 10}, {9, 9, 20, 10}, {9, 9, 30, 10},
            {9, 9, 31, 10}, {9, 9, 32, 9}, {9, 9, 8, 9}, {9, 9, 9, 10}, {9, 0, 20, 9}, {9, 1, 20, 10}, {9, 2, 20, 10}};
        for (int[] due : dues) {
            BallAndName x = statues(due[1], late(due[2], due[0]));
            Check.due("size " + due[0] + ", skill " + due[1] + ", at " + due[2], x.chance(1, 1), due[3]);
        }
    }

    /** 'the other one's SIZE (of a DUCKING one half, cut)': each size. */
    private static void duckingOneIsHalfCut() {
        int[] halves = {0, 1, 1, 2, 2, 3, 3, 4, 4};
        for (int size = 1; size <= 9; size++) {
            BallAndName x = statues(2, "p20,1," + size + ",9,3;");
            Check.due("ducking, size " + size, x.chance(1, 1), halves[size - 1] + 2);
            BallAndName none = statues(0, "p20,1," + size + ",9,3;");
            Check.due("ducking, size " + size + ", skill 0", none.chance(1, 1), halves[size - 1]);
        }
        // the one who throws may be DUCKING: his skill is whole
        BallAndName x = Check.laid("n40;d0;p20,1,9,7,3;p20,1,3,1,1;a1,0,20,1;");
        Check.due("J is ducking", x.chance(1, 1), 10);
        x = Check.laid("n40;d0;p20,1,9,6,3;p20,1,3,1,1;a1,0,20,1;");
        Check.due("J is ducking, skill 6", x.chance(1, 1), 9);
    }

    /** 'it is half of that, cut, if a third one ..': half of what is 0 at least and 10 at most. */
    private static void hiddenOneIsHitByHalfCut() {
        // player 1 at 30 is seven off then; the third one at 29 is as big
        int[][] dues = {{1, 6, 0}, {1, 7, 0}, {1, 8, 1}, {2, 8, 1}, {3, 8, 2}, {4, 8, 2}, {5, 8, 3}, {6, 8, 3}, {7, 8, 4},
            {7, 9, 4}, {8, 8, 4}, {8, 9, 5}, {9, 8, 5}, {9, 9, 5}};
        for (int[] due : dues) {
            BallAndName x = statues(due[1], late(30, due[0]) + late(29, due[0]));
            Check.due("hidden", x.hidden(1, 1), 2);
            Check.due("half, size " + due[0] + ", skill " + due[1], x.chance(1, 1), due[2]);
        }
        // of more than ten ten is halved: 9 and 9 less 2
        Check.due("half of 10", statues(9, late(25, 9) + late(24, 9)).chance(1, 1), 5);
        // of a DUCKING one half, and half of it: size 9 and skill 8 less 7 are 5
        BallAndName x = statues(8, "p29,1,9,1,3;" + late(29, 9));
        Check.due("ducking, stands", x.stands(1, 1), 30);
        Check.due("ducking, hidden", x.hidden(1, 1), 2);
        Check.due("ducking, half and half", x.chance(1, 1), 2);
    }

    private static String oneAt(int cell, int size, int kind) {
        // who is DUCKING runs one cell away from 20
        return "p" + (kind == DUCKING ? cell - 1 : cell) + ",1," + size + ",1," + kind + ";";
    }

    /** 'a third one, who is no smaller by Z (his whole Z, if he is DUCKING, too)': all sizes, DUCKING or not. */
    private static void hiddenBehindWhoIsNoSmaller() {
        for (int kind : new int[] {LATE, DUCKING}) {
            for (int thirdKind : new int[] {LATE, DUCKING}) {
                for (int size = 1; size <= 9; size++) {
                    for (int third = 1; third <= 9; third++) {
                        BallAndName x = statues(9, oneAt(30, size, kind) + oneAt(26, third, thirdKind));
                        String what = "size " + size + ", kind " + kind + "; third " + third + ", kind " + thirdKind;
                        int open = Math.min(10, Math.max(0, (kind == DUCKING ? size / 2 : size) + 9 - 7));
                        boolean hidden = third >= size;
                        Check.due(what + ": hidden", x.hidden(1, 1), hidden ? 2 : NONE);
                        Check.due(what + ": chance", x.chance(1, 1), hidden ? open / 2 : open);
                    }
                }
            }
        }
    }

    /** 'stands between the cell where J is then and that of the other one (at neither)': each cell of the ground. */
    private static void hiddenBehindWhoIsBetweenAtNeither() {
        int[] others = {0, 10, 14, 15, 16, 17, 20, 23, 24, 25, 26, 30, 40};
        for (int other : others) {
            // he throws from 17, from 23, or from where the other one is
            int from = Math.max(17, Math.min(23, other));
            for (int third = 0; third <= 40; third++) {
                BallAndName x = statues(9, late(other, 5) + late(third, 5));
                boolean between = from < third && third < other || other < third && third < from;
                Check.due("at " + other + ", third at " + third, x.hidden(1, 1), between ? 2 : NONE);
            }
        }
        // told by hand: the other one at 25, he throws from 23
        int[][] dues = {{22, NONE}, {23, NONE}, {24, 2}, {25, NONE}, {26, NONE}};
        for (int[] due : dues) {
            Check.due("25, third at " + due[0], statues(9, late(25, 5) + late(due[0], 5)).hidden(1, 1), due[1]);
        }
        // at 24 nobody can be between
        for (int third = 22; third <= 25; third++) {
            Check.due("24, third at " + third, statues(9, late(24, 5) + late(third, 5)).hidden(1, 1), NONE);
        }
    }

    /** Promise 11 'The one behind whom PLAYER k is hidden ..: of several the lowest. NONE'. */
    private static void hiddenBehindTheLowest() {
        int[][] thirds = {{24, 29}, {29, 24}, {26, 26}};
        for (int[] third : thirds) {
            BallAndName x = statues(9, late(30, 5) + late(third[0], 5) + late(third[1], 9));
            Check.due("the lowest", x.hidden(1, 1), 2);
            // the half of it is taken once
            Check.due("half once", x.chance(1, 1), 3);
        }
        // the lowest is smaller; the lowest is not between
        Check.due("the lowest is smaller", statues(9, late(30, 5) + late(24, 4) + late(29, 5)).hidden(1, 1), 3);
        Check.due("the lowest is beyond", statues(9, late(30, 5) + late(31, 5) + late(29, 5)).hidden(1, 1), 3);
        // behind player 1 and behind player 3 is player 2
        BallAndName x = statues(9, late(26, 5) + late(30, 5) + late(24, 5) + late(27, 5));
        Check.dueAll("four", new long[] {x.hidden(1, 1), x.hidden(1, 2), x.hidden(1, 3), x.hidden(1, 4)}, 3, 1, NONE, 1);
        // nobody else is there
        Check.due("alone", statues(9, late(30, 5)).hidden(1, 1), NONE);
    }

    /** 'a third one': not J, though he is as big and stood at B, between; he who calls can be it. */
    private static void hiddenBehindAThirdOne() {
        BallAndName x = statues(9, late(0, 5) + late(40, 5));
        Check.due("below", x.hidden(1, 1), NONE);
        Check.due("above", x.hidden(1, 2), NONE);
        BallAndName caller = statues(9, late(30, 5) + late(40, 5));
        Check.due("behind the one who calls", caller.hidden(1, 2), 1);
        Check.due("he himself", caller.hidden(1, 1), NONE);
    }

    /** 'He throws at the one of whom the CHANCE is greatest': one less, alike, one more, in each place. */
    private static void thrownAtTheGreatestChance() {
        for (int best = 1; best <= 4; best++) {
            StringBuilder others = new StringBuilder();
            for (int k = 1; k <= 4; k++) {
                others.append(late(22, k == best ? 6 : 5));
            }
            BallAndName x = statues(2, others.toString());
            Check.due("the greatest", x.thrown(1, 0), best);
            Check.due("his chance", x.thrown(1, 1), 8);
            Check.due("BAD below", x.thrown(1, -1), BAD);
            Check.due("BAD above", x.thrown(1, 2), BAD);
        }
        // the chance counts, not the size: 9 at 29 is by 6 less
        BallAndName x = statues(1, late(29, 9) + late(23, 5));
        Check.due("the nearer one", x.thrown(1, 0), 2);
        // and half of it, if he is hidden: 10 and 5
        BallAndName hidden = statues(9, late(26, 8) + late(25, 9) + late(14, 1));
        Check.dueAll("chances", new long[] {hidden.chance(1, 1), hidden.chance(1, 2), hidden.chance(1, 3)}, 5, 10, 7);
        Check.due("who is not hidden", hidden.thrown(1, 0), 2);
        // 10 at most: more does not count
        Check.due("ten and more", statues(9, late(20, 1) + late(20, 9)).thrown(1, 0), 1);
    }

    /** 'the lowest': several alike, all by 0, and J the lowest of all. */
    private static void thrownAtTheLowest() {
        BallAndName alike = statues(2, late(22, 5) + late(21, 5) + late(20, 5) + late(19, 5));
        Check.due("alike", alike.thrown(1, 0), 1);
        Check.due("alike from 2 on", statues(2, late(22, 4) + late(21, 5) + late(20, 5) + late(19, 5)).thrown(1, 0), 2);
        BallAndName none = statues(0, late(40, 1) + late(0, 1) + late(39, 1));
        Check.due("all by 0", none.thrown(1, 0), 1);
        Check.due("all by 0: chance", none.thrown(1, 1), 0);
        // each of the others is called: at 0, but at 1 if 0 is called
        BallAndName x = Check.laid("n40;d0;p20,1,5,1,1;p20,1,5,1,1;p20,1,5,1,1;a0,2,20,1;a1,0,20,1;a2,1,20,1;");
        Check.dueAll("whom", new long[] {x.thrown(0, 0), x.thrown(1, 0), x.thrown(2, 0)}, 0, 1, 0);
    }

    /** Promises 9 and 11 'BAD (k is J, too)': each of five is J; of the others none is BAD. */
    private static void calledOneCannotBeHit() {
        for (int j = 0; j < 5; j++) {
            int i = j == 0 ? 4 : 0;
            BallAndName x = Check.laid("p1,1,1,0,0;p2,1,1,0,0;p3,1,1,0,0;p4,1,1,0,0;p5,1,1,0,0;a" + i + "," + j + ",9,1;");
            for (int k = -1; k <= 5; k++) {
                boolean bad = k < 0 || k > 4 || k == j;
                Check.due("chance of " + k + ", J " + j, x.chance(i, k) == BAD ? 1 : 0, bad ? 1 : 0);
                Check.due("hidden, " + k + ", J " + j, x.hidden(i, k) == BAD ? 1 : 0, bad ? 1 : 0);
                Check.due("stands of " + k, x.stands(i, k) == BAD ? 1 : 0, k < 0 || k > 4 ? 1 : 0);
            }
        }
    }
}
