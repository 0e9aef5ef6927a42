/** Section 4 and promises 16 to 21 and 23 to 25: each sentence that names a bound, at it and one beyond. */
public final class ChangesBoundsTest {
    private static final int BAD = BallAndName.BAD;
    private static final int NO = BallAndName.NO;
    private static final int FULL = BallAndName.FULL;

    private static final String FIVE = "p1,1,1,0,0;p2,1,1,0,0;p3,1,1,0,0;p4,1,1,0,0;p5,1,1,0,0;";

    public static void main(String[] args) {
        callIsToldAnew();
        callsOfEveryPlayer();
        lettersGiven();
        lastEightCanBeUndone();
        undoneOneByOne();
        undoneThatChangedNothing();
        undoneIsTheLatest();
        undoOfNothing();
        refusedCannotBeUndone();
        seenAreEightAtMost();
        seenStaysAsChangesGo();
        forgetEmptiesSeen();
        kindsAreAllFourWithout();
        kindsByWhereHeStood();
        kindsByAllThatWasSeen();
        kindsByCallsAsTheyAre();
        kindsOfTheCalledOne();
        kindsAreNotTheToldOnes();
        keptAreTwoAtMost();
        keptAreAllCallsAndLetters();
        keptIsNeitherSeenNorText();
        keepLeavesWhatCanBeUndone();
        backUndoesNothingThen();
        backOfNothing();
        keptNoMoreThen();
        countsAnswers();
        the512thCall();
        Check.end();
    }

    private static long[] callOf(BallAndName x, int i) {
        return new long[] {x.called(i, 0), x.called(i, 1), x.called(i, 2)};
    }

    /** Promise 16 'The call of PLAYER i', 'B .. cells of the ground', 'H (1 to 9)': at the bounds, and it is told so. */
    private static void callIsToldAnew() {
        for (int n : new int[] {5, 30, 40}) {
            BallAndName x = Check.laid("n" + n + ";p0,1,1,0,0;p5,1,1,0,0;p4,1,1,0,0;");
            int[][] calls = {{1, 0, 1}, {2, n, 9}, {1, n, 1}, {2, 0, 9}, {2, 1, 2}, {1, n - 1, 8}};
            int changes = 0;
            for (int[] call : calls) {
                changes++;
                Check.due("how many can be undone", x.call(0, call[0], call[1], call[2]), changes);
                Check.dueAll("the call of 0", callOf(x, 0), call[0], call[1], call[2]);
                Check.dueAll("the call of 1 stays", callOf(x, 1), 2, 4, 1);
                Check.dueAll("the call of 2 stays", callOf(x, 2), 0, 0, 1);
            }
        }
    }

    /** Promise 16 'BAD (i and j alike, too)': every two of five. */
    private static void callsOfEveryPlayer() {
        for (int i = 0; i < 5; i++) {
            for (int j = 0; j < 5; j++) {
                BallAndName x = Check.laid(FIVE);
                Check.due("call(" + i + ", " + j + ")", x.call(i, j, 9, 9), i == j ? BAD : 1);
                Check.due("to cell", x.called(i, 1), i == j ? i + 2 - 5 * (i / 4) : 9);
                Check.due("changes", x.count(4), i == j ? 0 : 1);
            }
        }
    }

    /** Promise 17 'A PLAYER has l LETTERS (0 to 3): how many he had', 'LETTERS given (as many as he had, too)'. */
    private static void lettersGiven() {
        for (int had = 0; had <= 3; had++) {
            for (int l = -1; l <= 4; l++) {
                boolean bad = l < 0 || l > 3;
                BallAndName x = Check.laid(FIVE + "l2," + had + ";l1,1;l3,2;");
                Check.due("letters(2, " + l + ")", x.letters(2, l), bad ? BAD : had);
                Check.due("he has", x.player(2, 5), bad ? had : l);
                Check.dueAll("the others have", new long[] {x.player(0, 5), x.player(1, 5), x.player(3, 5),
                    x.player(4, 5)}, 0, 1, 2, 0);
                Check.due("can be undone", x.count(4), bad ? 0 : 1);
            }
        }
    }

    /** '(..; the last 8 can be)': by none to ten changes; calls, letters, both. */
    private static void lastEightCanBeUndone() {
        for (int way = 0; way < 3; way++) {
            for (int changes = 0; changes <= 18; changes++) {
                BallAndName x = Check.laid(FIVE);
                for (int c = 1; c <= changes; c++) {
                    change(x, way, c);
                    Check.due("can be undone", x.count(4), Math.min(8, c));
                }
                int undone = 0;
                while (undone < 20 && x.undo() != NO) {
                    undone++;
                    Check.due("can be undone still", x.count(4), Math.min(8, changes) - undone);
                }
                Check.due("undone of " + changes, undone, Math.min(8, changes));
                BallAndName twin = Check.laid(FIVE);
                for (int c = 1; c <= changes - 8; c++) {
                    change(twin, way, c);
                }
                for (int i = 0; i < 5; i++) {
                    Check.dueAll("call behind it", callOf(x, i), callOf(twin, i));
                    Check.due("letters behind it", x.player(i, 5), twin.player(i, 5));
                }
            }
        }
    }

    private static void change(BallAndName x, int way, int c) {
        boolean isCall = way == 0 || way == 2 && c % 3 != 0;
        if (isCall) {
            Check.due("call " + c, x.call(c % 5, (c + 2) % 5, c, 1 + c % 9), Math.min(8, c));
        } else {
            x.letters(c % 5, (c + c / 5) % 4);
        }
    }

    /** Promise 18 'UNDONE: how many more can be': each state on the way, from eight to none. */
    private static void undoneOneByOne() {
        BallAndName x = Check.laid(FIVE);
        for (int c = 1; c <= 9; c++) {
            x.call(0, 1, 10 + c, c);
        }
        for (int c = 8; c >= 1; c--) {
            Check.due("how many more", x.undo(), c - 1);
            Check.dueAll("undone", callOf(x, 0), 1, 10 + c, c);
        }
        Check.due("no more", x.undo(), NO);
        Check.dueAll("the first stays", callOf(x, 0), 1, 11, 1);
        // as many can be undone again
        for (int c = 1; c <= 9; c++) {
            Check.due("again", x.call(0, 1, c, 1), Math.min(8, c));
        }
        Check.due("undone again", x.undo(), 7);
        Check.due("undone again", x.called(0, 1), 8);
    }

    /** '(such by which nothing becomes another, too ..)': as many letters as he had, the call as it is. */
    private static void undoneThatChangedNothing() {
        BallAndName x = Check.laid(FIVE);
        Check.due("letters", x.letters(0, 2), 0);
        Check.due("as many", x.letters(0, 2), 2);
        Check.due("of another, as many", x.letters(4, 0), 0);
        Check.due("the call as it is", x.call(0, 1, 2, 1), 4);
        Check.due("undo", x.undo(), 3);
        Check.due("undo", x.undo(), 2);
        Check.due("undo", x.undo(), 1);
        Check.due("nothing became another", x.player(0, 5), 2);
        Check.due("undo", x.undo(), 0);
        Check.due("letters", x.player(0, 5), 0);
        // eight such push out what was changed
        x.letters(0, 3);
        for (int c = 1; c <= 8; c++) {
            x.letters(0, 3);
        }
        for (int c = 1; c <= 8; c++) {
            x.undo();
        }
        Check.due("pushed out", x.player(0, 5), 3);
        Check.due("no more", x.undo(), NO);
    }

    /** 'UNDONE is the latest of these': calls and letters by turns, of several players. */
    private static void undoneIsTheLatest() {
        BallAndName x = Check.laid(FIVE);
        x.letters(3, 1);
        x.call(4, 2, 30, 9);
        x.letters(3, 2);
        x.call(4, 1, 0, 8);
        x.undo();
        Check.dueAll("call", callOf(x, 4), 2, 30, 9);
        Check.due("letters stay", x.player(3, 5), 2);
        x.undo();
        Check.due("letters", x.player(3, 5), 1);
        Check.dueAll("call stays", callOf(x, 4), 2, 30, 9);
        x.undo();
        Check.dueAll("call as told", callOf(x, 4), 0, 1, 1);
        Check.due("letters stay", x.player(3, 5), 1);
        x.undo();
        Check.due("letters as told", x.player(3, 5), 0);
    }

    /** Promise 18 'NO': at first, behind lay, behind all are undone; nothing changes then. */
    private static void undoOfNothing() {
        Check.due("at first", new BallAndName().undo(), NO);
        BallAndName x = Check.laid(FIVE);
        Check.due("laid", x.undo(), NO);
        x.letters(0, 1);
        x.lay();
        Check.due("laid anew", x.undo(), NO);
        x.letters(0, 1);
        Check.due("one", x.undo(), 0);
        Check.due("none", x.undo(), NO);
        Check.due("none twice", x.undo(), NO);
        Check.dueAll("as laid", Look.through(x), Look.through(Check.laid(FIVE)));
    }

    /** 'BAD .. nothing changes then': what was refused is no change. */
    private static void refusedCannotBeUndone() {
        BallAndName x = Check.laid(FIVE);
        x.letters(0, 1);
        x.letters(0, 4);
        x.letters(5, 0);
        x.call(0, 0, 1, 1);
        x.call(0, 1, 31, 1);
        x.call(0, 1, 1, 10);
        Check.due("one", x.count(4), 1);
        Check.due("undo", x.undo(), 0);
        Check.due("letters", x.player(0, 5), 0);
    }

    /** 'SEEN (8 at most)', promise 19 'SEEN: how many. BAD; FULL'. */
    private static void seenAreEightAtMost() {
        BallAndName x = Check.laid(FIVE);
        for (int s = 1; s <= 8; s++) {
            Check.due("seen", x.seen(s % 5, (s + 1) % 5, 30), s);
            Check.due("count", x.count(3), s);
        }
        Check.due("a ninth", x.seen(0, 0, 0), FULL);
        Check.due("count", x.count(3), 8);
        // the ninth is not seen in place of another
        BallAndName y = new BallAndName();
        for (int s = 1; s <= 8; s++) {
            y.seen(0, 0, 7);
        }
        Check.due("full", y.seen(0, 0, 9), FULL);
        Check.due("full", y.seen(0, 2, 0), FULL);
        Check.due("as the eight tell", y.kinds(0), 9);
        Check.due("nothing of 2", y.kinds(2), 15);
        // the eighth counts
        BallAndName z = new BallAndName();
        for (int s = 1; s <= 7; s++) {
            z.seen(0, 0, 7);
        }
        Check.due("the eighth", z.seen(0, 0, 9), 8);
        Check.due("it counts", z.kinds(0), 0);
        Check.due("forgotten", z.forget(), 8);
        Check.due("the first counts", z.seen(0, 0, 9), 1);
        Check.due("late", z.kinds(0), 2);
    }

    /** SEEN stays by call, letters, undo, keep, back, write, wipe and a lay that is refused. */
    private static void seenStaysAsChangesGo() {
        BallAndName x = new BallAndName();
        x.seen(0, 0, 7);
        x.seen(2, 1, 17);
        x.letters(0, 3);
        x.keep();
        x.call(1, 0, 9, 9);
        x.undo();
        x.call(1, 0, 9, 9);
        x.back();
        x.write(1, '?');
        x.fault();
        x.lay();
        x.wipe();
        x.lay();
        Check.dueAll("seen", new long[] {x.count(3), x.kinds(0), x.kinds(1), x.kinds(2)}, 2, 9, 9, 15);
    }

    /** Promise 20 'Nothing is SEEN: how many were': of 0, 1, 8. */
    private static void forgetEmptiesSeen() {
        for (int seen : new int[] {0, 1, 7, 8}) {
            BallAndName x = new BallAndName();
            for (int s = 0; s < seen; s++) {
                x.seen(0, 0, 30);
            }
            Check.due("kinds ahead", x.kinds(0), seen == 0 ? 15 : 0);
            Check.due("forget", x.forget(), seen);
            Check.due("count", x.count(3), 0);
            Check.due("kinds", x.kinds(0), 15);
            Check.due("forget twice", x.forget(), 0);
            Check.due("seen again", x.seen(1, 1, 0), 1);
        }
    }

    /** 'KINDS of a PLAYER .. (bits; all four, if nothing was SEEN of him)': of him, not of another, not by him. */
    private static void kindsAreAllFourWithout() {
        BallAndName x = Check.laid(FIVE);
        for (int k = 0; k < 5; k++) {
            Check.due("nothing seen", x.kinds(k), 15);
        }
        // of 3, in rounds of 0 and 1
        x.seen(0, 3, 29);
        x.seen(1, 3, 29);
        for (int k = 0; k < 5; k++) {
            Check.due("seen of 3 alone", x.kinds(k), k == 3 ? 0 : 15);
        }
        Check.due("kinds(-1)", x.kinds(-1), BAD);
        Check.due("kinds(5)", x.kinds(5), BAD);
    }

    /** 'those .. by which all that was SEEN of him is so': each cell of the ground. */
    private static void kindsByWhereHeStood() {
        // of 0's call: 1 has the ball at 10, two beats; 0 is at 8, of pace 2, and slides 1
        String text = "n20;d1;p8,2,1,1,0;p10,1,1,1,0;a0,1,10,2;";
        for (int cell = -1; cell <= 21; cell++) {
            BallAndName x = Check.laid(text);
            boolean bad = cell < 0 || cell > 20;
            Check.due("seen at " + cell, x.seen(0, 0, cell), bad ? BAD : 1);
            int kinds = cell == 3 ? 9 : cell == 5 ? 2 : cell == 10 ? 4 : 0;
            Check.due("kinds at " + cell, x.kinds(0), bad ? 15 : kinds);
        }
        // at the edge all but the BOLD one stand there
        String edge = "n5;d3;p1,5,1,1,0;p5,5,1,1,0;a0,1,5,1;a1,0,1,1;";
        BallAndName x = Check.laid(edge);
        x.seen(0, 0, 0);
        Check.due("at 0", x.kinds(0), 11);
        x.seen(1, 1, 5);
        Check.due("at N", x.kinds(1), 11);
        BallAndName y = Check.laid("n20;d0;p8,2,1,1,0;p10,5,1,1,0;a0,1,8,1;");
        y.seen(0, 0, 8);
        Check.due("one beat from the ball itself: late and bold", y.kinds(0), 6);
    }

    /** 'all that was SEEN of him': of two rounds, and twice of one. */
    private static void kindsByAllThatWasSeen() {
        String text = "n20;d0;p8,2,1,1,0;p10,5,1,1,0;p12,1,1,1,0;a0,1,8,1;a2,1,10,2;";
        // in the round of 0: plain and ducking 10, late and bold 8; of 2: 4, 6, 10, 4
        int[][] dues = {{8, 6, 2}, {8, 10, 4}, {8, 4, 0}, {10, 4, 9}, {10, 6, 0}, {10, 10, 0}};
        for (int[] due : dues) {
            BallAndName x = Check.laid(text);
            x.seen(0, 0, due[0]);
            x.seen(2, 0, due[1]);
            Check.due("seen at " + due[0] + " and " + due[1], x.kinds(0), due[2]);
            BallAndName y = Check.laid(text);
            y.seen(2, 0, due[1]);
            y.seen(0, 0, due[0]);
            y.seen(2, 0, due[1]);
            Check.due("the other way round", y.kinds(0), due[2]);
        }
    }

    /** 'by calls as they are now': told anew, undone, kept and back. */
    private static void kindsByCallsAsTheyAre() {
        BallAndName x = Check.laid("n20;d0;p8,2,1,1,0;p10,5,1,1,0;p12,1,1,1,0;a0,1,8,1;");
        x.seen(0, 0, 10);
        Check.due("as told", x.kinds(0), 9);
        x.call(0, 1, 8, 2);
        Check.due("one higher", x.kinds(0), 2);
        x.keep();
        x.call(0, 1, 10, 1);
        Check.due("to the cell where he was seen", x.kinds(0), 4);
        x.undo();
        Check.due("undone", x.kinds(0), 2);
        x.call(0, 2, 8, 1);
        Check.due("another one called", x.kinds(0), 0);
        x.back();
        Check.due("back", x.kinds(0), 2);
        x.letters(0, 3);
        Check.due("letters do not matter", x.kinds(0), 2);
    }

    /** '(of ROUNDS in which he is J: he stood at B)': at B, one cell off, and J no more. */
    private static void kindsOfTheCalledOne() {
        String text = "n20;d1;p8,2,1,1,3;p10,1,1,1,0;p12,1,1,1,2;a0,2,7,9;";
        int[][] dues = {{6, 0}, {7, 15}, {8, 0}};
        for (int[] due : dues) {
            BallAndName x = Check.laid(text);
            Check.due("seen of J", x.seen(0, 2, due[0]), 1);
            Check.due("J seen at " + due[0], x.kinds(2), due[1]);
        }
        BallAndName x = Check.laid(text);
        x.seen(0, 2, 7);
        x.seen(1, 2, 12);
        Check.due("J of both", x.kinds(2), 15);
        x.call(0, 1, 7, 2);
        // two beats: plain 15, late 14, bold 10, ducking 15
        Check.due("J no more", x.kinds(2), 0);
        x.call(0, 1, 7, 5);
        Check.due("five beats: bold 7", x.kinds(2), 4);
    }

    /** KINDS are those by which it is so, whatever KIND is told; and none is told anew by it. */
    private static void kindsAreNotTheToldOnes() {
        for (int kind = 0; kind <= 3; kind++) {
            BallAndName x = Check.laid("n20;d0;p8,2,1,1," + kind + ";p10,1,1,1,0;a0,1,10,2;");
            x.seen(0, 0, 4);
            Check.due("told " + kind, x.kinds(0), 9);
            Check.due("kind stays", x.player(0, 4), kind);
            int[] stands = {4, 6, 10, 4};
            Check.due("stands as told", x.stands(0, 0), stands[kind]);
        }
    }

    /** 'KEPT .. 2 at most', promise 23 'KEPT: how many. FULL'. */
    private static void keptAreTwoAtMost() {
        BallAndName x = new BallAndName();
        Check.due("one", x.keep(), 1);
        Check.due("count", x.count(5), 1);
        x.letters(0, 1);
        Check.due("two", x.keep(), 2);
        Check.due("count", x.count(5), 2);
        x.letters(0, 2);
        Check.due("a third", x.keep(), FULL);
        Check.due("count", x.count(5), 2);
        Check.due("letters stay", x.player(0, 5), 2);
        // the third is not kept in place of another
        Check.due("back", x.back(), 1);
        Check.due("the second", x.player(0, 5), 1);
        Check.due("back", x.back(), 0);
        Check.due("the first", x.player(0, 5), 0);
    }

    /** 'KEPT are all of these as they stand': calls and letters of all five. */
    private static void keptAreAllCallsAndLetters() {
        BallAndName x = Check.laid("n40;" + FIVE);
        BallAndName twin = Check.laid("n40;" + FIVE);
        for (int i = 0; i < 5; i++) {
            for (BallAndName one : new BallAndName[] {x, twin}) {
                one.call(i, (i + 2) % 5, 40 - i, 9 - i);
                one.letters(i, (i + 1) % 4);
            }
        }
        x.keep();
        for (int i = 0; i < 5; i++) {
            x.call(i, (i + 3) % 5, i, i + 1);
            x.letters(i, (i + 2) % 4);
        }
        Check.due("back", x.back(), 0);
        for (int i = 0; i < 5; i++) {
            Check.dueAll("call of " + i, callOf(x, i), callOf(twin, i));
            Check.due("letters of " + i, x.player(i, 5), (i + 1) % 4);
        }
    }

    /** 'KEPT are .. (not SEEN, THE TEXT)': they stay as they are by back. */
    private static void keptIsNeitherSeenNorText() {
        BallAndName x = new BallAndName();
        x.seen(0, 0, 7);
        x.write(3, 0x64303BL);
        x.keep();
        x.seen(2, 1, 17);
        x.write(3, 0x64343BL);
        x.back();
        Check.dueAll("more of both", new long[] {x.count(3), x.count(6), x.fault(), x.kinds(0), x.kinds(1)}, 2, 6, 3, 9, 9);
        x.keep();
        x.forget();
        x.wipe();
        x.back();
        Check.dueAll("none of both", new long[] {x.count(3), x.count(6), x.fault(), x.kinds(0), x.kinds(1)},
                0, 0, BallAndName.NONE, 15, 15);
    }

    /** Nothing is told of keep and UNDONE: what can be UNDONE stays so, and what is KEPT is KEPT by undo. */
    private static void keepLeavesWhatCanBeUndone() {
        BallAndName x = new BallAndName();
        x.letters(0, 1);
        x.letters(0, 2);
        x.keep();
        Check.due("can be undone", x.count(4), 2);
        Check.due("undo", x.undo(), 1);
        Check.due("undone", x.player(0, 5), 1);
        Check.due("kept", x.count(5), 1);
        Check.due("refused", x.keep() + x.keep(), 2 + FULL);
        Check.due("can be undone", x.count(4), 1);
        x.back();
        x.back();
        Check.due("as kept", x.player(0, 5), 2);
    }

    /** Promise 24 'nothing is UNDONE then': of eight, and of none. */
    private static void backUndoesNothingThen() {
        BallAndName x = new BallAndName();
        x.letters(0, 1);
        x.keep();
        Check.due("one can be undone", x.count(4), 1);
        Check.due("back to the same", x.back(), 0);
        Check.due("count", x.count(4), 0);
        Check.due("undo", x.undo(), NO);
        Check.due("letters", x.player(0, 5), 1);
        x.keep();
        for (int c = 1; c <= 9; c++) {
            x.letters(0, c % 4);
        }
        x.back();
        Check.due("count", x.count(4), 0);
        Check.due("undo", x.undo(), NO);
        Check.due("letters", x.player(0, 5), 1);
        Check.due("a change behind it", x.call(0, 1, 5, 5), 1);
        Check.due("undo", x.undo(), 0);
        Check.due("undone", x.called(0, 1), 14);
    }

    /** Promise 24 'NO': at first, behind lay, behind all; what can be UNDONE stays then. */
    private static void backOfNothing() {
        Check.due("at first", new BallAndName().back(), NO);
        BallAndName x = Check.laid(FIVE);
        x.keep();
        x.keep();
        x.lay();
        Check.due("behind lay", x.back(), NO);
        Check.due("kept anew", x.keep(), 1);
        x.back();
        x.letters(3, 2);
        Check.due("none", x.back(), NO);
        Check.due("can be undone", x.count(4), 1);
        Check.due("letters", x.player(3, 5), 2);
        Check.due("undo", x.undo(), 0);
    }

    /** Promise 24 'As KEPT last (it is KEPT no more then): how many are left'. */
    private static void keptNoMoreThen() {
        BallAndName x = new BallAndName();
        for (int round = 0; round < 5; round++) {
            x.letters(0, round % 4);
            Check.due("keep", x.keep(), 1);
            x.letters(0, (round + 1) % 4);
            Check.due("keep", x.keep(), 2);
            x.letters(0, (round + 2) % 4);
            Check.due("full", x.keep(), FULL);
            Check.due("left", x.back(), 1);
            Check.due("count", x.count(5), 1);
            Check.due("the last", x.player(0, 5), (round + 1) % 4);
            x.letters(0, (round + 3) % 4);
            Check.due("keep once more", x.keep(), 2);
            Check.due("left", x.back(), 1);
            Check.due("the last", x.player(0, 5), (round + 3) % 4);
            Check.due("left", x.back(), 0);
            Check.due("the first", x.player(0, 5), round % 4);
            Check.due("none", x.back(), NO);
        }
    }

    /** Promise 25 '0 PLAYERS, 1 N, 2 D, 3 SEEN, 4 that can be UNDONE, 5 KEPT, 6 bytes of THE TEXT. BAD'. */
    private static void countsAnswers() {
        BallAndName least = Check.laid("n5;d0;p0,1,1,0,0;p1,1,1,0,0;");
        least.wipe();
        BallAndName most = Check.laid("n40;d3;" + FIVE);
        most.wipe();
        Check.writeText(most, "?".repeat(300));
        for (int c = 0; c < 9; c++) {
            most.letters(0, 0);
            most.seen(0, 0, 0);
            most.keep();
        }
        int[] leasts = {2, 5, 0, 0, 0, 0, 0};
        int[] mosts = {5, 40, 3, 8, 8, 2, 300};
        for (int what = -1; what <= 7; what++) {
            boolean bad = what < 0 || what > 6;
            Check.due("count(" + what + ")", least.count(what), bad ? BAD : leasts[what]);
            Check.due("count(" + what + ")", most.count(what), bad ? BAD : mosts[what]);
        }
        Check.due("count(int least)", most.count(Integer.MIN_VALUE), BAD);
        Check.due("count(int most)", most.count(Integer.MAX_VALUE), BAD);
    }

    /** 'An object is used for at most 512 calls after it has been made': the 512th is answered as all ahead of it. */
    private static void the512thCall() {
        BallAndName x = new BallAndName();
        for (int call = 1; call <= 511; call++) {
            switch (call % 5) {
                case 0: x.safe(call % 3, 0); break;
                case 1: x.first(call % 3, 0, 0); break;
                case 2: x.letters(call % 3, call % 4); break;
                case 3: x.call(0, 1 + call % 2, call % 31, 1 + call % 9); break;
                default: x.keep(); break;
            }
        }
        Check.due("the 512th", x.undo(), 7);
    }
}
