/** Promises 16 to 21, 23 and 24: call, letters, undo, seen, forget, kinds, keep, back. */
public final class ChangesTest {
    private static final int BAD = BallAndName.BAD;

    public static void main(String[] args) {
        badCalls();
        callsAndLetters();
        undo();
        undoOfManyKinds();
        seen();
        kinds();
        kindsByCallsAsTheyAre();
        keepAndBack();
        keptByUndo();
        Check.end();
    }

    private static void badCalls() {
        BallAndName x = new BallAndName();
        int[][] bad = {{-1, 0, 5, 1}, {3, 0, 5, 1}, {0, -1, 5, 1}, {0, 3, 5, 1}, {0, 0, 5, 1}, {2, 2, 5, 1},
            {0, 1, -1, 1}, {0, 1, 31, 1}, {0, 1, 5, 0}, {0, 1, 5, 10}, {0, 1, 5, -1},
            {Integer.MAX_VALUE, Integer.MIN_VALUE, 0, 1}, {0, 1, Integer.MAX_VALUE, Integer.MIN_VALUE}};
        for (int[] b : bad) {
            Check.due("call", x.call(b[0], b[1], b[2], b[3]), BAD);
        }
        int[][] badLetters = {{-1, 0}, {3, 0}, {0, -1}, {0, 4}, {Integer.MIN_VALUE, 0}, {0, Integer.MAX_VALUE}};
        for (int[] b : badLetters) {
            Check.due("letters", x.letters(b[0], b[1]), BAD);
        }
        int[][] badSeen = {{-1, 0, 0}, {3, 0, 0}, {0, -1, 0}, {0, 3, 0}, {0, 0, -1}, {0, 0, 31},
            {0, 0, Integer.MAX_VALUE}};
        for (int[] b : badSeen) {
            Check.due("seen", x.seen(b[0], b[1], b[2]), BAD);
        }
        for (int k : new int[] {-1, 3, Integer.MIN_VALUE, Integer.MAX_VALUE}) {
            Check.due("kinds", x.kinds(k), BAD);
        }
        Check.due("nothing to undo", x.count(4), 0);
        Check.due("nothing seen", x.count(3), 0);
        Check.due("the call stays", x.called(0, 1), 14);
        // the last cell of another ground
        BallAndName y = Check.laid("n7;p1,1,1,1,0;p2,1,1,1,0;");
        Check.due("call to N", y.call(0, 1, 7, 9), 1);
        Check.due("call beyond N", y.call(0, 1, 8, 9), BAD);
        Check.due("call of the third", y.call(0, 2, 7, 9), BAD);
        Check.due("seen at N", y.seen(0, 1, 7), 1);
        Check.due("seen beyond N", y.seen(0, 1, 8), BAD);
    }

    private static void callsAndLetters() {
        BallAndName x = new BallAndName();
        Check.due("call", x.call(0, 2, 0, 3), 1);
        Check.dueAll("told anew", new long[] {x.called(0, 0), x.called(0, 1), x.called(0, 2), x.called(0, 3)},
                2, 0, 3, 7);
        Check.due("another's stays", x.called(1, 0), 2);
        Check.due("letters", x.letters(1, 2), 0);
        Check.due("letters again", x.letters(1, 3), 2);
        Check.due("as many", x.letters(1, 3), 3);
        Check.due("none", x.letters(1, 0), 3);
        Check.due("letters of", x.player(1, 5), 0);
        Check.due("all can be undone", x.count(4), 5);
        Check.due("call as it is", x.call(0, 2, 0, 3), 6);
    }

    private static void undo() {
        BallAndName x = new BallAndName();
        Check.due("undo of nothing", x.undo(), BallAndName.NO);
        for (int b = 1; b <= 11; b++) {
            Check.due("call " + b, x.call(0, 1, b, 1), Math.min(b, 8));
        }
        for (int b = 10; b >= 3; b--) {
            Check.due("undo back to " + b, x.undo(), b - 3);
            Check.due("undone to", x.called(0, 1), b);
        }
        Check.due("no more", x.undo(), BallAndName.NO);
        Check.due("unchanged", x.called(0, 1), 3);
        Check.due("a call behind it", x.call(0, 1, 20, 1), 1);
        Check.due("undo", x.undo(), 0);
        Check.due("undone", x.called(0, 1), 3);
    }

    private static void undoOfManyKinds() {
        BallAndName x = new BallAndName();
        x.letters(0, 2);
        x.call(0, 2, 9, 9);
        x.letters(2, 0);
        x.call(0, 2, 9, 9);
        x.letters(0, 1);
        x.seen(0, 0, 1);
        Check.due("undo letters", x.undo(), 4);
        Check.due("letters", x.player(0, 5), 2);
        Check.due("call stays", x.called(0, 2), 9);
        Check.due("undo a call as it was", x.undo(), 3);
        Check.due("call", x.called(0, 2), 9);
        Check.due("undo letters as they were", x.undo(), 2);
        Check.due("undo the call", x.undo(), 1);
        Check.dueAll("as told", new long[] {x.called(0, 0), x.called(0, 1), x.called(0, 2)}, 1, 14, 1);
        Check.due("letters stay", x.player(0, 5), 2);
        Check.due("undo the first", x.undo(), 0);
        Check.due("letters", x.player(0, 5), 0);
        Check.due("what is seen stays", x.count(3), 1);
        // refused ones can't be undone
        x.letters(0, 9);
        x.call(0, 0, 0, 0);
        Check.due("refused", x.undo(), BallAndName.NO);
    }

    private static void seen() {
        BallAndName x = new BallAndName();
        for (int n = 1; n <= 8; n++) {
            Check.due("seen", x.seen(0, 0, 7), n);
        }
        Check.due("full", x.seen(0, 0, 7), BallAndName.FULL);
        Check.due("BAD ahead of FULL", x.seen(0, 0, 31), BAD);
        Check.due("eight", x.count(3), 8);
        Check.due("kinds", x.kinds(0), 9);
        Check.due("forget", x.forget(), 8);
        Check.due("forget twice", x.forget(), 0);
        Check.due("kinds of none seen", x.kinds(0), 15);
        Check.due("seen anew", x.seen(0, 0, 7), 1);
    }

    private static void kinds() {
        // round of 0: J is 1 at 14, one beat; 0 stands plain 7, late 9, bold 12, ducking 7
        int[][] dues = {{7, 9}, {9, 2}, {12, 4}, {8, 0}, {0, 0}, {30, 0}};
        for (int[] due : dues) {
            BallAndName x = new BallAndName();
            x.seen(0, 0, due[0]);
            Check.due("kinds, seen at " + due[0], x.kinds(0), due[1]);
            Check.due("kinds of another one", x.kinds(1), 15);
        }
        // as J he stood at B
        BallAndName x = new BallAndName();
        x.seen(0, 1, 14);
        Check.due("as J at B", x.kinds(1), 15);
        x.seen(2, 1, 14);
        // round of 2: J is 0 at 10, one beat; 1 stands plain 17, late 15, bold 12
        Check.due("never there", x.kinds(1), 0);
        x.forget();
        x.seen(0, 1, 13);
        Check.due("as J elsewhere", x.kinds(1), 0);
        x.forget();
        x.seen(2, 1, 15);
        x.seen(0, 1, 14);
        Check.due("late", x.kinds(1), 2);
        x.seen(2, 1, 17);
        Check.due("late and plain", x.kinds(1), 0);
        // the kind that is told does not count
        BallAndName y = Check.laid("p10,2,5,5,2;p14,2,5,3,2;p20,3,4,6,2;");
        y.seen(0, 0, 7);
        Check.due("told bold, seen away", y.kinds(0), 9);
        Check.due("his kind stays", y.player(0, 4), 2);
        // at the edge all who run away stand alike
        BallAndName z = Check.laid("n5;d1;p5,1,1,1,0;p2,1,1,1,0;a0,1,2,2;");
        z.seen(0, 0, 5);
        Check.due("at the edge", z.kinds(0), 11);
    }

    private static void kindsByCallsAsTheyAre() {
        BallAndName x = new BallAndName();
        x.seen(0, 0, 7);
        x.call(0, 1, 15, 3);
        // three beats: plain 3, late 5, bold 15
        Check.due("called higher", x.kinds(0), 0);
        x.undo();
        Check.due("undone", x.kinds(0), 9);
        // who was J is J no more
        x.forget();
        x.seen(0, 1, 14);
        x.call(0, 2, 14, 1);
        // J needs two beats: 1 stands plain 19, late 17, bold 14
        Check.due("J no more", x.kinds(1), 4);
        x.keep();
        x.call(0, 2, 5, 1);
        Check.due("told anew", x.kinds(1), 0);
        x.back();
        Check.due("back", x.kinds(1), 4);
        Check.due("what is seen stays", x.count(3), 1);
    }

    private static void keepAndBack() {
        BallAndName x = new BallAndName();
        Check.due("back of nothing", x.back(), BallAndName.NO);
        Check.due("keep", x.keep(), 1);
        x.call(0, 2, 1, 2);
        x.letters(1, 1);
        Check.due("keep", x.keep(), 2);
        x.call(0, 1, 2, 3);
        x.letters(1, 2);
        x.seen(0, 0, 4);
        x.write(3, 0);
        Check.due("full", x.keep(), BallAndName.FULL);
        Check.due("can be undone", x.count(4), 4);
        Check.due("back", x.back(), 1);
        Check.dueAll("the last kept", new long[] {x.called(0, 0), x.called(0, 1), x.called(0, 2), x.player(1, 5)},
                2, 1, 2, 1);
        Check.due("nothing is undone then", x.undo(), BallAndName.NO);
        Check.due("seen stays", x.count(3), 1);
        Check.due("the text stays", x.count(6), 3);
        x.letters(1, 3);
        Check.due("keep again", x.keep(), 2);
        x.letters(1, 0);
        Check.due("back", x.back(), 1);
        Check.due("letters", x.player(1, 5), 3);
        Check.due("back to the first", x.back(), 0);
        Check.dueAll("the first kept", new long[] {x.called(0, 0), x.called(0, 1), x.called(0, 2), x.player(1, 5)},
                1, 14, 1, 0);
        Check.due("none is left", x.back(), BallAndName.NO);
    }

    private static void keptByUndo() {
        BallAndName x = new BallAndName();
        x.letters(0, 1);
        x.keep();
        Check.due("keep leaves what can be undone", x.count(4), 1);
        Check.due("undo behind keep", x.undo(), 0);
        Check.due("undone", x.player(0, 5), 0);
        Check.due("kept all the same", x.count(5), 1);
        Check.due("back", x.back(), 0);
        Check.due("as kept", x.player(0, 5), 1);
        // a refused back leaves what can be undone
        x.letters(0, 2);
        Check.due("no back", x.back(), BallAndName.NO);
        Check.due("still to be undone", x.count(4), 1);
    }
}
