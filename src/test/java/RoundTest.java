/** Promises 6 to 13: player, called, stands, chance, thrown, hidden, safe, run. */
public final class RoundTest {
    public static void main(String[] args) {
        bad();
        beats();
        kindsRun();
        edges();
        slides();
        chances();
        hiding();
        throwing();
        safe();
        run();
        Check.end();
    }

    private static void bad() {
        BallAndName x = new BallAndName();
        int bad = BallAndName.BAD;
        int[] nobody = {-1, 3, 4, 5, Integer.MIN_VALUE, Integer.MAX_VALUE};
        for (int i : nobody) {
            Check.due("player", x.player(i, 0), bad);
            Check.due("called", x.called(i, 0), bad);
            Check.due("stands", x.stands(i, 0), bad);
            Check.due("stands of", x.stands(0, i), bad);
            Check.due("chance", x.chance(i, 0), bad);
            Check.due("chance of", x.chance(0, i), bad);
            Check.due("thrown", x.thrown(i, 0), bad);
            Check.due("hidden", x.hidden(i, 0), bad);
            Check.due("hidden of", x.hidden(0, i), bad);
            Check.due("safe", x.safe(i, 0), bad);
            Check.due("run", x.run(i, 0, 0), bad);
            Check.due("run of", x.run(0, i, 0), bad);
        }
        int[] whats = {-1, 6, Integer.MIN_VALUE, Integer.MAX_VALUE};
        for (int what : whats) {
            Check.due("player, what", x.player(0, what), bad);
            Check.due("called, what", x.called(0, what), bad);
            Check.due("thrown, what", x.thrown(0, what), bad);
            Check.due("safe, what", x.safe(0, what), bad);
            Check.due("run, what", x.run(0, 0, what), bad);
        }
        Check.due("called, what", x.called(0, 4), bad);
        Check.due("thrown, what", x.thrown(0, 2), bad);
        Check.due("safe, what", x.safe(0, 4), bad);
        Check.due("run, what", x.run(0, 0, 2), bad);
        // J is not thrown at
        Check.due("chance of J", x.chance(2, 0), bad);
        Check.due("hidden, J", x.hidden(2, 0), bad);
        Check.due("run of J", x.run(2, 0, 0), bad);
        Check.due("stands, J", x.stands(2, 0), 10);
        // BAD ahead of NONE
        BallAndName two = Check.laid("p3,1,1,0,0;p9,1,1,0,0;");
        Check.due("safe of two, what", two.safe(0, 4), bad);
        Check.due("safe of two", two.safe(0, 3), BallAndName.NONE);
    }

    private static void beats() {
        // player 1 is at 10, of pace 3
        BallAndName x = Check.laid("p20,1,1,1,0;p10,3,1,1,0;");
        int[][] ways = {{10, 1, 1}, {11, 1, 1}, {13, 1, 1}, {14, 1, 2}, {16, 1, 2}, {17, 1, 3}, {7, 1, 1},
            {6, 1, 2}, {0, 1, 4}, {0, 4, 4}, {0, 5, 5}, {10, 9, 9}, {30, 6, 7}, {30, 7, 7}, {30, 8, 8}};
        for (int[] way : ways) {
            x.call(0, 1, way[0], way[1]);
            Check.due("beats to " + way[0] + ", " + way[1] + " high", x.called(0, 3), way[2]);
            Check.due("B", x.called(0, 1), way[0]);
            Check.due("H", x.called(0, 2), way[1]);
        }
    }

    private static BallAndName five(int kind, String slide) {
        // all of pace 2 but the one who is called
        String text = "n40;p18,2,3,3," + kind + ";p20,2,3,3," + kind + ";p22,2,3,3," + kind
                + ";p11,2,3,3," + kind + ";p39,5,1,1," + kind + ";a0,4,20,3;" + slide;
        return Check.laid(text);
    }

    private static void standsAre(String what, BallAndName x, int... want) {
        for (int k = 0; k < want.length; k++) {
            Check.due(what + ": stands(0, " + k + ")", x.stands(0, k), want[k]);
        }
    }

    private static void kindsRun() {
        // J needs 4 beats (19 cells by 5); 8 cells and the slide
        BallAndName x = five(0, "");
        Check.due("beats", x.called(0, 3), 4);
        standsAre("plain", x, 9, 29, 31, 2, 20);
        standsAre("late", five(1, ""), 11, 27, 29, 4, 20);
        standsAre("bold", five(2, ""), 20, 20, 20, 19, 20);
        standsAre("ducking", five(3, ""), 9, 29, 31, 2, 20);
        // higher: five beats
        x.call(0, 4, 20, 5);
        standsAre("plain, 5 high", x, 7, 31, 33, 0, 20);
        // one beat: a late one slides alone
        BallAndName late = five(1, "");
        late.call(0, 4, 39, 1);
        standsAre("late, one beat", late, 17, 19, 21, 10, 39);
        BallAndName bold = five(2, "");
        bold.call(0, 4, 39, 1);
        standsAre("bold, one beat", bold, 20, 22, 24, 13, 39);
        bold.call(0, 4, 18, 9);
        standsAre("bold from above", bold, 18, 18, 18, 18, 18);
        bold.call(0, 4, 36, 2);
        standsAre("bold, not there", bold, 22, 24, 26, 15, 36);
    }

    private static void edges() {
        BallAndName x = Check.laid("n12;p1,5,3,3,0;p11,5,3,3,0;p0,1,3,3,1;p12,1,3,3,3;p6,1,3,3,0;a0,4,6,9;d3;");
        standsAre("edges", x, 0, 12, 0, 12, 6);
        x.call(0, 4, 0, 9);
        standsAre("ball at 0", x, 12, 12, 11, 12, 0);
        x.call(0, 4, 12, 9);
        standsAre("ball at N", x, 0, 0, 0, 12, 12);
    }

    private static void slides() {
        standsAre("plain, no slide", five(0, "d0;"), 10, 28, 30, 3, 20);
        standsAre("plain, slide 3", five(0, "d3;"), 7, 31, 33, 0, 20);
        standsAre("late, no slide", five(1, "d0;"), 12, 26, 28, 5, 20);
        standsAre("bold, slide 3", five(2, "d3;"), 20, 20, 20, 19, 20);
        BallAndName late = five(1, "d0;");
        late.call(0, 4, 39, 1);
        standsAre("late, one beat, no slide", late, 18, 20, 22, 11, 39);
    }

    /** Player 1 has the ball at 20, of skill s; player 0, of size z and kind, stands where he is told. */
    private static BallAndName duel(int cell, int z, int s, int kind) {
        return Check.laid("n40;d0;p" + cell + ",1," + z + ",1," + kind + ";p20,1,1," + s + ",0;a0,1,20,1;");
    }

    private static void chances() {
        // late, one beat, no slide: stays where he is; three steps are taken
        Check.due("6 off", duel(26, 5, 4, 1).chance(0, 0), 6);
        Check.due("6 off, below", duel(14, 5, 4, 1).chance(0, 0), 6);
        Check.due("4 off", duel(24, 5, 4, 1).chance(0, 0), 8);
        Check.due("3 off", duel(23, 5, 4, 1).chance(0, 0), 9);
        Check.due("2 off", duel(18, 5, 4, 1).chance(0, 0), 9);
        Check.due("there", duel(20, 5, 4, 1).chance(0, 0), 9);
        Check.due("10 at most", duel(20, 9, 9, 1).chance(0, 0), 10);
        Check.due("18 less 7", duel(30, 9, 9, 1).chance(0, 0), 10);
        Check.due("18 less 9", duel(32, 9, 9, 1).chance(0, 0), 9);
        Check.due("0", duel(28, 1, 4, 1).chance(0, 0), 0);
        Check.due("0 at least", duel(40, 1, 4, 1).chance(0, 0), 0);
        // ducking, one beat: one cell on
        Check.due("ducking, size 9", duel(20, 9, 3, 3).chance(0, 0), 7);
        Check.due("ducking, size 8", duel(20, 8, 3, 3).chance(0, 0), 7);
        Check.due("ducking, size 1", duel(20, 1, 3, 3).chance(0, 0), 3);
        Check.due("ducking, size 9, 5 off", duel(24, 9, 3, 3).chance(0, 0), 5);
        Check.due("ducking below", duel(15, 9, 3, 3).chance(0, 0), 4);
        // plain, one beat
        Check.due("plain, 5 off", duel(24, 9, 0, 0).chance(0, 0), 7);
        Check.due("bold, 3 off", duel(24, 9, 0, 2).chance(0, 0), 9);
    }

    /** Player 1 has the ball at 10; 0 of size z stands at 20, the third one of this size and kind at this cell. */
    private static BallAndName wall(int z, int kind, int thirdSize, int thirdKind, int thirdCell) {
        int start = kind == 1 ? 20 : 19;
        int thirdStart = thirdKind == 1 ? thirdCell : thirdCell > 10 ? thirdCell - 1 : thirdCell + 1;
        return Check.laid("n40;d0;p" + start + ",1," + z + ",1," + kind + ";p10,1,1,9,0;p" + thirdStart + ",1,"
                + thirdSize + ",1," + thirdKind + ";a0,1,10,1;");
    }

    private static void hiddenIs(String what, BallAndName x, int hidden, int chance) {
        Check.due(what + ": hidden", x.hidden(0, 0), hidden);
        Check.due(what + ": chance", x.chance(0, 0), chance);
    }

    private static void hiding() {
        int none = BallAndName.NONE;
        // he throws from 13: 9 and 5 less 7 are 7, half of it 3
        hiddenIs("as big", wall(5, 1, 5, 1, 15), 2, 3);
        hiddenIs("bigger", wall(5, 1, 6, 1, 15), 2, 3);
        hiddenIs("smaller", wall(5, 1, 4, 1, 15), none, 7);
        hiddenIs("next to him", wall(5, 1, 5, 1, 14), 2, 3);
        hiddenIs("next to the other one", wall(5, 1, 5, 1, 19), 2, 3);
        hiddenIs("at his cell", wall(5, 1, 5, 1, 13), none, 7);
        hiddenIs("at the other's cell", wall(5, 1, 5, 1, 20), none, 7);
        hiddenIs("where he had the ball", wall(5, 1, 5, 1, 12), none, 7);
        hiddenIs("beyond", wall(5, 1, 5, 1, 21), none, 7);
        // ducking: half of 5 is 2, 4 in all; the whole sizes are told
        hiddenIs("ducking, as big", wall(5, 3, 5, 1, 15), 2, 2);
        hiddenIs("ducking, smaller", wall(5, 3, 4, 1, 15), none, 4);
        hiddenIs("the third one ducking", wall(5, 1, 5, 3, 15), 2, 3);
        hiddenIs("both ducking", wall(5, 3, 5, 3, 15), 2, 2);
        hiddenIs("both ducking, smaller", wall(5, 3, 4, 3, 15), none, 4);
        // half of ten at most, not of more
        hiddenIs("half of 10", Check.laid("n40;d0;p19,1,9,1,1;p10,1,1,9,0;p15,1,9,1,1;a0,1,10,1;"), 2, 5);
        // below, and of several the lowest
        BallAndName below = Check.laid("n40;d0;p10,1,5,1,1;p25,1,1,9,0;p15,1,9,1,1;p14,1,5,1,1;p16,1,4,1,1;a0,1,25,1;");
        for (int k = 0; k < 5; k++) {
            // late ones below the ball stay, in one beat
            Check.due("below: stands " + k, below.stands(0, k), below.player(k, 0));
        }
        Check.due("below: hidden 0", below.hidden(0, 0), 2);
        Check.due("below: hidden 3", below.hidden(0, 3), 2);
        Check.due("below: hidden 2", below.hidden(0, 2), none);
        Check.due("below: hidden 4", below.hidden(0, 4), none);
        // who calls can be the one behind whom another one is hidden
        BallAndName caller = Check.laid("n40;d0;p15,1,5,1,1;p10,1,1,9,0;p20,1,5,1,1;a0,1,10,1;");
        Check.due("behind the caller", caller.hidden(0, 2), 0);
        Check.due("behind the caller: chance", caller.chance(0, 2), 3);
    }

    private static void throwing() {
        // alike: the lowest
        BallAndName x = Check.laid("n40;d0;p21,1,5,1,1;p21,1,5,1,1;p21,1,5,1,1;p20,1,1,3,0;a0,3,20,1;a3,0,21,1;");
        Check.due("alike", x.thrown(0, 0), 0);
        Check.due("alike: chance", x.thrown(0, 1), 8);
        // the one who is called is not among them
        Check.due("not at J", x.thrown(3, 0), 1);
        // greater, and higher in number
        BallAndName y = Check.laid("n40;d0;p21,1,5,1,1;p21,1,5,1,1;p21,1,6,1,1;p20,1,9,3,0;a0,3,20,1;");
        Check.due("the greatest", y.thrown(0, 0), 2);
        Check.due("the greatest: chance", y.thrown(0, 1), 9);
        // none can be hit: the lowest all the same
        BallAndName z = Check.laid("n40;d0;p0,1,1,0,1;p39,1,1,0,1;p40,1,1,0,1;a2,0,0,1;a0,1,39,1;");
        Check.due("none can be hit", z.thrown(2, 0), 1);
        Check.due("none can be hit: chance", z.thrown(2, 1), 0);
    }

    private static void safe() {
        BallAndName x = new BallAndName();
        Check.dueAll("safe(2)", safeOf(x, 2), 0, 0, 1, 0);
        // two: it is always thrown at the one who calls
        BallAndName two = Check.laid("n5;p0,1,1,0,0;p5,1,1,0,0;");
        Check.dueAll("two", safeOf(two, 1), BallAndName.NONE, BallAndName.NONE, BallAndName.NONE, BallAndName.NONE);
        // nobody can be hit anywhere, and so it is thrown at the lowest: not at 1 and 2
        BallAndName three = Check.laid("n40;d3;p20,5,1,0,0;p20,5,1,0,0;p20,5,1,0,0;");
        three.call(1, 2, 20, 9);
        Check.due("the lowest", three.thrown(1, 0), 0);
        Check.dueAll("of 2: whom", safeOf(three, 2), 0, 0, 1, 0);
        // the changes that are tried change nothing
        Check.due("the call stays", three.called(2, 1), 20);
        Check.due("none can be undone", three.count(4), 1);
        // LETTERS do not count
        three.letters(2, 3);
        Check.due("letters", three.safe(2, 1), 0);
    }

    private static long[] safeOf(BallAndName x, int i) {
        return new long[] {x.safe(i, 0), x.safe(i, 1), x.safe(i, 2), x.safe(i, 3)};
    }

    private static void run() {
        BallAndName x = new BallAndName();
        // 7, plain: 4; late: 9, so 5 and 3 less 2 are 6; bold: 12, so 8; ducking: 1
        Check.due("run(0, 0)", x.run(0, 0, 0), 3);
        Check.due("run(0, 0), chance", x.run(0, 0, 1), 1);
        Check.due("run(0, 2)", x.run(0, 2, 0), 0);
        Check.due("run(0, 2), chance", x.run(0, 2, 1), 0);
        Check.due("his kind stays", x.player(0, 4), 0);
        Check.due("the chance stays", x.chance(0, 0), 4);
        // who is hidden when bold: of all kinds the only one by which it is not thrown at him
        BallAndName y = Check.laid("n40;d0;p35,5,5,1,0;p20,1,1,9,0;p28,5,6,1,1;a0,1,20,1;");
        // plain 40: 5+9-17 = 0
        Check.due("run away", y.run(0, 0, 0), 0);
        Check.due("run away, chance", y.run(0, 0, 1), 0);
        // alone with J: it is always thrown at him
        BallAndName z = Check.laid("n5;d0;p2,1,9,1,0;p2,1,1,0,0;a0,1,2,1;");
        // plain and late and bold: 9; ducking: 4
        Check.due("run, two", z.run(0, 0, 0), 3);
        Check.due("run, two, chance", z.run(0, 0, 1), 4);
        // of several the lowest: as late as bold, both stay where they are
        BallAndName w = Check.laid("n40;d0;p9,1,1,0,2;p9,1,1,0,0;p9,1,9,9,1;a0,1,9,1;");
        Check.due("run, several", w.run(0, 0, 0), 0);
        Check.due("run, several, chance", w.run(0, 0, 1), 0);
    }
}
