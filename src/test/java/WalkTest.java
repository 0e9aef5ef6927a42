/**
 * The document from its first line to its last, sentence by sentence, by one game that is worked out by hand: five
 * players of all kinds on cells 0 to 24. What is said of the bounds has tests of its own; here each sentence has an
 * ordinary answer that would be another one without it.
 */
public final class WalkTest {
    private static final String GAME = "n24;d2;p6,2,5,4,0;p10,3,7,6,1;p12,1,4,2,2;p15,4,6,3,3;p20,2,9,5,0;"
            + "a0,3,11,2;a2,4,12,1;a3,1,9,3;l1,2;l4,1;";
    private static final int BAD = BallAndName.BAD;
    private static final int NO = BallAndName.NO;
    private static final int FULL = BallAndName.FULL;
    private static final int NONE = BallAndName.NONE;

    public static void main(String[] args) {
        aText();
        items();
        fault();
        laid();
        beats();
        allOthersRun();
        theyThrow();
        hiddenOnes();
        safe();
        run();
        first();
        rounds();
        seen();
        afternoons();
        changes();
        kept();
        refused();
        Check.end();
    }

    private static void row(String what, long[] got, long... want) {
        Check.dueAll(what, got, want);
    }

    /** 'A TEXT is bytes (300 at most), ITEMS one behind the other, each a letter, numbers .. and ; (behind the last one, too)'. */
    private static void aText() {
        BallAndName x = Check.written(GAME);
        Check.due("bytes", x.count(6), 105);
        Check.due("no FAULT", x.fault(), NONE);
        Check.due("without the last ;", Check.written(GAME.substring(0, 104)).fault(), 100);
        // two of it are 210 bytes; of the third one 90 have room: eleven writes of eight, not the next two, its last byte
        Check.writeText(x, GAME);
        Check.writeText(x, GAME);
        Check.due("bytes", x.count(6), 299);
        Check.due("two more", x.write(2, 0x3b3b), FULL);
        Check.due("one more", x.write(1, ';'), 300);
    }

    /** 'nN ..', 'pX,V,Z,S,K ..', 'aI,J,B,H ..', 'lI,L ..', 'dD ..'. */
    private static void items() {
        BallAndName x = Check.laid(GAME);
        row("N, D", new long[] {x.count(1), x.count(2)}, 24, 2);
        long[][] players = {{6, 2, 5, 4, 0, 0}, {10, 3, 7, 6, 1, 2}, {12, 1, 4, 2, 2, 0}, {15, 4, 6, 3, 3, 0},
            {20, 2, 9, 5, 0, 1}};
        // without: 1 calls 2 to 12, and the last one 0 to 6, each 1 high
        long[][] calls = {{3, 11, 2}, {2, 12, 1}, {4, 12, 1}, {1, 9, 3}, {0, 6, 1}};
        for (int i = 0; i < 5; i++) {
            for (int what = 0; what <= 5; what++) {
                Check.due("player " + i + " " + what, x.player(i, what), players[i][what]);
            }
            for (int what = 0; what <= 2; what++) {
                Check.due("called " + i + " " + what, x.called(i, what), calls[i][what]);
            }
        }
        // of several the last one counts, the last one of each
        BallAndName y = Check.laid(GAME + "n40;n30;d3;d0;a0,4,1,1;a0,1,20,7;l4,3;l4,0;");
        row("the last ones", new long[] {y.count(1), y.count(2), y.called(0, 0), y.called(0, 1), y.called(0, 2),
            y.player(4, 5), y.player(1, 5), y.called(3, 0)}, 30, 0, 1, 20, 7, 0, 2, 1);
        // without: cells 0 to 30, 1, no letters
        BallAndName z = Check.laid("p9,1,1,1,0;p3,1,1,1,0;");
        row("without", new long[] {z.count(1), z.count(2), z.player(0, 5), z.called(0, 1), z.called(1, 0)}, 30, 1, 0, 3, 0);
    }

    /** 'FAULT: the place (from 0 on) of the first byte of the first ITEM that is not so.' */
    private static void fault() {
        Check.due("a sixth player", Check.written(GAME + "p1,1,1,1,1;d9;").fault(), 105);
        Check.due("two faults", Check.written("d2;d4;n4;").fault(), 3);
        Check.due("told behind", Check.written("p6,2,5,4,0;a0,1,3,1;p10,3,7,6,1;").fault(), 11);
        Check.due("himself", Check.written("p6,2,5,4,0;p7,2,5,4,0;a1,1,3,1;").fault(), 22);
    }

    /** 'LAID is a TEXT without FAULT, of two PLAYERS at least, all X and B of which are on the ground (NO else; at first ..)'. */
    private static void laid() {
        BallAndName x = Check.written(GAME + "n20;");
        Check.due("all on 0 to 20", x.lay(), 5);
        Check.writeText(x, "n19;");
        Check.due("20 is off", x.lay(), NO);
        Check.due("as it was", x.count(1), 20);
        Check.writeText(x, "n20;a1,0,21,1;");
        Check.due("21 is off", x.lay(), NO);
        Check.due("one player", Check.written("p6,2,5,4,0;").lay(), NO);
        Check.due("a FAULT", Check.written("p6,2,5,4,0;p6,2,5,4,0;q").lay(), NO);
        BallAndName at = new BallAndName();
        row("at first", new long[] {at.count(0), at.count(1), at.count(2), at.count(6), at.player(0, 0), at.player(1, 0),
            at.player(2, 0), at.player(2, 3), at.called(2, 0)}, 3, 30, 1, 0, 10, 14, 20, 6, 0);
    }

    /** 'It takes as many BEATS as J needs to B (how far it is by his PACE, cut up), H at least.' */
    private static void beats() {
        BallAndName x = Check.laid(GAME);
        // 4 cells by 4, 2 high; 0 by 1, 1 high; 8 by 2; 1 by 3, 3 high; 0 by 2
        row("BEATS", new long[] {x.called(0, 3), x.called(1, 3), x.called(2, 3), x.called(3, 3), x.called(4, 3)}, 2, 1, 4, 3, 1);
        x.call(2, 4, 11, 1);
        Check.due("9 by 2", x.called(2, 3), 5);
    }

    /** 'All others run that long: ..', 'Then each of them SLIDES D cells on ..', 'Nobody leaves the ground ..', 'J stands at B'. */
    private static void allOthersRun() {
        BallAndName x = Check.laid(GAME);
        long[][] due = {
            // 6 - 4 - 2; 10 - 3 - 2 (late); toward 11, not beyond; J; 20 + 4, the edge
            {0, 5, 11, 11, 24},
            // 6 - 2 - 2; 10 - 2, late in no beat; J; 15 + 4 + 2; 20 + 2 + 2
            {2, 8, 12, 21, 24},
            // 6 - 8, the edge; 10 - 9, the edge; bold and there; 15 + 16, the edge; J
            {0, 0, 12, 24, 12},
            // 6 - 6; J; 12 - 3; 15 + 12, the edge; 20 + 6, the edge
            {0, 9, 9, 24, 24},
            // J; 10 + 2, late in no beat; 12 - 1; 15 + 4 + 2; 20 + 2 + 2
            {6, 12, 11, 21, 24},
        };
        for (int i = 0; i < 5; i++) {
            for (int k = 0; k < 5; k++) {
                Check.due("stands " + i + " " + k, x.stands(i, k), due[i][k]);
            }
        }
    }

    /** 'To throw at a PLAYER he takes ..', 'His CHANCE (of ten) is ..', 'He throws at the one of whom the CHANCE is greatest, the lowest.' */
    private static void theyThrow() {
        BallAndName x = Check.laid(GAME);
        long[][] due = {
            // skill 3: half of 5 + 3 - 8; 7 + 3 - 3; 4 + 3 - 0; J; 9 + 3 - 10
            {0, 7, 7, BAD, 2},
            // skill 2: half of 5 + 2 - 7; 7 + 2 - 1; J; half of 6, and 2 - 6; 9 + 2 - 9
            {0, 8, BAD, 0, 2},
            // skill 5: 5 + 5 - 9; 7 + 5 - 9; 4 + 5 - 0; half of 6, and 5 - 9; J
            {1, 3, 9, 0, BAD},
            // skill 6: 5 + 6 - 6; J; 4 + 6 - 0; half of 6, and 6 - 12; 9 + 6 - 12
            {5, BAD, 10, 0, 3},
            // skill 4: J; 7 + 4 - 3; 4 + 4 - 2; half of 6, and 4 - 12; 9 + 4 - 15
            {BAD, 8, 6, 0, 0},
        };
        for (int i = 0; i < 5; i++) {
            for (int k = 0; k < 5; k++) {
                Check.due("chance " + i + " " + k, x.chance(i, k), due[i][k]);
            }
        }
        // of 1 and 2, alike, the lowest; who calls can be the one
        row("at whom", new long[] {x.thrown(0, 0), x.thrown(1, 0), x.thrown(2, 0), x.thrown(3, 0), x.thrown(4, 0)}, 1, 1, 2, 2, 1);
        row("by what", new long[] {x.thrown(0, 1), x.thrown(1, 1), x.thrown(2, 1), x.thrown(3, 1), x.thrown(4, 1)}, 7, 8, 9, 10, 8);
    }

    /** '.. half of that, cut, if a third one, who is no smaller by Z .., stands between ..', promise 11. */
    private static void hiddenOnes() {
        BallAndName x = Check.laid(GAME);
        long[][] due = {
            {1, NONE, NONE, BAD, NONE},
            // 0 is at 2, J at 9, 1 at 8; 3 at 21 is too small for 4
            {1, NONE, BAD, NONE, NONE},
            {NONE, NONE, NONE, NONE, BAD},
            {NONE, BAD, NONE, NONE, NONE},
            // 3, ducking, at 21: 1 at 12 is bigger by his whole size; 4: all are smaller
            {BAD, NONE, NONE, 1, NONE},
        };
        for (int i = 0; i < 5; i++) {
            for (int k = 0; k < 5; k++) {
                Check.due("hidden " + i + " " + k, x.hidden(i, k), due[i][k]);
            }
        }
        // 1 has the ball at 9 and goes to 6; 0 at 0 would be hit by 5, but for 2 of size 5 at 4: half of it, cut
        BallAndName y = Check.laid("n24;d2;p6,2,5,4,0;p10,3,7,6,1;p4,1,5,2,1;a0,1,9,1;");
        // one beat: 0 at 2, of 5 + 6 - 4 is 7; 2, late, at 2
        row("at his cell", new long[] {y.stands(0, 0), y.stands(0, 2), y.chance(0, 0), y.hidden(0, 0)}, 2, 2, 7, NONE);
        // three beats: 0 at 0, 2 at 0; 2 beats: 0 at 0, 2 at 1: 11 less 6 is 5, half of it 2
        y.call(0, 1, 9, 2);
        row("behind 2", new long[] {y.stands(0, 0), y.stands(0, 2), y.chance(0, 0), y.hidden(0, 0)}, 0, 1, 2, 2);
    }

    /** 'SAFE: the call of I (J, B, H) by which it is not thrown at him, of several that .. with the least CHANCE ..'. */
    private static void safe() {
        BallAndName x = new BallAndName();
        // as J, 1 throws at 2 and not at 0 only if 2 is hit by more: at first so by 18, 1 high, where 2 stands at 27 and
        // 0 at 5; as J, 2 throws at 1 only if 1 is hit by more than 0, so by 1 at least, too
        row("of 0", safeOf(x, 0), 1, 18, 1, 1);
        // as J, 0 throws at 2 only if 2 is hit by more than 1; as J at 0, 2 can hit neither, and so throws at the lowest
        row("of 1", safeOf(x, 1), 2, 0, 1, 0);
        row("of 2", safeOf(x, 2), 0, 0, 1, 0);
        row("of two, none", safeOf(Check.laid("p3,1,1,1,0;p9,1,1,1,0;"), 0), NONE, NONE, NONE, NONE);
    }

    private static long[] safeOf(BallAndName x, int i) {
        return new long[] {x.safe(i, 0), x.safe(i, 1), x.safe(i, 2), x.safe(i, 3)};
    }

    /** 'RUN: the KIND by which, in the ROUND of I, the CHANCE that PLAYER k is hit (0 ..) is least, of several the lowest'. */
    private static void run() {
        BallAndName x = Check.laid(GAME);
        // 1 in the round of 0: PLAIN he stands at 2 and is hit by 4, less than 2 by 7: so it is not thrown at him
        row("1 of 0", new long[] {x.run(0, 1, 0), x.run(0, 1, 1)}, 0, 0);
        // 2 in the round of 3: PLAIN he stands at 17, 5 off, and would be hit by 5, as 0 is: it is thrown at 0, the lowest
        row("2 of 3", new long[] {x.run(3, 2, 0), x.run(3, 2, 1)}, 0, 0);
        // 0 alone with J: PLAIN at 7 by 4, LATE at 9 by 6, BOLD at 12 by 8, DUCKING by 1
        BallAndName two = Check.laid("p10,2,5,5,0;p14,2,5,3,0;");
        row("0 of two", new long[] {two.run(0, 0, 0), two.run(0, 0, 1)}, 3, 1);
        Check.due("J", x.run(0, 3, 0), BAD);
    }

    /** 'A GAME begins with the ROUND of I; who gets a LETTER has the next ROUND ..', 'Who is hit gets a LETTER; if nobody is, J ..'. */
    private static void first() {
        BallAndName x = lateGame();
        // 1 is hit by 7 of ten and has three then, else 3 is OUT; in the round of 1 he is hit by 8 of ten, else 2 is OUT
        row("FIRST", new long[] {x.first(0, 0, 0), x.first(0, 1, 0), x.first(0, 2, 0), x.first(0, 3, 0), x.first(0, 4, 0)},
                0, 14, 7, 3, 0);
        row("below", new long[] {x.first(0, 0, 1), x.first(0, 1, 1), x.first(0, 2, 1), x.first(0, 3, 1), x.first(0, 4, 1)},
                1, 25, 50, 10, 1);
        // from 2 on: 2 himself by 9 of ten, else J, who is 4
        row("from 2 on", new long[] {x.first(2, 2, 0), x.first(2, 2, 1), x.first(2, 4, 0), x.first(2, 4, 1)}, 9, 10, 1, 10);
        // from 3 on: 2 for sure
        row("from 3 on", new long[] {x.first(3, 2, 0), x.first(3, 2, 1), x.first(3, 1, 0)}, 1, 1, 0);
    }

    /** All have three letters, but 1 has two. */
    private static BallAndName lateGame() {
        BallAndName x = Check.laid(GAME);
        for (int i = 0; i < 5; i++) {
            x.letters(i, i == 1 ? 2 : 3);
        }
        return x;
    }

    /** 'ROUNDS: in how many ROUNDS on the mean, in lowest terms.' */
    private static void rounds() {
        BallAndName x = lateGame();
        // one, and by 7 of ten one more
        row("from 0 on", new long[] {x.rounds(0, 0), x.rounds(0, 1)}, 17, 10);
        // one, and by 8 of ten one more
        row("from 1 on", new long[] {x.rounds(1, 0), x.rounds(1, 1)}, 9, 5);
        row("from 2 on", new long[] {x.rounds(2, 0), x.rounds(2, 1)}, 1, 1);
    }

    /** 'SEEN (8 at most) is that ..', 'KINDS of a PLAYER: those (bits ..) by which all that was SEEN of him is so, by calls as they are now ..'. */
    private static void seen() {
        BallAndName x = Check.laid(GAME);
        // 1 in the round of 0, from 10: PLAIN or DUCKING 2, LATE 5, BOLD 11
        Check.due("seen", x.seen(0, 1, 5), 1);
        Check.due("LATE", x.kinds(1), 2);
        Check.due("of 2 nothing", x.kinds(2), 15);
        // in the round of 3 he is J, at 9
        Check.due("seen", x.seen(3, 1, 9), 2);
        Check.due("LATE as well", x.kinds(1), 2);
        Check.due("seen", x.seen(3, 1, 8), 3);
        Check.due("J elsewhere", x.kinds(1), 0);
        Check.due("forget", x.forget(), 3);
        // 4 in the round of 0, from 20: PLAIN, LATE and DUCKING at the edge (24, 20 + 2 + 2, 24), BOLD 16
        Check.due("seen", x.seen(0, 4, 24), 1);
        Check.due("all but BOLD", x.kinds(4), 11);
        // by another call: one beat, PLAIN and DUCKING 24, LATE 22, BOLD 18
        x.call(0, 3, 11, 1);
        Check.due("by calls as they are now", x.kinds(4), 9);
    }

    /** 'An AFTERNOON by z (0 to 9999): a GAME from PLAYER 0 on .., in ROUND t (0 first) who is thrown at is hit, if ..'. */
    private static void afternoons() {
        BallAndName x = lateGame();
        // z 0: 1 times 1 is 1, less than 7; 6152 times 6152 is 577 times 65521 and 41487, so 7, less than 8
        row("z 0", new long[] {x.afternoon(0, 0), x.afternoon(0, 1)}, 1, 2);
        // z 5: 39596 times 39596 is 23928 times 65521 and 56728, so 8, not less than 7
        row("z 5", new long[] {x.afternoon(5, 0), x.afternoon(5, 1)}, 3, 1);
        // with no letter less for 3 it goes on: he has the next round, and hits 2 for sure
        x.letters(3, 2);
        row("z 5, 3 has two", new long[] {x.afternoon(5, 0), x.afternoon(5, 1)}, 2, 2);
    }

    /** 'A call can be told anew, LETTERS given (as many as he had, too). UNDONE is the latest of these (..; the last 8 can be).' */
    private static void changes() {
        BallAndName x = Check.laid(GAME);
        Check.due("call", x.call(0, 1, 24, 9), 1);
        Check.due("beats", x.called(0, 3), 9);
        Check.due("letters", x.letters(4, 1), 1);
        Check.due("letters", x.letters(4, 3), 1);
        Check.due("undo the letters", x.undo(), 2);
        Check.due("as many", x.player(4, 5), 1);
        Check.due("undo as many as he had", x.undo(), 1);
        Check.due("the call is not undone", x.called(0, 0), 1);
        Check.due("undo the call", x.undo(), 0);
        row("as it was", new long[] {x.called(0, 0), x.called(0, 1), x.called(0, 2)}, 3, 11, 2);
        Check.due("no more", x.undo(), NO);
        for (int b = 0; b < 9; b++) {
            Check.due("call", x.call(0, 1, b, 1), Math.min(8, b + 1));
        }
        for (int b = 7; b >= 0; b--) {
            x.undo();
            Check.due("back to " + b, x.called(0, 1), b);
        }
        Check.due("the first of nine stays", x.undo(), NO);
    }

    /** 'KEPT are all of these as they stand (not SEEN, THE TEXT): 2 at most.' */
    private static void kept() {
        BallAndName x = Check.laid(GAME);
        x.letters(2, 1);
        Check.due("keep", x.keep(), 1);
        x.letters(2, 3);
        x.call(2, 0, 3, 3);
        x.seen(0, 0, 0);
        Check.due("keep", x.keep(), 2);
        Check.due("keep", x.keep(), FULL);
        x.letters(2, 0);
        x.wipe();
        Check.due("back", x.back(), 1);
        row("as kept last", new long[] {x.player(2, 5), x.called(2, 0), x.count(3), x.count(4), x.count(6)}, 3, 0, 1, 0, 0);
        Check.due("back", x.back(), 0);
        row("as kept first", new long[] {x.player(2, 5), x.called(2, 0), x.count(3)}, 1, 4, 1);
        Check.due("back", x.back(), NO);
        x.keep();
        Check.due("laid, and nothing is kept", Check.laid(GAME).back(), NO);
    }

    /** 'BAD: a number is none that is told (..). NO: .. NONE: .. FULL. Of several the first in this order; nothing changes then.' */
    private static void refused() {
        BallAndName x = Check.laid(GAME);
        row("no such player, no such cell", new long[] {x.stands(0, 5), x.call(0, 1, 25, 1), x.seen(0, 1, 25), x.call(0, 0, 1, 1)},
                BAD, BAD, BAD, BAD);
        for (int n = 0; n < 8; n++) {
            x.seen(0, 0, 0);
        }
        row("FULL, and BAD ahead of it", new long[] {x.seen(0, 0, 1), x.seen(0, 5, 1)}, FULL, BAD);
        // PLAIN and DUCKING he stands at 0, LATE at 2, BOLD at 10
        row("nothing changed", new long[] {x.count(3), x.count(4), x.kinds(0), x.called(0, 0)}, 8, 0, 9, 3);
    }
}
