/** Any arguments in any state: no call throws, and what is refused changes nothing. */
public final class WildTest {
    private static final int[] WILD = {Integer.MIN_VALUE, Integer.MIN_VALUE + 1, -65536, -5, -4, -3, -2, -1, 0, 1, 2, 3,
        4, 5, 6, 7, 8, 9, 10, 30, 31, 40, 41, 300, 9999, 10000, 65536, Integer.MAX_VALUE - 1, Integer.MAX_VALUE};
    private static long drawn = 7;

    public static void main(String[] args) {
        String[] texts = {"", "n5;p0,1,1,0,0;p5,1,1,0,0;", "n40;p0,5,9,9,3;p40,5,9,9,2;p0,1,1,0,1;p40,1,1,0,0;p20,3,5,5,3;",
            "p30,1,1,1,1;p0,5,5,5,2;l0,3;l1,3;a0,1,0,9;d0;"};
        // no object is asked more than 512 calls: a look at its state is 63 of them
        for (int run = 0; run < 600; run++) {
            BallAndName x = Check.written(texts[run % texts.length]);
            x.lay();
            for (int n = 0; n < 100; n++) {
                step(x, draw(25));
            }
            for (int n = 0; n < 3; n++) {
                stepBetweenLooks(x, draw(25));
            }
        }
        Check.end();
    }

    private static int draw(int below) {
        drawn = drawn * 6364136223846793005L + 1442695040888963407L;
        return (int) ((drawn >>> 33) % below);
    }

    private static int wild() {
        return WILD[draw(WILD.length)];
    }

    private static long step(BallAndName x, int what) {
        long answer = 0;
        try {
            answer = answer(x, what);
        } catch (RuntimeException e) {
            Check.due("call " + what + " threw " + e, 1, 0);
        }
        if (answer < -4) {
            Check.due("call " + what + " below NONE", answer, -4);
        }
        return answer;
    }

    private static void stepBetweenLooks(BallAndName x, int what) {
        long before = state(x);
        if (step(x, what) < 0) {
            Check.due("refused call " + what, state(x), before);
        }
    }

    private static long answer(BallAndName x, int what) {
        switch (what) {
            case 0: return x.write(wild(), drawn);
            case 1: return draw(8) == 0 ? x.wipe() : 0;
            case 2: return x.fault();
            case 3: return x.lay();
            case 4: return x.player(wild(), wild());
            case 5: return x.called(wild(), wild());
            case 6: return x.stands(wild(), wild());
            case 7: return x.chance(wild(), wild());
            case 8: return x.thrown(wild(), wild());
            case 9: return x.hidden(wild(), wild());
            case 10: return x.safe(wild(), wild());
            case 11: return x.run(wild(), wild(), wild());
            case 12: return x.first(wild(), wild(), wild());
            case 13: return x.rounds(wild(), wild());
            case 14: return x.call(wild(), wild(), wild(), wild());
            case 15: return x.call(draw(5), draw(5), draw(41), draw(10));
            case 16: return x.letters(wild(), wild());
            case 17: return x.undo();
            case 18: return x.seen(wild(), wild(), wild());
            case 19: return x.forget();
            case 20: return x.kinds(wild());
            case 21: return x.afternoon(wild(), wild());
            case 22: return x.keep();
            case 23: return x.back();
            default: return x.count(wild());
        }
    }

    /** All that can be asked and stands, in one number. */
    private static long state(BallAndName x) {
        long state = 17;
        for (int what = 0; what < 7; what++) {
            state = 31 * state + x.count(what);
        }
        for (int i = 0; i < 5; i++) {
            for (int what = 0; what < 6; what++) {
                state = 31 * state + x.player(i, what);
            }
            for (int what = 0; what < 4; what++) {
                state = 31 * state + x.called(i, what);
            }
            state = 31 * state + x.kinds(i);
        }
        return 31 * state + x.fault();
    }
}
