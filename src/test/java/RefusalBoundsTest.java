import java.util.function.Consumer;
import java.util.function.ToLongFunction;

/**
 * 'BAD: a number is none that is told (PLAYERS: such as there are; cells of the ground). NO: not as things stand. NONE:
 * there is none. FULL. Of several the first in this order; nothing changes then.' Each number of each call at its bounds
 * and beyond; behind each refusal all that stands is compared with a twin that was not asked.
 */
public final class RefusalBoundsTest {
    private static final int BAD = BallAndName.BAD;
    private static final int NO = BallAndName.NO;
    private static final int FULL = BallAndName.FULL;
    private static final int NONE = BallAndName.NONE;

    /** A call of which one number is tried. */
    private interface Ask {
        long of(BallAndName x, int number);
    }

    private final String name;
    private final int players;
    private final int ground;
    private final String text;
    private final Consumer<BallAndName> changes;

    private RefusalBoundsTest(String name, int players, int ground, String text, Consumer<BallAndName> changes) {
        this.name = name;
        this.players = players;
        this.ground = ground;
        this.text = text;
        this.changes = changes;
    }

    public static void main(String[] args) {
        RefusalBoundsTest[] states = {
            new RefusalBoundsTest("new", 3, 30, "", x -> { }),
            new RefusalBoundsTest("three", 3, 5, "n5;p0,1,1,0,0;p5,5,9,9,3;p2,3,5,5,1;", x -> { }),
            new RefusalBoundsTest("busy", 5, 40, "n40;p1,1,1,0,0;p40,2,2,1,1;p3,3,9,2,2;p4,4,8,9,3;p5,5,5,5,0;l0,1;l3,3;",
                    RefusalBoundsTest::fill),
        };
        for (RefusalBoundsTest state : states) {
            state.textNumbers();
            state.gameNumbers();
            state.roundNumbers();
            state.bestNumbers();
            state.changesNumbers();
            state.seenNumbers();
        }
        badAheadOfFull();
        badAheadOfNone();
        noChangesNothing();
        fullChangesNothing();
        noneChangesNothing();
        Check.end();
    }

    /** THE TEXT, SEEN, UNDONE and KEPT are as full as can be, each by what can be told apart. */
    private static void fill(BallAndName x) {
        x.wipe();
        Check.writeText(x, "p1,1,1,1,1;p2,2,2,2,2;" + "d2;".repeat(91) + "d03;x");
        for (int c = 0; c < 5; c++) {
            x.call(c % 5, (c + 1) % 5, 30 - c, 1 + c);
            x.letters(c, c % 4);
            if (c == 1 || c == 3) {
                x.keep();
            }
            x.seen(c, c, x.stands(c, c));
        }
        x.seen(0, 4, 40);
        x.seen(1, 3, 0);
        x.seen(2, 2, 3);
    }

    private BallAndName make() {
        BallAndName x = new BallAndName();
        if (!text.isEmpty()) {
            Check.writeText(x, text);
            Check.due(name + ": lay", x.lay(), players);
        }
        changes.accept(x);
        return x;
    }

    private void unchanged(String what, BallAndName asked) {
        Check.dueAll(what + ": what stands", Look.through(asked), Look.through(make()));
    }

    private void numberIsFrom(int least, int most, String what, Ask ask) {
        int[] numbers = {Integer.MIN_VALUE, least - 256, least - 2, least - 1, least, most, most + 1, most + 2, most + 256,
            least + 65536, Integer.MAX_VALUE};
        for (int number : numbers) {
            boolean bad = number < least || number > most;
            BallAndName x = make();
            long answer = ask.of(x, number);
            String call = name + ": " + what + " by " + number;
            Check.due(call + " is BAD", answer == BAD ? 1 : 0, bad ? 1 : 0);
            if (answer < 0) {
                unchanged(call, x);
            }
        }
    }

    private void player(String what, Ask ask) {
        numberIsFrom(0, players - 1, what, ask);
    }

    /** Whom PLAYER i calls is the next one in all these games: i himself, or 0, is not J of his own call. */
    private int notCalledBy(int i) {
        return i >= 0 && i < players ? i : 0;
    }

    /** Promise 2. */
    private void textNumbers() {
        numberIsFrom(1, 8, "write, n", (x, n) -> x.write(n, 0x6E33303B6E33303BL));
    }

    /** Promises 6, 7 and 25. */
    private void gameNumbers() {
        player("player, i", (x, i) -> x.player(i, 0));
        numberIsFrom(0, 5, "player, what", (x, what) -> x.player(0, what));
        player("called, i", (x, i) -> x.called(i, 0));
        numberIsFrom(0, 3, "called, what", (x, what) -> x.called(0, what));
        numberIsFrom(0, 6, "count, what", BallAndName::count);
    }

    /** Promises 8 to 11. */
    private void roundNumbers() {
        player("stands, i", (x, i) -> x.stands(i, 0));
        player("stands, k", (x, k) -> x.stands(0, k));
        player("chance, i", (x, i) -> x.chance(i, notCalledBy(i)));
        player("chance, k", (x, k) -> x.chance(0, k));
        player("thrown, i", (x, i) -> x.thrown(i, 0));
        numberIsFrom(0, 1, "thrown, what", (x, what) -> x.thrown(0, what));
        player("hidden, i", (x, i) -> x.hidden(i, notCalledBy(i)));
        player("hidden, k", (x, k) -> x.hidden(0, k));
    }

    /** Promises 12 to 15 and 22. */
    private void bestNumbers() {
        player("safe, i", (x, i) -> x.safe(i, 0));
        numberIsFrom(0, 3, "safe, what", (x, what) -> x.safe(0, what));
        player("run, i", (x, i) -> x.run(i, notCalledBy(i), 0));
        player("run, k", (x, k) -> x.run(0, k, 0));
        numberIsFrom(0, 1, "run, what", (x, what) -> x.run(0, 0, what));
        player("first, i", (x, i) -> x.first(i, 0, 0));
        player("first, k", (x, k) -> x.first(0, k, 0));
        numberIsFrom(0, 1, "first, part", (x, part) -> x.first(0, 0, part));
        player("rounds, i", (x, i) -> x.rounds(i, 0));
        numberIsFrom(0, 1, "rounds, part", (x, part) -> x.rounds(0, part));
        numberIsFrom(0, 9999, "afternoon, z", (x, z) -> x.afternoon(z, 0));
        numberIsFrom(0, 1, "afternoon, what", (x, what) -> x.afternoon(0, what));
    }

    /** Promises 16 and 17. */
    private void changesNumbers() {
        player("call, i", (x, i) -> x.call(i, i == 1 ? 0 : 1, 0, 1));
        player("call, j", (x, j) -> x.call(1, j, 0, 1));
        numberIsFrom(0, ground, "call, b", (x, b) -> x.call(0, 1, b, 1));
        numberIsFrom(1, 9, "call, h", (x, h) -> x.call(0, 1, 0, h));
        for (int i = 0; i < players; i++) {
            BallAndName x = make();
            Check.due("i and j alike", x.call(i, i, 0, 1), BAD);
            unchanged("i and j alike", x);
        }
        player("letters, i", (x, i) -> x.letters(i, 0));
        numberIsFrom(0, 3, "letters, l", (x, l) -> x.letters(players - 1, l));
    }

    /** Promises 19 and 21. */
    private void seenNumbers() {
        player("seen, i", (x, i) -> x.seen(i, 0, 0));
        player("seen, k", (x, k) -> x.seen(0, k, 0));
        numberIsFrom(0, ground, "seen, x", (x, cell) -> x.seen(0, 1, cell));
        player("kinds, k", BallAndName::kinds);
    }

    private static void refused(String what, Consumer<BallAndName> ahead, ToLongFunction<BallAndName> call, int due) {
        BallAndName asked = new BallAndName();
        ahead.accept(asked);
        BallAndName twin = new BallAndName();
        ahead.accept(twin);
        Check.due(what, call.applyAsLong(asked), due);
        Check.dueAll(what + ": what stands", Look.through(asked), Look.through(twin));
    }

    private static Consumer<BallAndName> texted(String text) {
        return x -> Check.writeText(x, text);
    }

    private static void sees(BallAndName x, int times) {
        for (int s = 0; s < times; s++) {
            x.seen(0, 0, 7);
        }
    }

    /** 'Of several the first in this order': promises 2 and 19, BAD and FULL. */
    private static void badAheadOfFull() {
        Consumer<BallAndName> full = texted("?".repeat(300));
        for (int n : new int[] {-1, 0, 9}) {
            refused("write(" + n + ") of 300", full, x -> x.write(n, 0), BAD);
        }
        for (int n : new int[] {1, 8}) {
            refused("write(" + n + ") of 300", full, x -> x.write(n, 0), FULL);
        }
        Consumer<BallAndName> seen = x -> sees(x, 8);
        refused("seen, i", seen, x -> x.seen(3, 0, 0), BAD);
        refused("seen, i", seen, x -> x.seen(-1, 0, 0), BAD);
        refused("seen, k", seen, x -> x.seen(0, 3, 0), BAD);
        refused("seen, k", seen, x -> x.seen(0, -1, 0), BAD);
        refused("seen, x", seen, x -> x.seen(0, 0, 31), BAD);
        refused("seen, x", seen, x -> x.seen(0, 0, -1), BAD);
        refused("seen", seen, x -> x.seen(0, 0, 30), FULL);
        refused("seen", seen, x -> x.seen(2, 2, 0), FULL);
    }

    /** The same, promises 11 and 12, BAD and NONE. */
    private static void badAheadOfNone() {
        Consumer<BallAndName> two = x -> {
            Check.writeText(x, "n5;p0,1,1,0,0;p5,1,1,0,0;");
            x.lay();
        };
        for (int what : new int[] {-1, 4}) {
            refused("safe", two, x -> x.safe(0, what), BAD);
        }
        for (int i : new int[] {-1, 2}) {
            refused("safe", two, x -> x.safe(i, 0), BAD);
            refused("hidden", two, x -> x.hidden(i, 0), BAD);
            refused("hidden", two, x -> x.hidden(0, i), BAD);
        }
        for (int what = 0; what <= 3; what++) {
            int one = what;
            refused("safe", two, x -> x.safe(0, one), NONE);
        }
        refused("hidden, J", two, x -> x.hidden(0, 1), BAD);
        refused("hidden", two, x -> x.hidden(0, 0), NONE);
    }

    /** 'NO: not as things stand .. nothing changes then': promises 5, 18 and 24. */
    private static void noChangesNothing() {
        refused("undo", x -> { }, BallAndName::undo, NO);
        refused("back", x -> { }, BallAndName::back, NO);
        refused("lay", x -> { }, BallAndName::lay, NO);
        Consumer<BallAndName> kept = x -> {
            x.letters(0, 1);
            x.keep();
            x.undo();
        };
        refused("undo, kept", kept, BallAndName::undo, NO);
        Consumer<BallAndName> changed = x -> {
            x.letters(0, 1);
            x.letters(0, 2);
            x.seen(0, 0, 7);
        };
        refused("back, changed", changed, BallAndName::back, NO);
        for (String text : new String[] {"n5;d3;p0,1,1,1,1;", "n5;d3;p0,1,1,1,1;p1,1,1,1,1;l0,4;",
            "n5;d3;p0,1,1,1,1;p6,1,1,1,1;", "n5;d3;p0,1,1,1,1;p1,1,1,1,1;l0,3;a1,0,6,1;"}) {
            refused("lay of " + text, changed.andThen(texted(text)), BallAndName::lay, NO);
        }
    }

    /** 'FULL .. nothing changes then': promises 2, 19 and 23; no byte of what is too long is written. */
    private static void fullChangesNothing() {
        String text = "p1,1,1,1,1;p2,2,2,2,2;" + "d1;".repeat(90);
        for (int free = 0; free <= 7; free++) {
            Consumer<BallAndName> written = texted(text + "d02;d03;".substring(0, 8 - free));
            for (int n = free + 1; n <= 8; n++) {
                int bytes = n;
                refused("write(" + n + ") where " + free + " are free", written,
                        x -> x.write(bytes, 0x64313B64313B64L), FULL);
            }
        }
        refused("seen", x -> sees(x, 8), x -> x.seen(0, 0, 9), FULL);
        Consumer<BallAndName> kept = x -> {
            x.keep();
            x.letters(1, 1);
            x.keep();
            x.letters(1, 2);
        };
        refused("keep", kept, BallAndName::keep, FULL);
    }

    /** 'NONE: there is none .. nothing changes then': promises 4, 11 and 12. */
    private static void noneChangesNothing() {
        refused("fault, empty", x -> { }, BallAndName::fault, NONE);
        refused("fault", texted("n7;d2;p0,1,1,1,1;p1,1,1,1,1;"), BallAndName::fault, NONE);
        refused("hidden", x -> { }, x -> x.hidden(0, 0), NONE);
        Consumer<BallAndName> two = x -> {
            Check.writeText(x, "n9;d2;p9,1,1,0,2;p5,1,1,0,3;l1,2;");
            x.lay();
            x.letters(0, 2);
        };
        refused("safe", two, x -> x.safe(1, 0), NONE);
    }
}
