/** Promises 1 to 5 and 25: a new object, write, wipe, fault, lay, count. */
public final class TextTest {
    public static void main(String[] args) {
        newObject();
        write();
        wipe();
        faultOfForm();
        faultOfItems();
        lay();
        layAnew();
        layNot();
        count();
        Check.end();
    }

    private static void newObject() {
        BallAndName x = new BallAndName();
        long[][] players = {{10, 2, 5, 5, 0, 0}, {14, 2, 5, 3, 0, 0}, {20, 3, 4, 6, 0, 0}};
        long[][] calls = {{1, 14, 1, 1}, {2, 20, 1, 1}, {0, 10, 1, 1}};
        for (int i = 0; i < 3; i++) {
            for (int what = 0; what < 6; what++) {
                Check.due("new: player(" + i + ", " + what + ")", x.player(i, what), players[i][what]);
            }
            for (int what = 0; what < 4; what++) {
                Check.due("new: called(" + i + ", " + what + ")", x.called(i, what), calls[i][what]);
            }
        }
        Check.dueAll("new: count", counts(x), 3, 30, 1, 0, 0, 0, 0);
        Check.due("new: fault", x.fault(), BallAndName.NONE);
        Check.due("new: wipe", x.wipe(), 0);
        Check.due("new: undo", x.undo(), BallAndName.NO);
        Check.due("new: back", x.back(), BallAndName.NO);
        Check.due("new: lay the empty text", x.lay(), BallAndName.NO);
    }

    private static long[] counts(BallAndName x) {
        long[] counts = new long[7];
        for (int what = 0; what < 7; what++) {
            counts[what] = x.count(what);
        }
        return counts;
    }

    private static void write() {
        BallAndName x = new BallAndName();
        Check.due("write(0)", x.write(0, 'n'), BallAndName.BAD);
        Check.due("write(9)", x.write(9, 'n'), BallAndName.BAD);
        Check.due("write(-1)", x.write(-1, 'n'), BallAndName.BAD);
        Check.due("write(int least)", x.write(Integer.MIN_VALUE, 'n'), BallAndName.BAD);
        Check.due("write(int most)", x.write(Integer.MAX_VALUE, 'n'), BallAndName.BAD);
        Check.due("nothing written", x.count(6), 0);
        // of v the lowest bytes alone: "n7;" behind others
        Check.due("write(3)", x.write(3, 0xFFFFFFFFFF6E373BL), 3);
        Check.due("fault", x.fault(), BallAndName.NONE);
        // the eighth byte makes v less than 0
        Check.due("write(8)", x.write(8, 0xEE00000000000000L), 11);
        Check.due("fault", x.fault(), 3);
        for (int length = 19; length <= 299; length += 8) {
            Check.due("write up to " + length, x.write(8, 0), length);
        }
        Check.due("too long", x.write(2, 0), BallAndName.FULL);
        Check.due("BAD ahead of FULL", x.write(9, 0), BallAndName.BAD);
        Check.due("unchanged", x.count(6), 299);
        Check.due("the last byte", x.write(1, 0), 300);
        Check.due("full", x.write(1, 0), BallAndName.FULL);
        Check.due("full", x.count(6), 300);
        Check.due("wipe", x.wipe(), 300);
        Check.due("write again", x.write(8, 0), 8);
    }

    private static void wipe() {
        BallAndName x = Check.written("p1,1,1,1,1;p2,2,2,2,2;");
        Check.due("wipe", x.wipe(), 22);
        Check.due("wiped", x.count(6), 0);
        Check.due("wipe twice", x.wipe(), 0);
        Check.due("fault", x.fault(), BallAndName.NONE);
        // what was laid stays
        Check.due("players", x.count(0), 3);
    }

    private static void faultIs(String text, int want) {
        BallAndName x = Check.written(text);
        Check.due("fault of " + text, x.fault(), want);
        if (want != BallAndName.NONE) {
            Check.due("lay of " + text, x.lay(), BallAndName.NO);
        }
        Check.due("length of " + text, x.count(6), text.length());
    }

    private static void faultOfForm() {
        int none = BallAndName.NONE;
        faultIs("", none);
        faultIs("n5;", none);
        faultIs("n05;d00;", none);
        faultIs("n5", 0);
        faultIs("n5,", 0);
        faultIs("n5,;", 0);
        faultIs("n", 0);
        faultIs("n;", 0);
        faultIs(";", 0);
        faultIs("5;", 0);
        faultIs("n,5;", 0);
        faultIs("n005;", 0);
        faultIs("n-5;", 0);
        faultIs("n+5;", 0);
        faultIs("n 5;", 0);
        faultIs(" n5;", 0);
        faultIs("N5;", 0);
        faultIs("b5;", 0);
        faultIs("\u00ee5;", 0);
        faultIs("n5;;", 3);
        faultIs("n5; ", 3);
        faultIs("n5;d1;x", 6);
        faultIs("n5;d1;n6", 6);
        faultIs("n5:d1;", 0);
        faultIs("n5;d\u00b1;", 3);
        faultIs("d1;p1,1,1,1,1,1;", 3);
        faultIs("d1;p1,1,1,1;", 3);
        faultIs("d1;p1,1,1,1,1,", 3);
        faultIs("d1;p1,1,1,1,1", 3);
        faultIs("d1,1;", 0);
        faultIs("n5,5;", 0);
    }

    private static void faultOfItems() {
        int none = BallAndName.NONE;
        faultIs("n5;n40;", none);
        faultIs("n4;", 0);
        faultIs("n41;", 0);
        faultIs("d0;d3;", none);
        faultIs("d4;", 0);
        faultIs("p0,1,1,0,0;p40,5,9,9,3;", none);
        faultIs("p41,1,1,0,0;", 0);
        faultIs("p0,0,1,0,0;", 0);
        faultIs("p0,6,1,0,0;", 0);
        faultIs("p0,1,0,0,0;", 0);
        faultIs("p0,1,10,0,0;", 0);
        faultIs("p0,1,1,10,0;", 0);
        faultIs("p0,1,1,0,4;", 0);
        String five = "p0,1,1,0,0;p1,1,1,0,0;p2,1,1,0,0;p3,1,1,0,0;p4,1,1,0,0;";
        faultIs(five, none);
        faultIs(five + "p5,1,1,0,0;", 55);
        faultIs(five + "a4,0,40,9;l4,3;n5;d0;", none);
        faultIs(five + "a5,0,40,9;", 55);
        faultIs(five + "a0,5,40,9;", 55);
        String two = "p0,1,1,0,0;p1,1,1,0,0;";
        faultIs(two + "a0,1,0,1;a0,1,40,9;a1,0,00,01;", none);
        faultIs(two + "a0,0,0,1;", 22);
        faultIs(two + "a1,1,0,1;", 22);
        faultIs(two + "a2,1,0,1;", 22);
        faultIs(two + "a1,2,0,1;", 22);
        faultIs(two + "a0,1,41,1;", 22);
        faultIs(two + "a0,1,40,0;", 22);
        faultIs(two + "a0,1,40,10;", 22);
        faultIs(two + "a0,1,40;", 22);
        faultIs(two + "a0,1,40,1,1;", 22);
        faultIs(two + "l0,0;l1,3;l0,3;", none);
        faultIs(two + "l0,4;", 22);
        faultIs(two + "l2,0;", 22);
        faultIs(two + "l0;", 22);
        faultIs(two + "l0,1,1;", 22);
        // told ahead, not behind
        faultIs("p0,1,1,0,0;l1,1;p1,1,1,0,0;", 11);
        faultIs("p0,1,1,0,0;a0,1,1,1;p1,1,1,0,0;", 11);
        faultIs("p0,1,1,0,0;a1,0,1,1;p1,1,1,0,0;", 11);
        faultIs("l0,1;p0,1,1,0,0;", 0);
        // off the ground is no fault
        faultIs("n5;p6,1,1,0,0;p7,1,1,0,0;a0,1,40,1;", none);
    }

    private static void lay() {
        BallAndName x = Check.written("d3;d2;n40;n25;p3,2,6,4,1;p9,3,5,6,2;l1,2;l1,1;p12,1,8,2,3;"
                + "a0,1,5,5;a0,2,7,9;");
        Check.due("lay", x.lay(), 3);
        Check.dueAll("laid: count", counts(x), 3, 25, 2, 0, 0, 0, x.count(6));
        long[][] players = {{3, 2, 6, 4, 1, 0}, {9, 3, 5, 6, 2, 1}, {12, 1, 8, 2, 3, 0}};
        long[][] calls = {{2, 7, 9, 9}, {2, 12, 1, 1}, {0, 3, 1, 1}};
        for (int i = 0; i < 3; i++) {
            for (int what = 0; what < 6; what++) {
                Check.due("laid: player(" + i + ", " + what + ")", x.player(i, what), players[i][what]);
            }
            for (int what = 0; what < 4; what++) {
                Check.due("laid: called(" + i + ", " + what + ")", x.called(i, what), calls[i][what]);
            }
        }
        Check.due("the text stays", x.lay(), 3);
    }

    private static void layAnew() {
        BallAndName x = Check.laid("n9;d3;p3,2,6,4,1;p9,3,5,6,2;p1,1,1,1,1;l0,3;a0,2,4,4;");
        x.seen(0, 1, 4);
        x.call(1, 0, 2, 2);
        x.letters(2, 2);
        x.keep();
        Check.dueAll("before: count", counts(x), 3, 9, 3, 1, 2, 1, x.count(6));
        x.wipe();
        Check.due("an empty text", x.lay(), BallAndName.NO);
        Check.dueAll("unchanged: count", counts(x), 3, 9, 3, 1, 2, 1, 0);
        Check.due("unchanged: letters", x.player(2, 5), 2);
        // nothing is left of the game before: ground, slide, letters and calls are as without
        Check.writeText(x, "p30,1,1,1,0;p29,1,1,1,0;");
        Check.due("lay", x.lay(), 2);
        Check.dueAll("anew: count", counts(x), 2, 30, 1, 0, 0, 0, 24);
        Check.due("anew: letters", x.player(0, 5), 0);
        Check.due("anew: whom", x.called(0, 0), 1);
        Check.due("anew: where to", x.called(0, 1), 29);
        Check.due("anew: how high", x.called(0, 2), 1);
        Check.due("anew: the last one calls", x.called(1, 0), 0);
        Check.due("anew: undo", x.undo(), BallAndName.NO);
        Check.due("anew: back", x.back(), BallAndName.NO);
        Check.due("anew: forget", x.forget(), 0);
        // and of this one nothing in the next
        x.call(0, 1, 5, 5);
        Check.due("lay again", x.lay(), 2);
        Check.due("as told: where to", x.called(0, 1), 29);
    }

    private static void layNot() {
        String[] texts = {
            "p0,1,1,0,0;",
            "n30;",
            "n5;p6,1,1,0,0;p0,1,1,0,0;",
            "n5;p0,1,1,0,0;p6,1,1,0,0;",
            "p31,1,1,0,0;p0,1,1,0,0;",
            "n5;p0,1,1,0,0;p1,1,1,0,0;a0,1,6,1;",
            "p0,1,1,0,0;p1,1,1,0,0;a1,0,31,1;",
            "p0,1,1,0,0;p40,1,1,0,0;n40;n39;",
        };
        for (String text : texts) {
            BallAndName x = Check.written(text);
            Check.due("fault of " + text, x.fault(), BallAndName.NONE);
            Check.due("lay of " + text, x.lay(), BallAndName.NO);
            Check.due("players after " + text, x.count(0), 3);
            Check.due("X after " + text, x.player(0, 0), 10);
        }
        // the ground that counts may be told last
        Check.due("n last", Check.written("n5;p0,1,1,0,0;p40,1,1,0,0;n40;").lay(), 2);
        // a call that a later item told anew does not count
        Check.due("a call told anew",
                Check.written("n5;p0,1,1,0,0;p1,1,1,0,0;a0,1,6,1;a0,1,5,1;").lay(), 2);
    }

    private static void count() {
        BallAndName x = new BallAndName();
        Check.due("count(-1)", x.count(-1), BallAndName.BAD);
        Check.due("count(7)", x.count(7), BallAndName.BAD);
        Check.due("count(int least)", x.count(Integer.MIN_VALUE), BallAndName.BAD);
        x.write(5, 0);
        x.seen(0, 0, 0);
        x.seen(0, 0, 0);
        x.letters(0, 0);
        x.letters(0, 0);
        x.letters(0, 0);
        x.keep();
        Check.dueAll("count", counts(x), 3, 30, 1, 2, 3, 1, 5);
    }
}
