import java.util.function.IntPredicate;

/** 'What it is' and promises 1 to 5: each sentence that names a bound, at it and one beyond. */
public final class TextBoundsTest {
    private static final int NO = BallAndName.NO;
    private static final int FULL = BallAndName.FULL;
    private static final int NONE = BallAndName.NONE;

    private static final String TWO = "p0,1,1,0,0;p1,1,1,0,0;";
    private static final String FIVE = TWO + "p2,1,1,0,0;p3,1,1,0,0;p4,1,1,0,0;";
    /** Each item, told so that a 0 ahead of any of its numbers changes nothing. */
    private static final String[] ITEMS = {"n5;", "d1;", "l1,1;", "a1,0,3,9;", "p4,5,9,8,3;"};

    public static void main(String[] args) {
        textHas300Bytes();
        textOf300BytesIsRead();
        itemBeginsWithItsLetter();
        numbersHaveOneOrTwoFigures();
        figuresAreFigures();
        numbersArePartedByCommas();
        semicolonEndsTheLastItemToo();
        itemsHaveAsManyNumbersAsTold();
        groundIsFrom5To40();
        groundIs30Without();
        lastGroundCounts();
        playersNumbersAreAsTold();
        playersAreFiveAtMost();
        playersAreNumberedFrom0();
        callersAreToldAhead();
        callerAndCalledAreUnlike();
        callsCellAndHeight();
        callIsTheNextPlayerWithout();
        lastCallOfEachCounts();
        lettersAreFrom0To3();
        lettersAre0WithoutAndTheLastOnesCount();
        slideIsFrom0To3();
        slideIs1WithoutAndTheLastOneCounts();
        faultIsTheFirstItemsPlace();
        newObject();
        writeTakesTheLowestBytes();
        wipeEmptiesTheText();
        textEndsWhereItEnds();
        laidAreTwoAtLeast();
        laidAreStartsOnTheGround();
        laidAreCellsOnTheGround();
        layForgetsAllButTheText();
        layOfNoLeavesAll();
        faultLeavesAll();
        Check.end();
    }

    private static void faultIs(String text, int want) {
        Check.due("fault of " + text, Check.written(text).fault(), want);
    }

    private static String repeat(String text, int times) {
        return text.repeat(times);
    }

    /** 'A TEXT is bytes (300 at most)', promise 2 'how long it is. .. FULL': by writes of each length. */
    private static void textHas300Bytes() {
        for (int n = 1; n <= 8; n++) {
            BallAndName x = Check.written(repeat("d", 300 - n));
            for (int more = n + 1; more <= 8; more++) {
                Check.due("one beyond 300", x.write(more, 0), FULL);
            }
            Check.due("nothing of it is written", x.count(6), 300 - n);
            Check.due("up to 300 by " + n, x.write(n, 0), 300);
            Check.due("not one more", x.write(1, 0), FULL);
            Check.due("300 stay", x.count(6), 300);
        }
        BallAndName x = Check.written(repeat("d", 298));
        Check.due("299", x.write(1, 0), 299);
        Check.due("301 by 2", x.write(2, 0), FULL);
        Check.due("300", x.write(1, 0), 300);
    }

    /** 'A TEXT is bytes (300 at most)': one of 300 is read to its last byte. */
    private static void textOf300BytesIsRead() {
        String most = TWO + repeat("d1;", 89) + "d01;d01;";
        BallAndName x = Check.written(most + "d3;");
        Check.due("300 bytes", x.count(6), 300);
        Check.due("no fault", x.fault(), NONE);
        Check.due("laid", x.lay(), 2);
        Check.due("the last item counts", x.count(2), 3);
        faultIs(most + "d4;", 297);
        faultIs(most + "d3,", 297);
        faultIs(most + "d33", 297);
        faultIs(TWO + repeat("d1;", 92) + "d1", 298);
        faultIs(TWO + repeat("d1;", 92) + "d", 298);
    }

    private static void everyByte(String ahead, String item, IntPredicate taken) {
        for (int b = 0; b < 256; b++) {
            String text = ahead + item.replace('?', (char) b) + "d2;";
            faultIs(text, taken.test(b) ? NONE : ahead.length());
        }
    }

    /** 'ITEMS one behind the other, each a letter': of all bytes the one that is told. */
    private static void itemBeginsWithItsLetter() {
        for (String item : ITEMS) {
            everyByte(TWO, "?" + item.substring(1), b -> b == item.charAt(0));
            everyByte(TWO, "?" + item, b -> false);
        }
    }

    private static String withNumber(String item, int which, String number) {
        String[] numbers = item.substring(1, item.length() - 1).split(",");
        numbers[which] = number;
        return item.charAt(0) + String.join(",", numbers) + ";";
    }

    private static String[] numbersOf(String item) {
        return item.substring(1, item.length() - 1).split(",");
    }

    /** 'numbers (one or two figures)': none, one, two, three, in each place of each item. */
    private static void numbersHaveOneOrTwoFigures() {
        for (String item : ITEMS) {
            String[] numbers = numbersOf(item);
            for (int which = 0; which < numbers.length; which++) {
                faultIs(TWO + withNumber(item, which, "") + "d2;", 22);
                faultIs(TWO + withNumber(item, which, numbers[which]) + "d2;", NONE);
                faultIs(TWO + withNumber(item, which, "0" + numbers[which]) + "d2;", NONE);
                faultIs(TWO + withNumber(item, which, "00" + numbers[which]) + "d2;", 22);
            }
        }
    }

    /** 'numbers (one or two figures)': of all bytes 0 to 9 alone, and not the one ahead of 0 and behind 9. */
    private static void figuresAreFigures() {
        IntPredicate figure = b -> b >= '0' && b <= '9';
        everyByte(TWO, "p?,1,1,0,0;", figure);
        everyByte(TWO, "p1?,1,1,0,0;", figure);
        everyByte(TWO, "p1,1,1,?,0;", figure);
        everyByte(TWO, "p1,1,1,0?,0;", figure);
        everyByte(TWO, "n1?;", figure);
        everyByte(TWO, "d?;", b -> b >= '0' && b <= '3');
        for (int tens = 0; tens <= 4; tens++) {
            for (int ones = 0; ones <= 9 && 10 * tens + ones <= 40; ones++) {
                BallAndName x = Check.laid("n40;p" + tens + ones + ",1,1,0,0;p0,1,1,0,0;");
                Check.due("two figures", x.player(0, 0), 10 * tens + ones);
            }
        }
    }

    /** 'numbers .. parted by ,': of all bytes the comma alone. */
    private static void numbersArePartedByCommas() {
        everyByte(TWO, "p01?1,1,0,0;", b -> b == ',');
        everyByte(TWO, "p1,1,1,0?0;", b -> b == ',');
        everyByte(TWO, "l01?1;", b -> b == ',');
        everyByte(TWO, "a1,0?03,9;", b -> b == ',');
        faultIs(TWO + "l1,,1;", 22);
        faultIs(TWO + "l,1,1;", 22);
        faultIs(TWO + "l1,1,;", 22);
    }

    /** 'and ; (behind the last one, too)': of all bytes the semicolon alone, and no item ends ahead of it. */
    private static void semicolonEndsTheLastItemToo() {
        for (String item : ITEMS) {
            String open = item.substring(0, item.length() - 1);
            // told by two figures, so that no figure can go on with the last number
            String full = withNumber(item, numbersOf(item).length - 1, "0" + open.charAt(open.length() - 1));
            everyByte(TWO, full.substring(0, full.length() - 1) + "?", b -> b == ';');
            for (int cut = 1; cut < item.length(); cut++) {
                faultIs(TWO + item.substring(0, cut), 22);
                faultIs(item.substring(0, cut), 0);
            }
            faultIs(TWO + item, NONE);
            faultIs(TWO + item + ";", 22 + item.length());
            faultIs(TWO + open + ",;", 22);
        }
        faultIs(TWO, NONE);
        faultIs("", NONE);
        faultIs(";", 0);
    }

    /** 'nN', 'pX,V,Z,S,K', 'aI,J,B,H', 'lI,L', 'dD': one number less, one more. */
    private static void itemsHaveAsManyNumbersAsTold() {
        for (String item : ITEMS) {
            String open = item.substring(0, item.length() - 1);
            faultIs(TWO + open + ",1;", 22);
            faultIs(TWO + open + ",1,1;", 22);
            faultIs(TWO + open.substring(0, Math.max(1, open.lastIndexOf(','))) + ";", 22);
        }
        faultIs(TWO + "p4,5,9,8,3,1,1,1,1,1;", 22);
    }

    /** All numbers of one or two figures in the place of #. */
    private static void numberIsFrom(String ahead, String item, int least, int most) {
        for (int number = 0; number <= 99; number++) {
            int want = number >= least && number <= most ? NONE : ahead.length();
            faultIs(ahead + item.replace("#", "" + number), want);
            if (number <= 9) {
                faultIs(ahead + item.replace("#", "0" + number), want);
            }
        }
    }

    /** 'nN the ground is of cells 0 to N (5 to 40 ..)'. */
    private static void groundIsFrom5To40() {
        numberIsFrom("", "n#;", 5, 40);
        numberIsFrom(TWO, "n#;", 5, 40);
        for (int n = 5; n <= 40; n++) {
            BallAndName x = Check.laid("n" + n + ";" + TWO);
            Check.due("N", x.count(1), n);
            Check.due("a call to N", x.call(0, 1, n, 1), 1);
            Check.due("a call beyond N", x.call(0, 1, n + 1, 1), BallAndName.BAD);
        }
    }

    /** 'nN .. (.. 30 without ..)'. */
    private static void groundIs30Without() {
        Check.due("N without", Check.laid(TWO).count(1), 30);
        Check.due("30", Check.written("p30,1,1,0,0;p0,1,1,0,0;").lay(), 2);
        Check.due("31", Check.written("p31,1,1,0,0;p0,1,1,0,0;").lay(), NO);
        // without in this text, whatever was laid ahead of it
        BallAndName x = Check.laid("n7;" + TWO);
        x.wipe();
        Check.writeText(x, TWO);
        x.lay();
        Check.due("N without, laid anew", x.count(1), 30);
    }

    /** 'nN .. (.. of several the last one counts)'. */
    private static void lastGroundCounts() {
        Check.due("5, 40", Check.laid("n5;" + TWO + "n40;").count(1), 40);
        Check.due("40, 5", Check.laid("n40;" + TWO + "n5;").count(1), 5);
        Check.due("5, 40, 17", Check.laid("n5;n40;n17;" + TWO).count(1), 17);
        Check.due("17, 17", Check.laid(TWO + "n17;n17;").count(1), 17);
    }

    /** 'pX,V,Z,S,K .. cell X (0 to 40), of PACE V (1 to 5), SIZE Z (1 to 9), SKILL S (0 to 9), KIND K (0 .. 3)'. */
    private static void playersNumbersAreAsTold() {
        numberIsFrom("d1;", "p#,1,1,0,0;", 0, 40);
        numberIsFrom("d1;", "p0,#,1,0,0;", 1, 5);
        numberIsFrom("d1;", "p0,1,#,0,0;", 1, 9);
        numberIsFrom("d1;", "p0,1,1,#,0;", 0, 9);
        numberIsFrom("d1;", "p0,1,1,0,#;", 0, 3);
        playerIsAsTold(0, 1, 1, 0, 0);
        playerIsAsTold(40, 5, 9, 9, 3);
        playerIsAsTold(39, 4, 8, 8, 2);
        playerIsAsTold(1, 2, 2, 1, 1);
    }

    private static void playerIsAsTold(int... told) {
        BallAndName x = Check.laid("n40;p" + told[0] + "," + told[1] + "," + told[2] + "," + told[3] + "," + told[4]
                + ";p20,3,5,5,0;");
        for (int what = 0; what < 5; what++) {
            Check.due("player, " + what, x.player(0, what), told[what]);
        }
        Check.due("player, letters", x.player(0, 5), 0);
    }

    /** 'pX,V,Z,S,K a PLAYER ..; 5 at most'. */
    private static void playersAreFiveAtMost() {
        Check.due("five", Check.written(FIVE).lay(), 5);
        faultIs(FIVE, NONE);
        faultIs(FIVE + "p5,1,1,0,0;", 55);
        faultIs(FIVE + "n40;l4,1;p5,1,1,0,0;", 64);
        faultIs(FIVE + "p5,1,1,0,0;p6,1,1,0,0;", 55);
        Check.due("six are not laid", Check.written(FIVE + "p5,1,1,0,0;").lay(), NO);
    }

    /** 'pX,V,Z,S,K a PLAYER ..; 5 at most, 0, 1, ..'. */
    private static void playersAreNumberedFrom0() {
        BallAndName x = Check.laid("p9,1,1,0,0;d2;p7,1,1,0,0;n20;p8,1,1,0,0;l0,1;p3,1,1,0,0;p5,1,1,0,0;");
        int[] cells = {9, 7, 8, 3, 5};
        for (int i = 0; i < 5; i++) {
            Check.due("X of " + i, x.player(i, 0), cells[i]);
        }
    }

    /** 'aI,J,B,H PLAYER I calls J (both told ahead ..)': by none to five told. */
    private static void callersAreToldAhead() {
        for (int told = 0; told <= 5; told++) {
            String ahead = FIVE.substring(0, 11 * told);
            for (int other = 0; other <= 6; other++) {
                boolean one = told >= 1 && other < told && other != 0;
                faultIs(ahead + "a0," + other + ",1,1;", one ? NONE : ahead.length());
                faultIs(ahead + "a" + other + ",0,1,1;", one ? NONE : ahead.length());
            }
            faultIs(ahead + "a0,99,1,1;", ahead.length());
            faultIs(ahead + "a99,0,1,1;", ahead.length());
            faultIs(ahead + "a0," + told + ",1,1;" + FIVE.substring(11 * told), ahead.length());
        }
        faultIs(FIVE + "a4,3,1,1;a3,4,1,1;", NONE);
    }

    /** 'aI,J,B,H PLAYER I calls J (.. unlike)'. */
    private static void callerAndCalledAreUnlike() {
        for (int i = 0; i < 5; i++) {
            for (int j = 0; j < 5; j++) {
                faultIs(FIVE + "a" + i + "," + j + ",1,1;", i == j ? 55 : NONE);
            }
        }
    }

    /** 'aI,J,B,H .. throwing to cell B (0 to 40), H (1 to 9) high'. */
    private static void callsCellAndHeight() {
        numberIsFrom(TWO, "a0,1,#,1;", 0, 40);
        numberIsFrom(TWO, "a0,1,1,#;", 1, 9);
        BallAndName x = Check.laid("n40;" + TWO + "a0,1,40,9;a1,0,0,1;");
        Check.dueAll("calls", new long[] {x.called(0, 0), x.called(0, 1), x.called(0, 2), x.called(1, 0), x.called(1, 1),
            x.called(1, 2)}, 1, 40, 9, 0, 0, 1);
    }

    /** 'aI,J,B,H .. (without: the next PLAYER (of the last one 0), to the cell where that one is, 1 high ..)'. */
    private static void callIsTheNextPlayerWithout() {
        int[] cells = {7, 30, 0, 12, 5};
        for (int players = 2; players <= 5; players++) {
            StringBuilder text = new StringBuilder();
            for (int k = 0; k < players; k++) {
                text.append('p').append(cells[k]).append(",1,1,0,0;");
            }
            BallAndName x = Check.laid(text.toString());
            for (int i = 0; i < players; i++) {
                int next = (i + 1) % players;
                Check.dueAll("without, " + i + " of " + players,
                        new long[] {x.called(i, 0), x.called(i, 1), x.called(i, 2)}, next, cells[next], 1);
            }
        }
        // who is told to call does not change whom the others call
        BallAndName x = Check.laid("p7,1,1,0,0;p30,1,1,0,0;a1,0,9,9;p2,1,1,0,0;");
        Check.dueAll("with one of three", new long[] {x.called(0, 0), x.called(0, 1), x.called(0, 2), x.called(1, 0),
            x.called(1, 1), x.called(1, 2), x.called(2, 0), x.called(2, 1), x.called(2, 2)},
                1, 30, 1, 0, 9, 9, 0, 7, 1);
    }

    /** 'aI,J,B,H .. (.. the last one of each I)'. */
    private static void lastCallOfEachCounts() {
        String three = "p7,1,1,0,0;p30,1,1,0,0;p2,1,1,0,0;";
        BallAndName x = Check.laid(three + "a0,1,1,1;a1,2,2,2;a0,2,3,3;a2,1,4,4;a1,0,5,5;a0,1,6,6;");
        Check.dueAll("the last ones", new long[] {x.called(0, 0), x.called(0, 1), x.called(0, 2), x.called(1, 0),
            x.called(1, 1), x.called(1, 2), x.called(2, 0), x.called(2, 1), x.called(2, 2)},
                1, 6, 6, 0, 5, 5, 1, 4, 4);
        // also when the last one tells what is so without
        BallAndName y = Check.laid(three + "a0,2,9,9;a0,1,30,1;");
        Check.dueAll("as without", new long[] {y.called(0, 0), y.called(0, 1), y.called(0, 2)}, 1, 30, 1);
    }

    /** 'lI,L PLAYER I (told ahead) has L LETTERS (0 to 3 ..)'. */
    private static void lettersAreFrom0To3() {
        numberIsFrom(TWO, "l0,#;", 0, 3);
        for (int told = 0; told <= 5; told++) {
            String ahead = FIVE.substring(0, 11 * told);
            numberIsFrom(ahead, "l#,3;", 0, told - 1);
            faultIs(ahead + "l" + told + ",3;" + FIVE.substring(11 * told), ahead.length());
        }
        for (int letters = 0; letters <= 3; letters++) {
            Check.due("letters", Check.laid(TWO + "l1," + letters + ";").player(1, 5), letters);
        }
    }

    /** 'lI,L .. (.. 0 without; the last one of each)'. */
    private static void lettersAre0WithoutAndTheLastOnesCount() {
        BallAndName x = Check.laid(FIVE + "l1,3;l2,0;l3,1;l1,2;l2,3;l3,0;l4,3;l4,3;");
        int[] letters = {0, 2, 3, 0, 3};
        for (int i = 0; i < 5; i++) {
            Check.due("letters of " + i, x.player(i, 5), letters[i]);
        }
        x.wipe();
        Check.writeText(x, FIVE);
        x.lay();
        for (int i = 0; i < 5; i++) {
            Check.due("letters without, laid anew", x.player(i, 5), 0);
        }
    }

    /** 'dD all SLIDE by D (0 to 3 ..)'. */
    private static void slideIsFrom0To3() {
        numberIsFrom("", "d#;", 0, 3);
        numberIsFrom(TWO, "d#;", 0, 3);
        for (int d = 0; d <= 3; d++) {
            BallAndName x = Check.laid("d" + d + ";" + TWO);
            Check.due("D", x.count(2), d);
        }
    }

    /** 'dD .. (.. 1 without; of several the last one counts)'. */
    private static void slideIs1WithoutAndTheLastOneCounts() {
        Check.due("D without", Check.laid(TWO).count(2), 1);
        Check.due("0, 3", Check.laid("d0;" + TWO + "d3;").count(2), 3);
        Check.due("3, 0", Check.laid("d3;" + TWO + "d0;").count(2), 0);
        Check.due("0, 3, 2", Check.laid("d0;d3;d2;" + TWO).count(2), 2);
        BallAndName x = Check.laid("d3;" + TWO);
        x.wipe();
        Check.writeText(x, TWO);
        x.lay();
        Check.due("D without, laid anew", x.count(2), 1);
    }

    /** 'FAULT: the place (from 0 on) of the first byte of the first ITEM that is not so', promise 4 'NONE'. */
    private static void faultIsTheFirstItemsPlace() {
        String ahead = "";
        for (String item : new String[] {"n40;", "p1,2,3,4,0;", "d3;", "p40,5,9,9,3;", "l1,03;", "a00,01,40,9;"}) {
            faultIs(ahead, NONE);
            // the first byte of the item, wherever in it the first wrong byte is
            faultIs(ahead + "?", ahead.length());
            faultIs(ahead + "p1,2,3,4,", ahead.length());
            faultIs(ahead + "p1,2,3,4,0", ahead.length());
            faultIs(ahead + "p1,2,3,4,4;", ahead.length());
            faultIs(ahead + "p1,2,3,4,0,;", ahead.length());
            // the first of several, and what is behind it does not matter
            faultIs(ahead + "d4;" + "n99;", ahead.length());
            faultIs(ahead + "d4;" + "n9;d1;", ahead.length());
            faultIs(ahead + "d4" + item, ahead.length());
            ahead += item;
        }
        faultIs(ahead, NONE);
    }

    /** Promise 1 'As told; THE TEXT is empty', 'at first p10,2,5,5,0;p14,2,5,3,0;p20,3,4,6,0;'. */
    private static void newObject() {
        BallAndName x = new BallAndName();
        Check.due("the text is empty", x.count(6), 0);
        Check.due("nothing to wipe", x.wipe(), 0);
        Check.due("no fault", x.fault(), NONE);
        Check.due("nothing to lay", x.lay(), NO);
        BallAndName told = Check.laid("p10,2,5,5,0;p14,2,5,3,0;p20,3,4,6,0;");
        told.wipe();
        Check.dueAll("as if it were laid", Look.through(x), Look.through(told));
    }

    /** Promise 2 'The lowest n bytes (1 to 8) of v, the highest of these first, come behind THE TEXT: how long it is'. */
    private static void writeTakesTheLowestBytes() {
        String text = "n33;p10,2,5,5,0;p14,2,5,3,0;p20,3,4,6,1;d2;";
        for (int n = 1; n <= 8; n++) {
            for (long junk : new long[] {0, -1, 0x3B3B3B3B3B3B3B3BL, Long.MIN_VALUE}) {
                BallAndName x = new BallAndName();
                for (int at = 0; at < text.length(); at += n) {
                    int size = Math.min(n, text.length() - at);
                    long v = junk;
                    for (int i = 0; i < size; i++) {
                        v = (v << 8) | text.charAt(at + i);
                    }
                    Check.due("how long it is", x.write(size, v), at + size);
                }
                Check.due("by " + n + ": fault", x.fault(), NONE);
                Check.due("by " + n + ": lay", x.lay(), 3);
                Check.dueAll("by " + n + ": read", new long[] {x.count(1), x.count(2), x.player(0, 0), x.player(1, 0),
                    x.player(2, 0), x.player(2, 4)}, 33, 2, 10, 14, 20, 1);
            }
        }
        // the eighth byte of v is its highest
        BallAndName x = new BallAndName();
        x.write(8, 0x6E36303B6E373B64L);
        Check.due("n60; first", x.fault(), 0);
        x = new BallAndName();
        x.write(7, 0x606E363B6E373B64L);
        Check.due("n6;n7;d", x.fault(), 6);
        for (int n : new int[] {Integer.MIN_VALUE, -1, 0, 9, Integer.MAX_VALUE}) {
            BallAndName y = new BallAndName();
            Check.due("write(" + n + ")", y.write(n, 'n'), BallAndName.BAD);
            Check.due("nothing is written", y.count(6), 0);
        }
    }

    /** Promise 3 'THE TEXT is empty: how long it was'. */
    private static void wipeEmptiesTheText() {
        for (int length : new int[] {0, 1, 299, 300}) {
            BallAndName x = Check.written(repeat("?", length));
            Check.due("wipe of " + length, x.wipe(), length);
            Check.due("wiped", x.count(6), 0);
            Check.due("wiped: fault", x.fault(), NONE);
            Check.due("wiped: lay", x.lay(), NO);
            Check.due("wiped: wipe", x.wipe(), 0);
            Check.due("wiped: write", x.write(3, 0x64333BL), 3);
            Check.due("wiped: fault of what is written then", x.fault(), NONE);
        }
        // what is laid stays
        BallAndName x = Check.laid("n8;d2;" + FIVE);
        x.wipe();
        Check.dueAll("laid", new long[] {x.count(0), x.count(1), x.count(2), x.player(4, 0)}, 5, 8, 2, 4);
    }

    /** Promise 3 'THE TEXT is empty': what was there is not read behind the end of what is written then. */
    private static void textEndsWhereItEnds() {
        for (String item : ITEMS) {
            for (int cut = 1; cut < item.length(); cut++) {
                BallAndName x = Check.written(TWO + item + item);
                x.wipe();
                Check.writeText(x, TWO + item.substring(0, cut));
                Check.due("cut off, " + item + " by " + cut, x.fault(), 22);
                Check.due("not laid", x.lay(), NO);
            }
            BallAndName x = Check.written(TWO + item + "?");
            x.wipe();
            Check.writeText(x, TWO + item);
            Check.due("no fault behind the end", x.fault(), NONE);
        }
        // a text in which an item more was begun, and one of 300 bytes
        BallAndName x = Check.written(repeat(";", 300));
        Check.due("300", x.wipe(), 300);
        Check.writeText(x, TWO + repeat("d1;", 92) + "d1");
        Check.due("cut off at 300", x.fault(), 298);
    }

    /** 'LAID is a TEXT without FAULT, of two PLAYERS at least', promise 5 'how many PLAYERS .. NO'. */
    private static void laidAreTwoAtLeast() {
        for (int players = 0; players <= 5; players++) {
            BallAndName x = Check.written(FIVE.substring(0, 11 * players));
            Check.due("no fault", x.fault(), NONE);
            Check.due("lay of " + players, x.lay(), players >= 2 ? players : NO);
            Check.due("players then", x.count(0), players >= 2 ? players : 3);
            // the same with a fault behind
            BallAndName y = Check.written(FIVE.substring(0, 11 * players) + "d4;");
            Check.due("lay of " + players + " and a fault", y.lay(), NO);
        }
        Check.due("lay of other items", Check.written("n30;d1;").lay(), NO);
    }

    /** 'LAID is a TEXT .. all X .. of which are on the ground (NO else ..)': each of five players, at N, one beyond. */
    private static void laidAreStartsOnTheGround() {
        for (int n : new int[] {5, 17, 30, 39, 40}) {
            for (int k = 0; k < 5; k++) {
                for (int cell = n - 1; cell <= Math.min(40, n + 1); cell++) {
                    String text = FIVE.substring(0, 11 * k) + "p" + cell + ",1,1,0,0;" + FIVE.substring(11 * k + 11);
                    // all call to cell 0, so that no B is beyond with it
                    String calls = "a0,1,0,1;a1,0,0,1;a2,0,0,1;a3,0,0,1;a4,0,0,1;";
                    BallAndName x = Check.written(text + calls + "n" + n + ";");
                    Check.due("no fault", x.fault(), NONE);
                    Check.due("N " + n + ", X " + cell + " of " + k, x.lay(), cell <= n ? 5 : NO);
                }
            }
        }
    }

    /** 'LAID is a TEXT .. all .. B of which are on the ground (NO else ..)': each of five calls, at N, one beyond. */
    private static void laidAreCellsOnTheGround() {
        for (int n : new int[] {5, 17, 30, 39, 40}) {
            for (int i = 0; i < 5; i++) {
                for (int cell = n - 1; cell <= Math.min(40, n + 1); cell++) {
                    String call = "a" + i + "," + (i == 0 ? 1 : 0) + "," + cell + ",1;";
                    BallAndName x = Check.written("n" + n + ";" + FIVE + call);
                    Check.due("no fault", x.fault(), NONE);
                    Check.due("N " + n + ", B " + cell + " of " + i, x.lay(), cell <= n ? 5 : NO);
                }
            }
        }
    }

    /** A game with something SEEN, UNDONE and KEPT. */
    private static BallAndName busy(String text) {
        BallAndName x = Check.laid("n12;d3;p3,2,6,4,1;p9,3,5,6,2;p1,1,1,1,1;l0,3;a0,2,4,4;");
        x.letters(1, 3);
        x.call(1, 0, 2, 2);
        x.keep();
        x.call(2, 0, 12, 9);
        x.letters(0, 1);
        x.keep();
        x.seen(0, 1, 4);
        x.seen(2, 2, 12);
        x.letters(2, 2);
        x.wipe();
        Check.writeText(x, text);
        return x;
    }

    /** Promise 5 'nothing SEEN, UNDONE, KEPT (THE TEXT stays)'. */
    private static void layForgetsAllButTheText() {
        String text = "p3,2,6,4,1;p9,3,5,6,2;p1,1,1,1,1;";
        BallAndName x = busy(text);
        Check.due("lay", x.lay(), 3);
        Check.dueAll("seen, undone, kept, text", new long[] {x.count(3), x.count(4), x.count(5), x.count(6)},
                0, 0, 0, text.length());
        Check.due("nothing is seen of 1", x.kinds(1), 15);
        Check.dueAll("as laid on a new object", Look.through(x), Look.through(Check.laid(text)));
    }

    /** 'NO: not as things stand .. nothing changes then': each way in which a text can't be laid. */
    private static void layOfNoLeavesAll() {
        String[] texts = {"", "d0;n40;", "n40;d0;p5,1,1,1,1;", "n40;d0;" + FIVE + "?", "n40;d0;" + FIVE + "p5,1,1,0,0;",
            "n5;d0;" + TWO + "p6,1,1,0,0;", "n5;d0;" + TWO + "a1,0,6,9;", "n5;d0;" + TWO + "l0,2;l1,3;a0,1,40,9;"};
        for (String text : texts) {
            BallAndName x = busy(text);
            Check.due("lay of " + text, x.lay(), NO);
            Check.dueAll("behind lay of " + text, Look.through(x), Look.through(busy(text)));
        }
    }

    /** Promise 4 'FAULT. NONE.': it is told, and nothing is laid or changed by it. */
    private static void faultLeavesAll() {
        String[] texts = {"", "n40;d0;" + FIVE + "l0,3;", "n40;d0;" + FIVE + "l0,4;", "n5;"};
        for (String text : texts) {
            BallAndName x = busy(text);
            x.fault();
            Check.dueAll("behind fault of " + text, Look.through(x), Look.through(busy(text)));
        }
    }
}
