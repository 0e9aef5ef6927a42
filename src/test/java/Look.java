/** All that an object shows: so one that was asked can be compared with its twin that was not. */
final class Look {
    private final BallAndName x;
    private final long[] shown = new long[600];
    private int size = 0;

    private Look(BallAndName x) {
        this.x = x;
    }

    /** What can be asked without changing anything. */
    static long[] at(BallAndName x) {
        Look look = new Look(x);
        look.takeAnswers();
        return look.taken();
    }

    /** What stands behind that, too: all that can be UNDONE, what is KEPT, SEEN and in THE TEXT. It uses x up. */
    static long[] through(BallAndName x) {
        Look look = new Look(x);
        look.takeAnswers();
        while (look.take(x.undo()) >= 0) {
            look.takeTold();
        }
        while (look.take(x.back()) >= 0) {
            look.takeTold();
        }
        look.take(x.forget());
        look.take(x.lay());
        look.takeTold();
        look.take(x.wipe());
        return look.taken();
    }

    private long[] taken() {
        return java.util.Arrays.copyOf(shown, size);
    }

    private long take(long answer) {
        shown[size] = answer;
        size++;
        return answer;
    }

    private void takeAnswers() {
        for (int what = 0; what <= 6; what++) {
            take(x.count(what));
        }
        take(x.fault());
        take(x.afternoon(77, 0));
        take(x.afternoon(77, 1));
        int players = x.count(0);
        for (int i = 0; i < players; i++) {
            for (int what = 0; what <= 4; what++) {
                take(x.player(i, what));
            }
            take(x.called(i, 3));
            take(x.kinds(i));
            take(x.thrown(i, 0));
            take(x.thrown(i, 1));
            take(x.safe(i, 1));
            take(x.rounds(i, 0));
            take(x.first(i, 0, 0));
            for (int k = 0; k < players; k++) {
                take(x.stands(i, k));
                take(x.hidden(i, k));
            }
        }
        takeTold();
    }

    private void takeTold() {
        int players = x.count(0);
        for (int i = 0; i < players; i++) {
            take(x.called(i, 0));
            take(x.called(i, 1));
            take(x.called(i, 2));
            take(x.player(i, 5));
        }
    }
}
