/** Long runs of what is done with THE TEXT, drawn by a fixed rule, against the second telling of the document (Model). */
public final class TextRunsTest {
    private static long drawn = 20261119;
    private static int textsLaid = 0;
    private static int textsFull = 0;
    private static int textsWithFault = 0;
    /** Calls of the object that is tried: 512 at most. */
    private static int asked = 0;

    public static void main(String[] args) {
        for (int run = 0; run < 400; run++) {
            play(run);
        }
        // that the runs are such as they are meant to be
        Check.due("texts laid, a thousand at least", Math.min(textsLaid, 1000), 1000);
        Check.due("texts too long, a hundred at least", Math.min(textsFull, 100), 100);
        Check.due("texts with a FAULT, a thousand at least", Math.min(textsWithFault, 1000), 1000);
        Check.end();
    }

    private static void due(String call, long got, long want) {
        asked++;
        Check.due(call, got, want);
    }

    private static int draw(int least, int most) {
        drawn = drawn * 6364136223846793005L + 1442695040888963407L;
        return least + (int) ((drawn >>> 33) % (most - least + 1));
    }

    private static boolean oneOf(int many) {
        return draw(1, many) == 1;
    }

    private static void play(int run) {
        BallAndName x = new BallAndName();
        Model model = new Model();
        boolean oftenWrong = run % 4 == 3;
        boolean isLong = run % 2 == 0;
        asked = 0;
        for (int n = 0; asked < 400; n++) {
            String item = drawItem(model, oftenWrong);
            writeInParts(x, model, item);
            String call = "run " + run + ", item " + n + ", text " + model.text;
            due(call + ": fault", x.fault(), model.fault());
            textsWithFault += model.fault() >= 0 ? 1 : 0;
            if (oneOf(3)) {
                change(x, model, call);
            }
            if (oneOf(isLong ? 12 : 4)) {
                lay(x, model, call);
            }
            if (model.text.length() > (isLong ? 299 : 90) || model.fault() >= 0 && oneOf(3)) {
                due(call + ": wipe", x.wipe(), model.wipe());
                due(call + ": wiped", x.count(6), 0);
            }
        }
    }

    /** By writes of one to eight bytes, each with other bytes above them, of which nothing is written. */
    private static void writeInParts(BallAndName x, Model model, String item) {
        int at = 0;
        while (at < item.length()) {
            int n = Math.min(draw(1, 8), item.length() - at);
            long v = drawn;
            for (int i = at; i < at + n; i++) {
                v = v << 8 | item.charAt(i);
            }
            int length = model.write(n, v);
            due("write of " + item, x.write(n, v), length);
            if (length == BallAndName.FULL) {
                due("bytes behind it", x.count(6), model.text.length());
                textsFull++;
            }
            at += n;
        }
    }

    /** An item; mostly one by which the text stays without FAULT, if it is so. */
    private static String drawItem(Model model, boolean oftenWrong) {
        String item = "";
        boolean mayBeWrong = oftenWrong ? oneOf(6) : oneOf(30);
        for (int tries = 0; tries < 200; tries++) {
            item = spoiled(anyItem(Math.max(0, model.fault() >= 0 ? 2 : model.newPlayers.size())), mayBeWrong && oneOf(2));
            String before = model.text;
            model.text = before + item;
            boolean isSo = model.fault() < 0;
            model.text = before;
            if (isSo || mayBeWrong || model.fault() >= 0) {
                return item;
            }
        }
        return item;
    }

    /** The bounds of its numbers, and at times one beyond. */
    private static String anyItem(int players) {
        switch (players < 2 ? 0 : draw(0, 6)) {
            case 0: case 1:
                return "p" + number(0, 31) + "," + number(1, 5) + "," + number(1, 9) + "," + number(0, 9) + ","
                        + number(0, 3) + ";";
            case 2: case 3:
                return "a" + number(0, players) + "," + number(0, players) + "," + number(0, 31) + "," + number(1, 9) + ";";
            case 4:
                return "l" + number(0, players) + "," + number(0, 3) + ";";
            case 5:
                return "n" + (oneOf(3) ? number(5, 40) : number(29, 40)) + ";";
            default:
                return "d" + number(0, 3) + ";";
        }
    }

    private static String number(int least, int most) {
        int number = oneOf(8) ? most : oneOf(8) ? least : oneOf(30) ? most + 1 : draw(least, most);
        return number < 10 && oneOf(6) ? "0" + number : "" + number;
    }

    /** One byte another, one more, one less. */
    private static String spoiled(String item, boolean isSpoiled) {
        if (!isSpoiled) {
            return item;
        }
        int at = draw(0, item.length() - 1);
        String signs = "0123456789,,;;npald";
        char sign = oneOf(2) ? (char) draw(0, 255) : signs.charAt(draw(0, signs.length() - 1));
        String ahead = item.substring(0, at);
        switch (draw(0, 2)) {
            case 0: return ahead + sign + item.substring(at + 1);
            case 1: return ahead + sign + item.substring(at);
            default: return ahead + item.substring(at + 1);
        }
    }

    /** Something to be UNDONE, KEPT or SEEN, that is gone when a text is laid, and not before. */
    private static void change(BallAndName x, Model model, String call) {
        int i = draw(0, model.players.size() - 1);
        int k = draw(0, model.players.size() - 1);
        int cell = draw(0, model.n);
        switch (draw(0, 5)) {
            case 0:
                due(call + ": letters", x.letters(i, 3), model.letters(i, 3));
                break;
            case 1:
                due(call + ": call", x.call(i, k, cell, 9), model.call(i, k, cell, 9));
                break;
            case 2:
                due(call + ": seen", x.seen(i, k, cell), model.seen(i, k, cell));
                break;
            case 3:
                due(call + ": keep", x.keep(), model.keep());
                break;
            case 4:
                due(call + ": undo", x.undo(), model.undo());
                break;
            default:
                due(call + ": back", x.back(), model.back());
                break;
        }
    }

    private static void lay(BallAndName x, Model model, String call) {
        int players = model.lay();
        due(call + ": lay", x.lay(), players);
        textsLaid += players >= 0 ? 1 : 0;
        for (int what = 0; what <= 6; what++) {
            due(call + ": count " + what, x.count(what), model.count(what));
        }
        for (int i = 0; i < model.players.size(); i++) {
            for (int what = 0; what <= 5; what++) {
                due(call + ": player " + i + " " + what, x.player(i, what), model.player(i, what));
            }
            for (int what = 0; what <= 3; what++) {
                due(call + ": called " + i + " " + what, x.called(i, what), model.called(i, what));
            }
        }
    }
}
