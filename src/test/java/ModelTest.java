/** Long runs of calls, drawn by a fixed rule, against a second telling of the document (Model): cell by cell, with fractions. */
public final class ModelTest {
    private static long drawn = 20261118;

    public static void main(String[] args) {
        for (int run = 0; run < 500; run++) {
            play(run);
        }
        Check.end();
    }

    private static int draw(int least, int most) {
        drawn = drawn * 6364136223846793005L + 1442695040888963407L;
        return least + (int) ((drawn >>> 33) % (most - least + 1));
    }

    private static void play(int run) {
        BallAndName x = new BallAndName();
        Model model = new Model();
        // 400 calls, and some 25 for each text (169 bytes at most): no object is asked more than 512
        for (int n = 0; n < 400; n++) {
            int what = n % 100 == 0 ? -1 : draw(0, 23);
            String call = step(x, model, what);
            if (call != null) {
                Check.due("run " + run + ", call " + n + ", " + call, model.got, model.want);
            }
        }
    }

    private static String drawText() {
        StringBuilder text = new StringBuilder();
        int ground = draw(0, 2) == 0 ? draw(5, 40) : 30;
        if (ground != 30) {
            text.append('n').append(ground).append(';');
        }
        int players = draw(0, 9) == 0 ? draw(0, 6) : draw(2, 5);
        boolean weak = draw(0, 1) == 0;
        for (int i = 0; i < players; i++) {
            text.append('p').append(draw(0, draw(0, 30) == 0 ? 40 : ground)).append(',').append(draw(1, 5))
                    .append(',').append(draw(1, weak ? 5 : 9)).append(',').append(draw(0, weak ? 4 : 9))
                    .append(',').append(draw(0, 3)).append(';');
            if (i > 0 && draw(0, 1) == 0) {
                int caller = draw(0, i);
                int callee = draw(0, 20) == 0 ? caller : (caller + draw(1, i)) % (i + 1);
                text.append('a').append(caller).append(',').append(callee).append(',')
                        .append(draw(0, draw(0, 30) == 0 ? 40 : ground)).append(',').append(draw(1, 9)).append(';');
            }
            if (draw(0, 2) == 0) {
                text.append('l').append(draw(0, draw(0, 20) == 0 ? 9 : i)).append(',').append(draw(0, 3)).append(';');
            }
        }
        if (draw(0, 1) == 0) {
            text.append('d').append(draw(0, 3)).append(';');
        }
        if (draw(0, 7) == 0 && text.length() > 0) {
            text.setCharAt(draw(0, text.length() - 1), "0123456789,;npald x\u00ff".charAt(draw(0, 19)));
        }
        return text.toString();
    }

    private static String step(BallAndName x, Model model, int what) {
        int top = draw(0, 15) == 0 ? model.players.size() : model.players.size() - 1;
        int i = draw(draw(0, 30) == 0 ? -1 : 0, top);
        int k = draw(0, top);
        int cell = draw(draw(0, 30) == 0 ? -1 : 0, draw(0, 30) == 0 ? model.n + 1 : model.n);
        switch (what) {
            case -1: return newText(x, model);
            case 0: {
                int w = draw(-1, 6);
                return model.says("player " + i + " " + w, x.player(i, w), model.player(i, w));
            }
            case 1: {
                int w = draw(-1, 4);
                return model.says("called " + i + " " + w, x.called(i, w), model.called(i, w));
            }
            case 2: return model.says("stands " + i + " " + k, x.stands(i, k), model.stands(i, k));
            case 3: return model.says("chance " + i + " " + k, x.chance(i, k), model.chance(i, k));
            case 4: {
                int w = draw(0, 20) == 0 ? 2 : draw(0, 1);
                return model.says("thrown " + i + " " + w, x.thrown(i, w), model.thrown(i, w));
            }
            case 5: return model.says("hidden " + i + " " + k, x.hidden(i, k), model.hidden(i, k));
            case 6: {
                int w = draw(0, 20) == 0 ? 4 : draw(0, 3);
                return model.says("safe " + i + " " + w, x.safe(i, w), model.safe(i, w));
            }
            case 7: case 8: {
                int w = draw(0, 20) == 0 ? 2 : draw(0, 1);
                return model.says("run " + i + " " + k + " " + w, x.run(i, k, w), model.run(i, k, w));
            }
            case 9: {
                int w = draw(0, 20) == 0 ? 2 : draw(0, 1);
                return model.says("first " + i + " " + k + " " + w, x.first(i, k, w), model.first(i, k, w));
            }
            case 10: {
                int w = draw(0, 20) == 0 ? 2 : draw(0, 1);
                return model.says("rounds " + i + " " + w, x.rounds(i, w), model.rounds(i, w));
            }
            case 11: case 12: {
                int h = draw(draw(0, 20) == 0 ? 0 : 1, draw(0, 20) == 0 ? 10 : 9);
                return model.says("call", x.call(i, k, cell, h), model.call(i, k, cell, h));
            }
            case 13: case 14: {
                int l = draw(draw(0, 20) == 0 ? -1 : 0, draw(0, 20) == 0 ? 4 : 3);
                return model.says("letters", x.letters(i, l), model.letters(i, l));
            }
            case 15: return model.says("undo", x.undo(), model.undo());
            case 16: case 17: {
                int at = draw(0, 3) > 0 && model.has(i) && model.has(k) ? model.stop(i, k, draw(0, 3)) : cell;
                return model.says("seen " + i + " " + k + " " + at, x.seen(i, k, at), model.seen(i, k, at));
            }
            case 18: return draw(0, 3) > 0 ? null : model.says("forget", x.forget(), model.forget());
            case 19: return model.says("kinds " + k, x.kinds(k), model.kinds(k));
            case 20: {
                int z = draw(draw(0, 20) == 0 ? -1 : 0, draw(0, 20) == 0 ? 10010 : 9999);
                int w = draw(0, 1);
                return model.says("afternoon " + z + " " + w, x.afternoon(z, w), model.afternoon(z, w));
            }
            case 21: return model.says("keep", x.keep(), model.keep());
            case 22: return model.says("back", x.back(), model.back());
            default: {
                int w = draw(-1, 7);
                return model.says("count " + w, x.count(w), model.count(w));
            }
        }
    }

    private static String newText(BallAndName x, Model model) {
        String text = drawText();
        Check.due("wipe", x.wipe(), model.text.length());
        Check.writeText(x, text);
        model.text = text;
        int fault = model.fault();
        Check.due("fault of " + text, x.fault(), fault);
        return model.says("lay of " + text, x.lay(), model.lay());
    }
}
