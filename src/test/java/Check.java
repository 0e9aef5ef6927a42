import java.nio.charset.StandardCharsets;

/** What all tests of the project use: answers that are due, and texts written byte by byte. */
final class Check {
    private static int wrong = 0;

    private Check() {
    }

    static void due(String what, long got, long want) {
        if (got != want) {
            wrong++;
            if (wrong <= 40) {
                System.out.println(what + " answered " + got + ", due is " + want);
            }
        }
    }

    /** The answers of several calls, one behind the other. */
    static void dueAll(String what, long[] got, long... want) {
        due(what + ", how many answers", got.length, want.length);
        for (int i = 0; i < Math.min(got.length, want.length); i++) {
            due(what + " [" + i + "]", got[i], want[i]);
        }
    }

    static void writeText(BallAndName x, String text) {
        byte[] bytes = text.getBytes(StandardCharsets.ISO_8859_1);
        int at = 0;
        while (at < bytes.length) {
            int n = Math.min(8, bytes.length - at);
            long v = 0;
            for (int i = 0; i < n; i++) {
                v = (v << 8) | (bytes[at + i] & 255);
            }
            x.write(n, v);
            at += n;
        }
    }

    /** A new object with this text. */
    static BallAndName written(String text) {
        BallAndName x = new BallAndName();
        writeText(x, text);
        return x;
    }

    /** A new object in which this text is laid. */
    static BallAndName laid(String text) {
        BallAndName x = written(text);
        if (x.lay() < 2) {
            wrong++;
            System.out.println("can't be laid: " + text);
        }
        return x;
    }

    static void end() {
        System.out.println(wrong == 0 ? "all answers are as due" : wrong + " answers are not as due");
        if (wrong != 0) {
            System.exit(1);
        }
    }
}
