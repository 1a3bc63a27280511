import java.nio.charset.StandardCharsets;

/** What the tests share: telling a text to a green, and counting answers that are not the ones due. */
final class Check {
    private static int wrong = 0;
    private static int asked = 0;
    /** How many answers were asked for of each promise, by its number. */
    private static final int[] OF_PROMISE = new int[76];

    private Check() {
    }

    static void due(String call, long got, long want) {
        asked++;
        if (got != want) {
            wrong++;
            System.out.println(call + " answered " + got + ", due is " + want);
        }
    }

    /** The answers of one call over rising last arguments, put by the test into a row. */
    static void due(String call, long[] got, long... want) {
        due(call + " (how many)", got.length, want.length);
        for (int i = 0; i < Math.min(got.length, want.length); i++) {
            due(call + " at " + i, got[i], want[i]);
        }
    }

    /** An answer that a promise names, so that a promise without any can be told. */
    static void due(int promise, String call, long got, long want) {
        OF_PROMISE[promise]++;
        due("promise " + promise + ": " + call, got, want);
    }

    static void due(int promise, String call, long[] got, long... want) {
        OF_PROMISE[promise]++;
        due("promise " + promise + ": " + call, got, want);
    }

    static void everyPromiseWasAsked() {
        for (int promise = 1; promise < OF_PROMISE.length; promise++) {
            due("promise " + promise + " has a boundary of its own", OF_PROMISE[promise] > 0 ? 1 : 0, 1);
        }
    }

    static void finish(String name) {
        System.out.println(name + ": " + asked + " answers, " + wrong + " not as due");
        if (wrong != 0) {
            System.exit(1);
        }
    }

    static byte[] bytes(String text) {
        return text.getBytes(StandardCharsets.ISO_8859_1);
    }

    static int word(byte[] bytes, int at) {
        int number = 0;
        for (int i = at; i < at + 4; i++) {
            number = number << 8 | (i < bytes.length ? bytes[i] & 255 : ' ');
        }
        return number;
    }

    /** Puts a text behind the tape, with no byte more than its own. */
    static void type(WaistcoatGreen x, String text) {
        byte[] bytes = bytes(text);
        int had = x.count(10);
        for (int i = 0; i < bytes.length; i += 20) {
            x.feed(word(bytes, i), word(bytes, i + 4), word(bytes, i + 8), word(bytes, i + 12), word(bytes, i + 16));
        }
        due("end behind a text", x.end(had + bytes.length), had + bytes.length);
    }

    /** A new object with a green that has no fault. */
    static WaistcoatGreen told(String text) {
        WaistcoatGreen x = new WaistcoatGreen();
        type(x, text);
        int lines = x.green();
        if (lines < 0) {
            due("green() of " + text, lines, 1);
        }
        return x;
    }
}
