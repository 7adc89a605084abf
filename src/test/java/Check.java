import java.nio.charset.StandardCharsets;
import java.util.Arrays;

/** What the tests share: answers that are due, and texts put onto the tape. */
final class Check {
    private static int made = 0;
    private static int wrong = 0;

    private Check() {
    }

    static void due(String what, long got, long want) {
        made++;
        if (got != want) {
            wrong++;
            System.out.println(what + " answered " + got + ", due is " + want);
        }
    }

    static void due(String what, boolean got, boolean want) {
        due(what, got ? 1 : 0, want ? 1 : 0);
    }

    /** Ends the test: with exit code 1, if an answer was not the one that was due. */
    static void finish() {
        System.out.println(made + " answers looked at, " + wrong + " wrong");
        if (wrong > 0 || made == 0) {
            System.exit(1);
        }
    }

    static void feedBytes(BlackLine line, int... bytes) {
        int before = line.feed(0, 0, 0, 0, 0) - 20;
        due("the tape is empty ahead of a text", before, 0);
        line.end(0);
        int[] padded = Arrays.copyOf(bytes, (bytes.length + 19) / 20 * 20);
        for (int k = 0; k < padded.length; k += 20) {
            line.feed(word(padded, k), word(padded, k + 4), word(padded, k + 8),
                    word(padded, k + 12), word(padded, k + 16));
        }
        line.end(bytes.length);
    }

    static int word(int[] bytes, int at) {
        return bytes[at] << 24 | bytes[at + 1] << 16 | bytes[at + 2] << 8 | bytes[at + 3];
    }

    static int[] bytesOf(String text) {
        byte[] signs = text.getBytes(StandardCharsets.ISO_8859_1);
        int[] bytes = new int[signs.length];
        for (int k = 0; k < signs.length; k++) {
            bytes[k] = signs[k] & 255;
        }
        return bytes;
    }

    static int read(BlackLine line, String text) {
        feedBytes(line, bytesOf(text));
        return line.kitchen();
    }

    /** A new object with this KITCHEN, which is to have no FAULT. */
    static BlackLine with(String text) {
        BlackLine line = new BlackLine();
        int statements = read(line, text);
        if (statements < 0) {
            due("fault " + line.fault(0) + " at " + line.fault(1) + " in " + text, statements, 0);
        }
        return line;
    }

    static void dueFault(String text, int kind, int place) {
        BlackLine line = new BlackLine();
        due("kitchen() of '" + text + "'", read(line, text), -1);
        due("fault(0) of '" + text + "'", line.fault(0), kind);
        due("fault(1) of '" + text + "'", line.fault(1), place);
        due("status(1) of '" + text + "'", line.status(1), 1);
    }
}
