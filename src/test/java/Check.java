import java.nio.charset.StandardCharsets;
import java.util.Arrays;

/** What the tests share: answers that are due, and texts put onto the tape. */
final class Check {
    private static int made = 0;
    private static int wrong = 0;
    private static String about = "";

    private Check() {
    }

    /** What stands ahead of each wrong answer told from now on. */
    static void about(String label) {
        about = label;
    }

    static void due(String what, long got, long want) {
        made++;
        if (got != want) {
            wrong++;
            System.out.println(about + what + " answered " + got + ", due is " + want);
        }
    }

    static void due(String what, boolean got, boolean want) {
        due(what, got ? 1 : 0, want ? 1 : 0);
    }

    /** Ends the test: with exit code 1, if an answer was not the one that was due. */
    static void finish() {
        System.out.println(made + " answers looked at, " + wrong + " wrong");
        if (wrong > 0 || made == 0) {
            System.exit(1);
        }
    }

    static void feedBytes(BlackLine line, int... bytes) {
        int before = line.feed(0, 0, 0, 0, 0) - 20;
        due("the tape is empty ahead of a text", before, 0);
        line.end(0);
        int[] padded = Arrays.copyOf(bytes, (bytes.length + 19) / 20 * 20);
        for (int k = 0; k < padded.length; k += 20) {
            line.feed(word(padded, k), word(padded, k + 4), word(padded, k + 8),
                    word(padded, k + 12), word(padded, k + 16));
        }
        line.end(bytes.length);
    }

    static int word(int[] bytes, int at) {
        return bytes[at] << 24 | bytes[at + 1] << 16 | bytes[at + 2] << 8 | bytes[at + 3];
    }

    static int[] bytesOf(String text) {
        byte[] signs = text.getBytes(StandardCharsets.ISO_8859_1);
        int[] bytes = new int[signs.length];
        for (int k = 0; k < signs.length; k++) {
            bytes[k] = signs[k] & 255;
        }
        return bytes;
    }

    static int read(BlackLine line, String text) {
        feedBytes(line, bytesOf(text));
        return line.kitchen();
    }

    /** A new object with this KITCHEN, which is to have no FAULT. */
    static BlackLine with(String text) {
        BlackLine line = new BlackLine();
        int statements = read(line, text);
        if (statements < 0) {
            due("fault " + line.fault(0) + " at " + line.fault(1) + " in " + text, statements, 0);
        }
        return line;
    }

    /** STEPS go by until so many have gone by since the KITCHEN began. */
    static void toStep(BlackLine line, int step) {
        while (line.has(4) + 100 <= step && line.steps(100) >= 0) {
            continue;
        }
        if (line.has(4) < step) {
            line.steps(step - line.has(4));
        }
        due("STEP", line.has(4), step);
    }

    /** A new object with this KITCHEN, so many STEPS later. */
    static BlackLine atStep(String text, int step) {
        BlackLine line = with(text);
        toStep(line, step);
        return line;
    }

    static int tellTracks(BlackLine line, int... bytes) {
        feedBytes(line, bytes);
        return line.track();
    }

    static boolean takeImage(BlackLine line, int... bytes) {
        feedBytes(line, bytes);
        return line.on();
    }

    /** The last byte is set as the document tells the last byte of an IMAGE. */
    static int[] closedImage(int... bytes) {
        int c = 179;
        for (int k = 0; k < bytes.length - 1; k++) {
            c = (5 * c + bytes[k]) % 251;
        }
        bytes[bytes.length - 1] = c;
        return bytes;
    }

    static void dueBox(String what, BlackLine line, int box, int... due) {
        for (int k = 0; k < due.length; k++) {
            due(what + ", box(" + box + ", " + k + ")", line.box(box, k), due[k]);
        }
    }

    static void dueFault(String text, int kind, int place) {
        BlackLine line = new BlackLine();
        due("kitchen() of '" + text + "'", read(line, text), -1);
        due("fault(0) of '" + text + "'", line.fault(0), kind);
        due("fault(1) of '" + text + "'", line.fault(1), place);
        due("status(1) of '" + text + "'", line.status(1), 1);
    }
}
