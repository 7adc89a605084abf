/** Promises 30 to 32: IMAGES written, told, taken. */
public final class ImageTest {
    private static final String TEXT = "floor 5 by 4;grey 0 0 9;box a at 1 0 way 2;box b at 3 3 way 0;bias b 2;power 300;lamp 1;";
    /** Of TEXT, as it is at first. */
    private static final int[] FIRST = {0, 0, 1, 1, 0, 2, 1, 44, 0, 0, 0, 3, 3, 0, 1, 44, 0, 0, 0, 0};

    public static void main(String[] args) {
        withoutFloor();
        written();
        taken();
        limits();
        refusals();
        cellsGoneTo();
        Check.finish();
    }

    private static int[] changed(int at, int value) {
        int[] bytes = FIRST.clone();
        bytes[at] = value;
        return Check.closedImage(bytes);
    }

    private static void withoutFloor() {
        BlackLine x = new BlackLine();
        Check.due("bytes", x.image(), 4);
        // 179, 895 mod 251 = 142, 710 mod 251 = 208, 1040 mod 251 = 36
        int[] due = {0, 0, 0, 36, -1};
        for (int k = 0; k < due.length; k++) {
            Check.due("octet " + k, x.octet(k), due[k]);
        }
        Check.due("octet -1", x.octet(-1), -1);
        Check.due("taken", Check.takeImage(x, Check.closedImage(3, 231, 9, 0)), true);
        Check.due("step", x.has(4), 999);
        Check.due("lamp", x.has(5), 9);
        Check.due("nothing", Check.takeImage(x), false);
    }

    private static void written() {
        BlackLine x = Check.with(TEXT);
        int[] due = Check.closedImage(FIRST.clone());
        Check.due("bytes", x.image(), 20);
        for (int k = 0; k < 20; k++) {
            Check.due("octet " + k, x.octet(k), due[k]);
        }
        Check.due("octet 20", x.octet(20), -1);
        x.steps(3);
        x.put(0, 4, 3);
        Check.due("of the latest image()", x.octet(1), 0);
        x.image();
        int[] later = Check.closedImage(0, 3, 1, 4, 3, 2, 1, 41, 3, 0, 3, 4, 1, 1, 1, 41, 3, 0, 3, 0);
        for (int k = 0; k < 20; k++) {
            Check.due("later, octet " + k, x.octet(k), later[k]);
        }
        Check.read(x, "floor 2 by 2;");
        Check.due("still the latest", x.octet(1), 3);
    }

    private static void taken() {
        BlackLine x = Check.with(TEXT);
        x.steps(5);
        x.seed(9);
        Check.feedBytes(x, 0, 4, 2);
        x.track();
        int[] bytes = Check.closedImage(2, 7, 6, 4, 2, 3, 3, 231, 99, 9, 215, 0, 1, 1, 0, 0, 5, 1, 0, 0);
        Check.due("taken", Check.takeImage(x, bytes), true);
        Check.due("step", x.has(4), 519);
        Check.due("lamp", x.has(5), 6);
        int[][] due = {{4, 2, 3, 999, 99, 1, 1, 0}, {0, 1, 1, 0, 5, 1, 1, 2}};
        for (int box = 0; box < 2; box++) {
            for (int what = 0; what < 8; what++) {
                Check.due("box(" + box + ", " + what + ")", x.box(box, what), due[box][what]);
            }
        }
        Check.due("nothing kept", x.has(8), 0);
        Check.due("no act", x.has(9), 0);
        Check.due("seed", x.has(10), 9);
        Check.due("tracks stay", x.wheel(1, 0), 0);
        Check.due("tracks of a", x.wheel(0, 0), 1023);
        x.image();
        for (int k = 0; k < 20; k++) {
            Check.due("written again, octet " + k, x.octet(k), bytes[k]);
        }
        Check.due("places changed about", Check.takeImage(x, Check.closedImage(0, 0, 0, 0, 1, 0, 0, 1, 0, 0, 0, 4, 2, 0, 0, 1, 0, 0, 0, 0)), true);
        Check.due("a", x.cell(0, 1, 2), 0);
        Check.due("b", x.cell(4, 2, 2), 1);
    }

    private static void limits() {
        int[][] greatest = {{2, 9, 10}, {3, 4, 5}, {4, 2, 4}, {5, 3, 4}, {8, 99, 100}, {16, 99, 100}};
        for (int[] row : greatest) {
            Check.due("byte " + row[0] + " is " + row[1], Check.takeImage(Check.with(TEXT), changed(row[0], row[1])), true);
            Check.due("byte " + row[0] + " is " + row[2], Check.takeImage(Check.with(TEXT), changed(row[0], row[2])), false);
        }
        int[][] pairs = {{0, 3, 231}, {6, 3, 231}, {9, 9, 215}, {17, 9, 215}};
        for (int[] row : pairs) {
            int[] bytes = FIRST.clone();
            bytes[row[0]] = row[1];
            bytes[row[0] + 1] = row[2];
            Check.due("pair " + row[0] + " at most", Check.takeImage(Check.with(TEXT), Check.closedImage(bytes)), true);
            bytes[row[0] + 1]++;
            Check.due("pair " + row[0] + " above", Check.takeImage(Check.with(TEXT), Check.closedImage(bytes)), false);
        }
    }

    private static void refusals() {
        BlackLine x = Check.with(TEXT);
        x.steps(2);
        x.image();
        int[] before = new int[20];
        for (int k = 0; k < 20; k++) {
            before[k] = x.octet(k);
        }
        int[] wrongEnd = Check.closedImage(FIRST.clone());
        wrongEnd[19]++;
        Check.due("its last byte", Check.takeImage(x, wrongEnd), false);
        Check.due("too short", Check.takeImage(x, Check.closedImage(new int[12])), false);
        Check.due("too long", Check.takeImage(x, Check.closedImage(java.util.Arrays.copyOf(FIRST, 21))), false);
        int[] onOne = FIRST.clone();
        onOne[11] = 1;
        onOne[12] = 0;
        Check.due("two on one cell", Check.takeImage(x, Check.closedImage(onOne)), false);
        Check.due("the last box alone is bad", Check.takeImage(x, changed(13, 7)), false);
        Check.due("refused", x.status(5), 5);
        Check.due("acts stay", x.has(9), 1);
        x.image();
        for (int k = 0; k < 20; k++) {
            Check.due("all stays, octet " + k, x.octet(k), before[k]);
        }
        x.feed(0, 0, 0, 0, 0);
        x.on();
        Check.due("the tape is gone", x.feed(0, 0, 0, 0, 0), 20);
    }

    private static void cellsGoneTo() {
        BlackLine x = Check.with("floor 9 by 9;box a at 4 4 way 0;bias a 7;");
        Check.due("one short of all round", Check.takeImage(x, Check.closedImage(0, 0, 0, 4, 4, 0, 1, 0, 0, 9, 215, 0)), true);
        x.steps(1);
        Check.due("the 2520th is a 7th", x.box(0, 2), 1);
        x.image();
        Check.due("0 again, higher", x.octet(9), 0);
        Check.due("0 again, lower", x.octet(10), 0);
        Check.due("six cells on", Check.takeImage(x, Check.closedImage(0, 0, 0, 4, 4, 0, 1, 0, 0, 0, 5, 0)), true);
        x.steps(1);
        Check.due("the sixth turns not", x.box(0, 2), 0);
        x.steps(1);
        Check.due("the seventh does", x.box(0, 2), 1);
    }
}
