import java.util.Arrays;

/** Boundaries of promises 30 to 32: IMAGES written and taken. */
final class ImageEdges {
    private static final String TWO = "floor 5 by 4;box a at 1 0 way 2;box b at 3 3 way 0;bias b 2;power 300;lamp 1;";
    /** Of TWO as it is at first; its last byte is yet to be told. */
    private static final int[] FIRST = {0, 0, 1, 1, 0, 2, 1, 44, 0, 0, 0, 3, 3, 0, 1, 44, 0, 0, 0, 0};

    private ImageEdges() {
    }

    /** FIRST with two bytes, one behind the other, set otherwise. */
    private static int[] changed(int at, int one, int next) {
        int[] bytes = FIRST.clone();
        bytes[at] = one;
        bytes[at + 1] = next;
        return Check.closedImage(bytes);
    }

    private static int[] changed(int at, int one) {
        return changed(at, one, FIRST[at + 1]);
    }

    private static void dueBytes(String what, BlackLine x, int... bytes) {
        for (int k = 0; k < bytes.length; k++) {
            Check.due(what + ", octet(" + k + ")", x.octet(k), bytes[k]);
        }
        Check.due(what + ", behind them", x.octet(bytes.length), -1);
    }

    @Edge(promise = 30, says = "AN IMAGE is written: how many bytes.")
    static void howManyBytes() {
        Check.due("without a floor", new BlackLine().image(), 4);
        StringBuilder s = new StringBuilder("floor 9 by 9;");
        for (int k = 0; k <= 6; k++) {
            Check.due(k + " BOXES", Check.with(s.toString()).image(), 4 + 8 * k);
            s.append("box ").append((char) ('a' + k)).append(" at ").append(k).append(" 8 way 0;");
        }
    }

    @Edge(promise = 30, says = "for each BOX column, row, WAY, power (two bytes), for how many STEPS LOST")
    static void bytesOfTheBoxes() {
        BlackLine x = Check.with(TWO);
        x.image();
        dueBytes("at first", x, Check.closedImage(FIRST.clone()));
        x.steps(100);
        x.steps(55);
        x.image();
        // a goes down to the wall, b up and round to the right: (3, 2), (3, 1), (4, 1), then the wall.
        dueBytes("behind 155", x, Check.closedImage(0, 155, 1, 1, 3, 2, 0, 145, 99, 0, 3, 4, 1, 1, 0, 145, 99, 0, 3, 0));
    }

    @Edge(promise = 30, says = "STEP (two bytes, the higher first), the lamp")
    static void bytesOfTheStep() {
        BlackLine x = Check.with("floor 2 by 2;lamp 9;");
        int[] steps = {0, 255, 256, 512, 999};
        for (int step : steps) {
            Check.toStep(x, step);
            x.image();
            dueBytes("STEP " + step, x, Check.closedImage(step / 256, step % 256, 9, 0));
        }
    }

    @Edge(promise = 30, says = "how many CELLS it went to, modulo 9 times 8 times 7 times 5 (two bytes)")
    static void cellsGoneToModulo() {
        BlackLine x = Check.with("floor 9 by 9;box a at 4 4 way 0;bias a 9;");
        Check.takeImage(x, Check.closedImage(0, 0, 0, 4, 4, 0, 1, 0, 0, 9, 214, 0));
        x.steps(1);
        x.image();
        dueBytes("2519", x, Check.closedImage(0, 1, 0, 4, 3, 0, 0, 255, 1, 9, 215, 0));
        x.steps(1);
        x.image();
        dueBytes("2520 is 0, a 9th CELL", x, Check.closedImage(0, 2, 0, 4, 2, 1, 0, 254, 2, 0, 0, 0));
        x.steps(1);
        x.image();
        dueBytes("2521 is 1", x, Check.closedImage(0, 3, 0, 5, 2, 1, 0, 253, 3, 0, 1, 0));
    }

    @Edge(promise = 30, says = "last a byte: all ahead from 179 on, c = (5 c + it) mod 251")
    static void lastByte() {
        BlackLine x = new BlackLine();
        x.image();
        // 179, 895 mod 251 = 142, 710 mod 251 = 208, 1040 mod 251 = 36
        dueBytes("0, 0, 0", x, 0, 0, 0, 36);
        Check.toStep(x, 999);
        x.shine(9);
        x.image();
        // 179, 898 mod 251 = 145, 956 mod 251 = 203, 1024 mod 251 = 20
        dueBytes("3, 231, 9", x, 3, 231, 9, 20);
    }

    @Edge(promise = 31, says = "Byte k of the latest image(); NONE when there is none such.")
    static void ofTheLatestImage() {
        BlackLine x = Check.with(TWO);
        Check.due("ahead of any", x.octet(0), -1);
        x.image();
        x.steps(1);
        Check.due("of the one behind which a STEP went by", x.octet(1), 0);
        x.image();
        Check.due("of the next one", x.octet(1), 1);
        Check.due("its last byte", x.octet(19) >= 0, true);
        int[] none = {20, -1, 51, 52, Integer.MIN_VALUE, Integer.MAX_VALUE};
        for (int k : none) {
            Check.due("octet(" + k + ")", x.octet(k), -1);
        }
        Check.read(x, "floor 2 by 2;");
        Check.due("still the latest", x.octet(1), 1);
        x.image();
        Check.due("a shorter one", x.octet(4), -1);
    }

    @Edge(promise = 32, says = "The tape (it goes) is AN IMAGE of this KITCHEN: true, all is as it tells")
    static void allIsAsItTells() {
        BlackLine x = Check.with(TWO);
        Check.due("taken", Check.takeImage(x, Check.closedImage(2, 7, 6, 4, 2, 3, 3, 231, 99, 9, 215, 0, 1, 1, 0, 0, 5, 1, 0, 0)), true);
        Check.due("the tape goes", x.feed(0, 0, 0, 0, 0), 20);
        Check.due("STEP", x.has(4), 519);
        Check.due("lamp", x.has(5), 6);
        Check.dueBox("a", x, 0, 4, 2, 3, 999, 99, 1, 1, 0);
        Check.dueBox("b", x, 1, 0, 1, 1, 0, 5, 1, 1, 2);
        x.image();
        Check.due("CELLS gone to, higher", x.octet(9), 9);
        Check.due("CELLS gone to, lower", x.octet(10), 215);
        Check.due("none refused", x.status(5), 0);
        Check.due("without a floor", Check.takeImage(new BlackLine(), Check.closedImage(3, 231, 9, 0)), true);
    }

    @Edge(promise = 32, says = "nothing is KEPT, no ACT can be undone")
    static void nothingToUndo() {
        BlackLine x = Check.with(TWO);
        x.steps(2);
        x.shine(4);
        x.seed(9);
        Check.feedBytes(x, 0, 4, 2);
        x.track();
        Check.takeImage(x, Check.closedImage(FIRST.clone()));
        Check.due("KEPT", x.has(8), 0);
        Check.due("kept(0, 0)", x.kept(0, 0), -1);
        Check.due("ACTS", x.has(9), 0);
        Check.due("undo()", x.undo(), false);
        Check.due("the seed stays", x.has(10), 9);
        Check.due("TRACKS stay", x.wheel(0, 0), 0);
        x.steps(1);
        Check.due("KEPT anew", x.kept(0, 0), 0);
        Check.due("undo() anew", x.undo(), true);
    }

    @Edge(promise = 32, says = "false, refused (5), all staying, if it is none such")
    static void allStays() {
        BlackLine x = Check.with(TWO);
        x.steps(3);
        x.seed(9);
        x.image();
        int[] before = new int[20];
        for (int k = 0; k < 20; k++) {
            before[k] = x.octet(k);
        }
        int[] last = Check.closedImage(FIRST.clone());
        last[19]++;
        int[][] bad = {{}, {0}, Check.closedImage(0, 0, 1, 0), firstOf(12), firstOf(19), firstOf(21), firstOf(28),
            last, changed(2, 10), changed(3, 9), changed(17, 9, 216), changed(13, 4)};
        for (int k = 0; k < bad.length; k++) {
            Check.due("bad " + k, Check.takeImage(x, bad[k]), false);
            Check.due("status(5)", x.status(5), k + 1);
            x.image();
            dueBytes("stays, bad " + k, x, before);
        }
        Check.due("the tape goes", x.feed(0, 0, 0, 0, 0), 20);
        Check.due("KEPT", x.has(8), 6);
        Check.due("ACTS", x.has(9), 1);
        Check.due("the seed", x.has(10), 9);
    }

    /** So many bytes of an IMAGE, or so many more, with a last byte that fits them. */
    private static int[] firstOf(int size) {
        return Check.closedImage(Arrays.copyOf(FIRST, size));
    }

    @Edge(promise = 32, says = "STEP, power 999, lamp 9, WAY 3, LOST 99, CELLS gone to 2519 at most")
    static void greatest() {
        int[][] bytes = {{2, 9}, {5, 3}, {13, 3}, {8, 99}, {16, 99}};
        for (int[] row : bytes) {
            Check.due("byte " + row[0] + " is " + row[1], Check.takeImage(Check.with(TWO), changed(row[0], row[1])), true);
            Check.due("byte " + row[0] + " is one more", Check.takeImage(Check.with(TWO), changed(row[0], row[1] + 1)), false);
            Check.due("byte " + row[0] + " is 255", Check.takeImage(Check.with(TWO), changed(row[0], 255)), false);
        }
        int[][] pairs = {{0, 3, 231}, {6, 3, 231}, {14, 3, 231}, {9, 9, 215}, {17, 9, 215}};
        for (int[] row : pairs) {
            String pair = "bytes " + row[0] + " and on are ";
            Check.due(pair + "at most", Check.takeImage(Check.with(TWO), changed(row[0], row[1], row[2])), true);
            Check.due(pair + "one more", Check.takeImage(Check.with(TWO), changed(row[0], row[1], row[2] + 1)), false);
            Check.due(pair + "256 more", Check.takeImage(Check.with(TWO), changed(row[0], row[1] + 1, 0)), false);
            Check.due(pair + "255, 255", Check.takeImage(Check.with(TWO), changed(row[0], 255, 255)), false);
        }
    }

    @Edge(promise = 32, says = "CELLS that there are, no two BOXES on one")
    static void cellsThatThereAre() {
        int[][] good = {{3, 4, 3}, {3, 0, 0}, {11, 4, 3}, {11, 0, 0}, {3, 3, 2}, {3, 4, 0}};
        for (int[] row : good) {
            Check.due("byte " + row[0] + " on " + row[1] + ", " + row[2],
                    Check.takeImage(Check.with(TWO), changed(row[0], row[1], row[2])), true);
        }
        int[][] bad = {{3, 5, 0}, {3, 0, 4}, {3, 255, 0}, {3, 0, 255}, {11, 5, 0}, {11, 0, 4}, {3, 3, 3}, {11, 1, 0}};
        for (int[] row : bad) {
            Check.due("byte " + row[0] + " on " + row[1] + ", " + row[2],
                    Check.takeImage(Check.with(TWO), changed(row[0], row[1], row[2])), false);
        }
        BlackLine x = Check.with(TWO);
        int[] changedAbout = FIRST.clone();
        changedAbout[3] = 3;
        changedAbout[4] = 3;
        changedAbout[11] = 1;
        changedAbout[12] = 0;
        Check.due("each where the other one stands", Check.takeImage(x, Check.closedImage(changedAbout)), true);
        Check.due("a", x.cell(3, 3, 2), 0);
        Check.due("b", x.cell(1, 0, 2), 1);
    }
}
