/** Boundaries of promises 1 to 3: a new object, feed, end; and how many calls there are. */
final class TapeEdges {
    private static final int MOST = 1600;

    private TapeEdges() {
    }

    private static int feedZeros(BlackLine x) {
        return x.feed(0, 0, 0, 0, 0);
    }

    private static BlackLine full() {
        BlackLine x = new BlackLine();
        for (int k = 1; k <= 80; k++) {
            Check.due("feed " + k, feedZeros(x), 20 * k);
        }
        return x;
    }

    @Edge(promise = 1, says = "No floor, no BOXES")
    static void newObjectIsEmpty() {
        BlackLine x = new BlackLine();
        for (int what = 0; what < 10; what++) {
            Check.due("has(" + what + ")", x.has(what), 0);
        }
        Check.due("cell(0, 0, 0)", x.cell(0, 0, 0), -1);
        Check.due("box(0, 0)", x.box(0, 0), -1);
        Check.due("put(0, 0, 0)", x.put(0, 0, 0), false);
        Check.due("kept(0, 0)", x.kept(0, 0), -1);
        Check.due("octet(0)", x.octet(0), -1);
    }

    @Edge(promise = 1, says = "the seed is 1.")
    static void newSeed() {
        BlackLine x = new BlackLine();
        Check.due("has(10)", x.has(10), 1);
        x.chance(1);
        Check.due("has(10) behind a DRAW", x.has(10), 1103527590);
    }

    @Edge(promise = 1, says = "The constants: `NONE = -1`: None; refused.")
    static void none() {
        Check.due("NONE", BlackLine.NONE, -1);
    }

    @Edge(promise = 1, says = "at most 512 calls after it has been made")
    static void theLastCallIsAnsweredToo() {
        BlackLine x = new BlackLine();
        for (int k = 1; k < 512; k++) {
            Check.due("call " + k, x.end(k), false);
        }
        Check.due("call 512", x.status(0), 511);
    }

    @Edge(promise = 2, says = "Twenty bytes come behind those on the tape")
    static void behindThoseOnTheTape() {
        BlackLine x = new BlackLine();
        Check.due("onto an empty tape", x.feed(0x666c6f00, 0, 0, 0, 0), 20);
        Check.due("onto a full row", feedZeros(x), 40);
        x.end(3);
        Check.due("onto 3", x.feed(0x6f722032, 0x20627920, 0x323b0000, 0, 0), 23);
        x.end(13);
        Check.due("'flo' and 'or 2 by 2;'", x.kitchen(), 1);
    }

    /** The IMAGE 3, 231, 9, 20 of STEP 999; its second byte as the highest of a number makes that negative. */
    @Edge(promise = 2, says = "of each number the highest first")
    static void highestByteFirst() {
        BlackLine x = new BlackLine();
        x.feed(0x03e70914, 0, 0, 0, 0);
        x.end(4);
        Check.due("one number", x.on(), true);
        Check.due("its STEP", x.has(4), 999);
        Check.due("its lamp", x.has(5), 9);
        BlackLine y = new BlackLine();
        y.feed(0x03000000, 0, 0, 0, 0);
        y.end(1);
        Check.due("behind 1", y.feed(0xe7091400, 0, 0, 0, 0), 21);
        y.end(4);
        Check.due("a number below 0", y.on(), true);
        Check.due("its STEP, too", y.has(4), 999);
    }

    @Edge(promise = 2, says = "how many there are")
    static void upToTheLastByte() {
        BlackLine x = full();
        x.end(MOST - 20);
        Check.due("onto 1580", feedZeros(x), MOST);
        Check.due("all are there", x.end(MOST), true);
        Check.due("none was refused", x.status(0), 0);
    }

    @Edge(promise = 2, says = "NONE, refused (0), if there would be more than 1600")
    static void moreThanTheTapeHolds() {
        BlackLine x = full();
        Check.due("onto 1600", feedZeros(x), -1);
        Check.due("status(0)", x.status(0), 1);
        Check.due("1600 stay", x.end(MOST), true);
        x.end(MOST - 19);
        Check.due("onto 1581", feedZeros(x), -1);
        Check.due("status(0), two", x.status(0), 2);
        Check.due("1582 are not there", x.end(MOST - 18), false);
        Check.due("1581 stay", x.end(MOST - 19), true);
    }

    @Edge(promise = 3, says = "The tape has its first n bytes alone: true")
    static void firstBytesAlone() {
        BlackLine x = new BlackLine();
        Check.due("none of none", x.end(0), true);
        feedZeros(x);
        Check.due("all", x.end(20), true);
        Check.due("behind all", feedZeros(x), 40);
        Check.due("all but one", x.end(39), true);
        Check.due("behind all but one", feedZeros(x), 59);
        Check.due("none", x.end(0), true);
        Check.due("behind none", feedZeros(x), 20);
        Check.due("status(0)", x.status(0), 0);
    }

    @Edge(promise = 3, says = "false, refused (0), if it has not so many")
    static void notSoMany() {
        BlackLine x = new BlackLine();
        Check.due("1 of none", x.end(1), false);
        feedZeros(x);
        Check.due("21 of 20", x.end(21), false);
        Check.due("the greatest number", x.end(Integer.MAX_VALUE), false);
        Check.due("status(0)", x.status(0), 3);
        Check.due("20 stay", feedZeros(x), 40);
    }

    @Edge(promise = 3, says = "or n is below 0")
    static void belowNone() {
        BlackLine x = new BlackLine();
        feedZeros(x);
        Check.due("end(-1)", x.end(-1), false);
        Check.due("the least number", x.end(Integer.MIN_VALUE), false);
        Check.due("status(0)", x.status(0), 2);
        Check.due("20 stay", feedZeros(x), 40);
    }
}
