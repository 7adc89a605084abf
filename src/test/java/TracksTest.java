/** Promises 20, 21: TRACKS, biases, TELLING. */
public final class TracksTest {
    public static void main(String[] args) {
        rows();
        biases();
        telling();
        latest();
        beyondTheLastStep();
        Check.finish();
    }

    private static void rows() {
        BlackLine x = Check.with("floor 4 by 3;box a at 0 0 way 1;");
        Check.due("no row", Check.tellTracks(x), -1);
        Check.due("one row", Check.tellTracks(x, 40, 3, 2), 1);
        Check.due("41 steps", Check.tellTracks(x, 41, 3, 2), -1);
        Check.due("no such column", Check.tellTracks(x, 1, 4, 2), -1);
        Check.due("no such row", Check.tellTracks(x, 1, 3, 3), -1);
        Check.due("two bytes", Check.tellTracks(x, 1, 3), -1);
        Check.due("four bytes", Check.tellTracks(x, 1, 3, 2, 0), -1);
        Check.due("sixteen rows", Check.tellTracks(x, new int[48]), 16);
        Check.due("seventeen rows", Check.tellTracks(x, new int[51]), -1);
        Check.due("the second has 41 steps", Check.tellTracks(x, 0, 0, 0, 41, 0, 0), -1);
        Check.due("the second has 40 steps", Check.tellTracks(x, 0, 0, 0, 40, 3, 0), 2);
        Check.due("the last row is bad", Check.tellTracks(x, 0, 0, 0, 0, 0, 200), -1);
        Check.due("refused", x.status(5), 9);
        Check.due("no floor", Check.tellTracks(new BlackLine(), 0, 0, 0), -1);
        x.feed(0, 0, 0, 0, 0);
        x.track();
        Check.due("the tape is gone", x.feed(0, 0, 0, 0, 0), 20);
    }

    /** On a wide floor a BOX with bias b turns right behind b, 2 b, .. CELLS. */
    private static void biases() {
        BlackLine x = Check.with("floor 9 by 9;box a at 0 0 way 1;box b at 8 8 way 0;bias a 4;");
        Check.due("all without tracks", x.wheel(0, 0), 1023);
        Check.tellTracks(x, 0, 0, 0);
        Check.due("all by where it stands", x.wheel(0, 0), 1023);
        Check.due("none of the other", x.wheel(1, 0), 0);
        Check.tellTracks(x, 3, 3, 0);
        Check.due("straight on for 3", x.wheel(0, 0), 1023 - 2 - 4);
        Check.tellTracks(x, 3, 2, 1);
        Check.due("turned behind 2", x.wheel(0, 0), 4);
        Check.tellTracks(x, 3, 3, 0, 5, 4, 1);
        Check.due("turned behind 4", x.wheel(0, 0), 16);
        Check.tellTracks(x, 8, 8, 0);
        Check.due("straight on for 8", x.wheel(0, 0), 1 + 256 + 512);
        Check.tellTracks(x, 3, 3, 0, 3, 2, 1);
        Check.due("no bias by both", x.wheel(0, 0), 0);
        Check.due("no telling without a bias", x.wheel(0, 1), -1);
        Check.due("what 2", x.wheel(0, 2), -1);
        Check.due("what -1", x.wheel(0, -1), -1);
        Check.due("no box", x.wheel(2, 0), -1);
        Check.due("box -1", x.wheel(-1, 0), -1);
        x.steps(2);
        Check.tellTracks(x, 2, 4, 0, 3, 4, 1);
        Check.due("cells gone to count on: the fourth is the second of 2, too", x.wheel(0, 0), 4 + 16);
    }

    private static void telling() {
        BlackLine x = Check.with("floor 9 by 9;box a at 0 0 way 1;");
        Check.tellTracks(x, 1, 1, 0, 2, 2, 0, 3, 3, 0, 5, 4, 1);
        Check.due("one bias left: at once", x.wheel(0, 0), 16);
        Check.due("telling", x.wheel(0, 1), 1);
        Check.tellTracks(x, 8, 8, 0);
        Check.due("0, 8 and 9 left", x.wheel(0, 0), 769);
        Check.due("8 turns down at last, the others stay", x.wheel(0, 1), 9);
        Check.tellTracks(x, 4, 4, 0);
        Check.due("0 and 4 .. 9 left", x.wheel(0, 0), 1009);
        BlackLine still = Check.with("floor 9 by 9;box a at 0 0 way 1;goes 1=2;");
        Check.due("nothing tells: the least", still.wheel(0, 1), 1);
        BlackLine late = Check.with("floor 9 by 9;box a at 4 4 way 1;goes step>38;steers 0;");
        Check.tellTracks(late, 40, 5, 4);
        Check.due("all left", late.wheel(0, 0), 1023);
        Check.due("not told within 40", late.wheel(0, 1), 1);
    }

    private static void latest() {
        BlackLine x = Check.with("floor 9 by 9;box a at 0 0 way 1;");
        Check.tellTracks(x, 3, 2, 1);
        Check.due("refused", Check.tellTracks(x, 3, 9, 9), -1);
        Check.due("the one before counts", x.wheel(0, 0), 4);
        x.turn(0, 2);
        Check.due("from now on", x.wheel(0, 0), 0);
        x.undo();
        Check.due("as before", x.wheel(0, 0), 4);
        Check.due("a new one", Check.tellTracks(x, 0, 0, 0), 1);
        Check.due("it alone", x.wheel(0, 0), 1023);
    }

    private static void beyondTheLastStep() {
        BlackLine x = Check.with("floor 9 by 9;box a at 0 0 way 1;power 999;goes step>989;");
        for (int k = 0; k < 9; k++) {
            x.steps(100);
        }
        x.steps(90);
        Check.due("step", x.has(4), 990);
        Check.tellTracks(x, 9, 8, 0);
        Check.due("nine steps, of which 8 goes down in the last", x.wheel(0, 0), 1 + 512);
        Check.tellTracks(x, 8, 8, 0);
        Check.due("telling by the last", x.wheel(0, 1), 9);
        Check.tellTracks(x, 10, 8, 0);
        Check.due("ten steps are by none", x.wheel(0, 0), 0);
        Check.due("nor told", x.wheel(0, 1), -1);
        x.steps(9);
        Check.tellTracks(x, 0, 8, 0);
        Check.due("at 999", x.wheel(0, 0), 1023);
        Check.due("at 999 nothing tells", x.wheel(0, 1), -1);
    }
}
