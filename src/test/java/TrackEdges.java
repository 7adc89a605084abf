/** Boundaries of promises 20 and 21: TRACKS, biases, TELLING. */
final class TrackEdges {
    private static final int ALL = 1023;
    private static final String BOX = "floor 9 by 9;box a at 0 0 way 1;";

    private TrackEdges() {
    }

    @Edge(promise = 20, says = "The tape (it goes) tells TRACKS")
    static void theTapeGoes() {
        BlackLine x = Check.with(BOX);
        Check.tellTracks(x, 0, 0, 0);
        Check.due("behind good ones", x.feed(0, 0, 0, 0, 0), 20);
        Check.due("20 bytes", x.track(), -1);
        Check.due("behind bad ones", x.feed(0, 0, 0, 0, 0), 20);
    }

    @Edge(promise = 20, says = "1 to 16 rows of three bytes")
    static void oneToSixteenRows() {
        BlackLine x = Check.with(BOX);
        Check.due("1 row", Check.tellTracks(x, 0, 0, 0), 1);
        Check.due("2 rows", Check.tellTracks(x, 0, 0, 0, 1, 1, 0), 2);
        Check.due("16 rows", Check.tellTracks(x, new int[48]), 16);
        int[] sizes = {0, 1, 2, 4, 5, 47, 49, 50, 51, 54, 300};
        for (int k = 0; k < sizes.length; k++) {
            Check.due(sizes[k] + " bytes", Check.tellTracks(x, new int[sizes[k]]), -1);
            Check.due("status(5)", x.status(5), k + 1);
        }
    }

    @Edge(promise = 20, says = "STEPS AHEAD (0 .. 40), column, row: how many rows; NONE, refused (5), when it is none such.")
    static void rowsThatCanBe() {
        BlackLine x = Check.with("floor 4 by 3;box a at 0 0 way 1;");
        int[][] good = {{0, 0, 0}, {40, 0, 0}, {0, 3, 2}, {40, 3, 0}, {40, 0, 2}};
        for (int[] row : good) {
            Check.due("row " + row[0] + " " + row[1] + " " + row[2], Check.tellTracks(x, row), 1);
        }
        int[][] bad = {{41, 0, 0}, {255, 0, 0}, {0, 4, 0}, {0, 0, 3}, {0, 255, 0}, {0, 0, 255}, {128, 0, 0}, {0, 9, 0},
            {0, 0, 0, 41, 0, 0}, {0, 0, 0, 0, 4, 0}, {0, 0, 0, 0, 0, 3}, {0, 4, 0, 0, 0, 0}, {0, 2, 3}};
        for (int k = 0; k < bad.length; k++) {
            Check.due("bad rows " + k, Check.tellTracks(x, bad[k]), -1);
            Check.due("status(5)", x.status(5), k + 1);
        }
        int[] last = new int[48];
        last[45] = 41;
        Check.due("the 16th is bad", Check.tellTracks(x, last), -1);
        Check.due("without a floor", Check.tellTracks(new BlackLine(), 0, 0, 0), -1);
        Check.due("without BOXES", Check.tellTracks(Check.with("floor 2 by 2;"), 0, 1, 1), 1);
    }

    @Edge(promise = 21, says = "(of the latest track() of this KITCHEN that was not refused; all, if there was none)")
    static void latestThatWasNotRefused() {
        BlackLine x = Check.with(BOX);
        Check.due("none", x.wheel(0, 0), ALL);
        Check.tellTracks(x, 1, 9, 9);
        Check.due("one refused", x.wheel(0, 0), ALL);
        Check.tellTracks(x, 3, 2, 1);
        Check.due("one", x.wheel(0, 0), 4);
        Check.tellTracks(x, 0, 0, 0, 0, 0);
        Check.due("one refused behind it", x.wheel(0, 0), 4);
        Check.tellTracks(x, 2, 1, 1);
        Check.due("the latest alone", x.wheel(0, 0), 2);
        Check.read(x, "floor");
        Check.due("a KITCHEN with a FAULT", x.wheel(0, 0), 2);
        Check.read(x, BOX);
        Check.due("another KITCHEN", x.wheel(0, 0), ALL);
    }

    @Edge(promise = 21, says = "By TRACKS")
    static void byTheLastRowAndTheLastStepOfAll() {
        BlackLine x = Check.with(BOX);
        int[] rows = new int[48];
        rows[45] = 3;
        rows[46] = 2;
        rows[47] = 1;
        Check.due("16 rows", Check.tellTracks(x, rows), 16);
        Check.due("by the 16th row", x.wheel(0, 0), 4);
        Check.tellTracks(x, 40, 8, 0);
        Check.due("behind 40, at the wall or round by 8", x.wheel(0, 0), 1 + 256 + 512);
        Check.tellTracks(x, 40, 8, 1);
        Check.due("behind 40, elsewhere", x.wheel(0, 0), 0);
    }

    /** From (0, 0) to the right: a BOX turns down behind as many CELLS as its bias is. */
    @Edge(promise = 21, says = "TRACKS are rows of how many STEPS AHEAD, column, row, of one BOX: its biases (0 .. 9) by which all is so.")
    static void biasesByTracks() {
        BlackLine x = Check.with(BOX + "bias a 5;");
        for (int bias = 1; bias <= 7; bias++) {
            Check.tellTracks(x, bias + 1, bias, 1);
            Check.due("bias " + bias, x.wheel(0, 0), 1 << bias);
        }
        Check.tellTracks(x, 8, 8, 0);
        Check.due("0, 8, 9 go 8 straight on", x.wheel(0, 0), 1 + 256 + 512);
        Check.tellTracks(x, 9, 8, 1);
        Check.due("8 goes down then", x.wheel(0, 0), 256);
        Check.tellTracks(x, 0, 0, 0);
        Check.due("now", x.wheel(0, 0), ALL);
        Check.tellTracks(x, 0, 1, 0);
        Check.due("now, elsewhere", x.wheel(0, 0), 0);
        Check.tellTracks(x, 0, 0, 1);
        Check.due("now, elsewhere by its row", x.wheel(0, 0), 0);
        Check.tellTracks(x, 3, 3, 0, 5, 4, 1);
        Check.due("by both rows", x.wheel(0, 0), 16);
        Check.tellTracks(x, 5, 4, 1, 3, 2, 1);
        Check.due("by none", x.wheel(0, 0), 0);
        Check.due("bias stays", x.box(0, 7), 5);
    }

    @Edge(promise = 21, says = "biases of a BOX, as bits (what 0)")
    static void ninthBiasAndCellsGoneTo() {
        BlackLine x = Check.with(BOX);
        x.steps(8);
        x.turn(0, 2);
        Check.tellTracks(x, 2, 7, 1);
        Check.due("1, 3, 9 turn behind the 9th CELL, of which 8 were ahead of now", x.wheel(0, 0), 2 + 8 + 512);
        Check.tellTracks(x, 2, 8, 2);
        Check.due("all others go on", x.wheel(0, 0), ALL - 2 - 8 - 512);
    }

    @Edge(promise = 21, says = "TELLING (1; NONE without a bias)")
    static void tellingWithoutABias() {
        BlackLine x = Check.with(BOX);
        Check.tellTracks(x, 0, 1, 1);
        Check.due("biases", x.wheel(0, 0), 0);
        Check.due("TELLING", x.wheel(0, 1), -1);
        Check.tellTracks(x, 9, 8, 1);
        Check.due("one bias left", x.wheel(0, 0), 256);
        Check.due("TELLING of one: the least", x.wheel(0, 1), 1);
    }

    @Edge(promise = 21, says = "TELLING is how many STEPS AHEAD (1 .. 40) by whose place")
    static void tellingFromOneToForty() {
        String still = "floor 9 by 9;box a at 0 0 way 1;goes step=0 or step=";
        Check.due("told in the 40th alone", Check.with(still + "39;").wheel(0, 1), 40);
        Check.due("told in the 41st alone", Check.with(still + "40;").wheel(0, 1), 1);
    }

    @Edge(promise = 21, says = "whatever it is, the most biases left are fewest; of like ones the least.")
    static void tellingOfLikeOnes() {
        BlackLine still = Check.with("floor 2 by 2;box a at 0 0 way 1;goes 1=2;");
        Check.due("no STEP tells anything", still.wheel(0, 1), 1);
        // Behind 8 STEPS 0, 8 and 9 are on one CELL still, behind 9 and more 0 and 9 alone.
        BlackLine x = Check.with(BOX);
        Check.due("of all", x.wheel(0, 1), 9);
        Check.tellTracks(x, 7, 7, 0);
        Check.due("0, 7, 8, 9", x.wheel(0, 0), 897);
        Check.due("of these", x.wheel(0, 1), 9);
        Check.tellTracks(x, 6, 5, 1, 0, 0, 0);
        Check.due("5", x.wheel(0, 0), 32);
        Check.due("of one alone", x.wheel(0, 1), 1);
        BlackLine wall = Check.with("floor 4 by 9;box a at 0 0 way 1;");
        Check.due("behind 3 STEPS 0 and 3 .. 9, behind 4 all but 1, 2, 3", wall.wheel(0, 1), 4);
    }

    @Edge(promise = 21, says = "NONE when there is no such BOX, or for others")
    static void wheelNone() {
        BlackLine x = Check.with(BOX + "box b at 8 8 way 0;");
        Check.due("the last BOX", x.wheel(1, 0), ALL);
        int[][] none = {{2, 0}, {2, 1}, {-1, 0}, {-1, 1}, {0, 2}, {0, -1}, {1, 2}, {Integer.MIN_VALUE, 0},
            {Integer.MAX_VALUE, 1}, {0, Integer.MIN_VALUE}, {0, Integer.MAX_VALUE}};
        for (int[] a : none) {
            Check.due("wheel(" + a[0] + ", " + a[1] + ")", x.wheel(a[0], a[1]), -1);
        }
        Check.due("without a floor", new BlackLine().wheel(0, 0), -1);
    }

    @Edge(promise = 21, says = "STEPS beyond 999 are by none, and tell nothing.")
    static void beyondTheLastStep() {
        BlackLine x = Check.atStep(BOX + "power 999;goes step>989;", 990);
        Check.tellTracks(x, 9, 8, 0);
        Check.due("9 to STEP 999", x.wheel(0, 0), 1 + 512);
        Check.tellTracks(x, 8, 8, 0);
        Check.due("TELLING in the last STEP", x.wheel(0, 1), 9);
        Check.tellTracks(x, 10, 8, 0);
        Check.due("10 are by none", x.wheel(0, 0), 0);
        Check.due("and tell nothing", x.wheel(0, 1), -1);
        Check.tellTracks(x, 8, 8, 0, 10, 8, 0);
        Check.due("by none, though the other row is so", x.wheel(0, 0), 0);
        BlackLine short8 = Check.atStep(BOX + "power 999;goes step>990;", 991);
        Check.tellTracks(short8, 8, 8, 0);
        Check.due("0, 8, 9 within 8", short8.wheel(0, 0), 1 + 256 + 512);
        Check.due("the STEP that would tell is beyond", short8.wheel(0, 1), 1);
        Check.tellTracks(x, 1, 1, 0);
        Check.due("1 behind STEP 990", x.wheel(0, 0), ALL);
        x.steps(9);
        x.put(0, 0, 0);
        Check.due("1 behind STEP 999", x.wheel(0, 0), 0);
        BlackLine end = Check.atStep(BOX, 999);
        Check.due("at STEP 999, biases", end.wheel(0, 0), ALL);
        Check.due("at STEP 999, no STEP is AHEAD", end.wheel(0, 1), -1);
        Check.tellTracks(end, 0, 0, 0);
        Check.due("at STEP 999, elsewhere", end.wheel(0, 0), 0);
        Check.tellTracks(end, 0, 8, 0);
        Check.due("at STEP 999, now", end.wheel(0, 0), ALL);
        Check.tellTracks(end, 1, 8, 0);
        Check.due("1 beyond STEP 999", end.wheel(0, 0), 0);
    }
}
