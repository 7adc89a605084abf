/** Boundaries of promises 11 to 19: what is asked of STEPS AHEAD. */
final class AheadEdges {
    private static final int LEAST = Integer.MIN_VALUE;
    private static final int GREATEST = Integer.MAX_VALUE;
    /** A BOX that goes round in a square of four CELLS. */
    private static final String RING = "floor 9 by 9;box a at 4 4 way 1;bias a 1;";
    /** BOX 0 goes round; BOX 1 stands before a wall. */
    private static final String WALL = RING + "box b at 0 0 way 0;";

    private AheadEdges() {
    }

    // ---- later

    @Edge(promise = 11, says = "Behind n STEPS AHEAD (0 .. 80)")
    static void laterFromNowToEighty() {
        BlackLine x = Check.with(RING);
        int[][] due = {{4, 4, 1, 0, 0}, {5, 4, 2, 1, 0}, {5, 5, 3, 2, 0}, {4, 5, 0, 3, 0}, {4, 4, 1, 4, 0}};
        for (int n = 0; n < due.length; n++) {
            for (int what = 0; what < 5; what++) {
                Check.due("later(0, " + n + ", " + what + ")", x.later(0, n, what), due[n][what]);
            }
        }
        Check.due("LOST, now", x.later(0, 0, 3), 0);
        Check.due("LOST, behind 80", x.later(0, 80, 3), 80);
        int[] others = {81, -1, LEAST, GREATEST};
        for (int n : others) {
            Check.due("later(0, " + n + ", 0)", x.later(0, n, 0), -1);
        }
    }

    @Edge(promise = 11, says = "4 in how many of them it was BLOCKED")
    static void laterBlocked() {
        BlackLine x = Check.with(WALL);
        Check.due("now", x.later(1, 0, 4), 0);
        Check.due("in 1", x.later(1, 1, 4), 1);
        Check.due("in 80", x.later(1, 80, 4), 80);
        Check.due("BOX 0, in 80", x.later(0, 80, 4), 0);
        x.steps(7);
        Check.due("those that went by are none of them", x.later(1, 0, 4), 0);
        Check.due("in 2 behind 7", x.later(1, 2, 4), 2);
        x.undo();
        Check.due("in 3, undone", x.later(1, 3, 4), 3);
    }

    @Edge(promise = 11, says = "NONE when n can't be, there is no such BOX, or for others.")
    static void laterNone() {
        BlackLine x = Check.with(WALL);
        int[][] none = {{2, 0, 0}, {-1, 0, 0}, {LEAST, 0, 0}, {GREATEST, 0, 0}, {0, 0, 5}, {0, 0, -1}, {0, 0, 9},
            {0, 0, LEAST}, {0, 0, GREATEST}, {0, 81, 4}, {0, -1, 4}};
        for (int[] a : none) {
            Check.due("later(" + a[0] + ", " + a[1] + ", " + a[2] + ")", x.later(a[0], a[1], a[2]), -1);
        }
        Check.due("without a floor", new BlackLine().later(0, 0, 0), -1);
        BlackLine late = Check.atStep(WALL, 990);
        Check.due("9 behind STEP 990", late.later(0, 9, 0), 4);
        Check.due("10 behind STEP 990", late.later(0, 10, 0), -1);
        late.steps(9);
        Check.due("0 behind STEP 999", late.later(0, 0, 0), 4);
        Check.due("1 behind STEP 999", late.later(0, 1, 0), -1);
    }

    @Edge(promise = 11, says = "AHEAD are STEPS as they come from now on without DRAWS (80 at most, not beyond STEP 999).")
    static void aheadWithoutDraws() {
        BlackLine x = Check.with(WALL + "cat 100;");
        Check.due("later", x.later(0, 4, 2), 1);
        Check.due("round", x.round(0), 4);
        Check.due("loses", x.loses(0, 80), 80);
        Check.due("gap", x.gap(0, 1, 80), 8);
        Check.due("spaced", x.spaced(2), 2);
        Check.due("wheel", x.wheel(0, 0), 1023);
        Check.due("no DRAW", x.has(10), 1);
        Check.due("no STEP", x.has(4), 0);
        Check.due("no ACT", x.has(9), 0);
        Check.due("nothing KEPT", x.has(8), 0);
    }

    // ---- round

    @Edge(promise = 12, says = "ROUND: behind how many STEPS AHEAD (1 .. 80); NONE when it is not, or there is none such.")
    static void roundFromOneToEighty() {
        String still = "floor 2 by 2;box a at 0 0 way 0;goes 1=2;steers ";
        Check.due("standing: 1", Check.with(still + "0;").round(0), 1);
        Check.due("BLOCKED: 1", Check.with("floor 2 by 2;box a at 0 0 way 0;").round(0), 1);
        Check.due("without power: 1", Check.with("floor 2 by 2;box a at 0 0 way 0;power 0;").round(0), 1);
        Check.due("behind 80", Check.with(still + "if(step=0,1,if(step=79,0-1,0));").round(0), 80);
        Check.due("behind 81", Check.with(still + "if(step=0,1,if(step=80,0-1,0));").round(0), -1);
        BlackLine x = Check.with(WALL);
        int[] none = {2, -1, LEAST, GREATEST};
        for (int box : none) {
            Check.due("round(" + box + ")", x.round(box), -1);
        }
        Check.due("without a floor", new BlackLine().round(0), -1);
    }

    @Edge(promise = 12, says = "behind which it stands on its CELL, by its WAY, as now")
    static void roundByCellAndWay() {
        Check.due("by the same CELL alone it is not", Check.with(
                "floor 2 by 2;box a at 0 0 way 0;goes 1=2;steers if(step<1,1,0);").round(0), -1);
        Check.due("four turns", Check.with("floor 2 by 2;box a at 0 0 way 2;goes 1=2;steers 1;").round(0), 4);
        Check.due("by the same WAY and column alone it is not",
                Check.with("floor 2 by 9;box a at 0 8 way 0;goes step<3;").round(0), -1);
        Check.due("by the same WAY and row alone it is not",
                Check.with("floor 9 by 2;box a at 0 0 way 1;goes step<3;").round(0), -1);
        BlackLine x = Check.with(RING);
        x.steps(2);
        Check.due("from now on", x.round(0), 4);
    }

    @Edge(promise = 12, says = "not beyond STEP 999")
    static void roundNearTheEnd() {
        BlackLine x = Check.atStep(RING + "power 999;", 995);
        Check.due("4 to 999", x.round(0), 4);
        x.steps(1);
        Check.due("3 to 999", x.round(0), -1);
        BlackLine still = Check.atStep("floor 2 by 2;box a at 0 0 way 0;", 998);
        Check.due("1 to 999", still.round(0), 1);
        still.steps(1);
        Check.due("none to 999", still.round(0), -1);
    }

    // ---- loses

    @Edge(promise = 13, says = "Behind how many STEPS AHEAD (0: now) a BOX is LOST for n STEPS (1 .. 99) or more first")
    static void losesFirst() {
        BlackLine x = Check.with("floor 9 by 2;grey 1 0 9;grey 4 0 9;box a at 0 0 way 1;");
        int[][] due = {{1, 2}, {2, 3}, {3, 7}, {76, 80}, {77, -1}, {99, -1}};
        for (int[] d : due) {
            Check.due("loses(0, " + d[0] + ")", x.loses(0, d[0]), d[1]);
        }
        x.steps(2);
        Check.due("now", x.loses(0, 1), 0);
        x.steps(1);
        Check.due("more than 1, now", x.loses(0, 1), 0);
        Check.due("2, now", x.loses(0, 2), 0);
        Check.due("3, behind BLACK once more", x.loses(0, 3), 4);
        BlackLine far = Check.atStep("floor 2 by 2;box a at 0 0 way 0;goes 1=2;", 19);
        Check.due("99 in 80", far.loses(0, 99), 80);
        far.undo();
        Check.due("99 in 99", far.loses(0, 99), -1);
        BlackLine long99 = Check.atStep("floor 2 by 2;box a at 0 0 way 0;goes 1=2;", 150);
        Check.due("99, now", long99.loses(0, 99), 0);
    }

    @Edge(promise = 13, says = "NONE when it is not, n can't be, or there is none such.")
    static void losesNone() {
        BlackLine x = Check.atStep(WALL, 120);
        Check.due("n 1", x.loses(1, 1), 0);
        Check.due("n 99", x.loses(1, 99), 0);
        int[][] none = {{0, 0}, {0, 100}, {0, -1}, {0, LEAST}, {0, GREATEST}, {2, 1}, {-1, 1}, {LEAST, 1}, {GREATEST, 1}};
        for (int[] a : none) {
            Check.due("loses(" + a[0] + ", " + a[1] + ")", x.loses(a[0], a[1]), -1);
        }
        Check.due("without a floor", new BlackLine().loses(0, 1), -1);
        BlackLine end = Check.atStep("floor 2 by 2;box a at 0 0 way 0;grey 0 0 9;goes 1=2;eyes a apart 0 ahead 0;power 999;", 990);
        end.shine(9);
        Check.due("9 of 9 up to STEP 999", end.loses(0, 9), 9);
        Check.due("10 of 9 up to STEP 999", end.loses(0, 10), -1);
        end.steps(9);
        Check.due("9, now, at STEP 999", end.loses(0, 9), 0);
        Check.due("10 at STEP 999", end.loses(0, 10), -1);
    }

    // ---- jam

    @Edge(promise = 14, says = "A JAM: in which STEP AHEAD (1 .. 80); NONE without.")
    static void jamFromOneToEighty() {
        String box = "floor 2 by 2;box a at 0 0 way 0;goes step=";
        Check.due("in the first", Check.with(box + "0;").jam(), 1);
        Check.due("in the 80th", Check.with(box + "79;").jam(), 80);
        Check.due("in the 81st", Check.with(box + "80;").jam(), -1);
        Check.due("without BOXES", Check.with("floor 2 by 2;").jam(), -1);
        Check.due("without a floor", new BlackLine().jam(), -1);
        BlackLine late = Check.atStep("floor 2 by 2;box a at 0 0 way 0;goes step=998;power 999;", 997);
        Check.due("in the last STEP", late.jam(), 2);
        late.steps(2);
        Check.due("behind the last STEP", late.jam(), -1);
    }

    @Edge(promise = 14, says = "A JAM is the first STEP AHEAD in which a BOX is BLOCKED and no BOX goes anywhere.")
    static void jamOfAll() {
        Check.due("one goes all the time", Check.with(WALL).jam(), -1);
        Check.due("none is BLOCKED", Check.with("floor 2 by 2;box a at 0 0 way 0;goes 1=2;").jam(), -1);
        Check.due("without power", Check.with("floor 2 by 2;box a at 0 0 way 0;power 0;").jam(), -1);
        Check.due("both BLOCKED", Check.with(
                "floor 2 by 2;box a at 0 0 way 0;box b at 1 1 way 2;").jam(), 1);
        Check.due("one goes first", Check.with("floor 4 by 2;box a at 0 0 way 0;box b at 0 1 way 1;").jam(), 4);
        Check.due("one BLOCKED, one standing", Check.with(
                "floor 3 by 2;box a at 0 0 way 0;box b at 2 1 way 0;grey 2 0 9;goes mid=0;").jam(), 1);
    }

    // ---- gap

    @Edge(promise = 15, says = "GAP of two BOXES, n STEPS AHEAD (0: now .. 80, now, too)")
    static void gapFromNowToEighty() {
        BlackLine x = Check.with("floor 9 by 9;box a at 0 0 way 1;box b at 8 8 way 3;");
        Check.due("the whole floor", x.gap(0, 1, 0), 16);
        Check.due("behind 1", x.gap(0, 1, 1), 14);
        Check.due("behind 4", x.gap(0, 1, 4), 8);
        Check.due("the least stays", x.gap(0, 1, 8), 8);
        Check.due("80", x.gap(1, 0, 80), 8);
        BlackLine far = Check.with("floor 9 by 2;box a at 1 0 way 3;box b at 3 0 way 1;");
        Check.due("now, too, when they go from one another", far.gap(0, 1, 80), 2);
        String turned = "floor 9 by 2;box a at 0 0 way 1;box b at 8 0 way 1;goes step=";
        Check.due("in the 80th", Check.with(turned + "79;").gap(0, 1, 80), 7);
        Check.due("not yet in the 79th", Check.with(turned + "79;").gap(0, 1, 79), 8);
        Check.due("not in the 81st", Check.with(turned + "80;").gap(0, 1, 80), 8);
    }

    @Edge(promise = 15, says = "columns and rows between them together, the least")
    static void gapByColumnsAndRows() {
        BlackLine x = Check.with("floor 9 by 9;box a at 0 0 way 1;box b at 1 0 way 1;box c at 0 1 way 1;box d at 1 1 way 1;"
                + "box e at 8 8 way 1;box f at 8 0 way 0;");
        int[][] due = {{0, 1, 1}, {0, 2, 1}, {0, 3, 2}, {1, 2, 2}, {0, 4, 16}, {4, 0, 16}, {2, 5, 9}, {5, 2, 9},
            {3, 4, 14}, {4, 3, 14}};
        for (int[] d : due) {
            Check.due("gap(" + d[0] + ", " + d[1] + ", 0)", x.gap(d[0], d[1], 0), d[2]);
        }
    }

    @Edge(promise = 15, says = "NONE when there are none such, they are one, or n can't be.")
    static void gapNone() {
        BlackLine x = Check.with(WALL);
        int[][] none = {{0, 0, 0}, {1, 1, 5}, {0, 2, 0}, {2, 0, 0}, {-1, 0, 0}, {0, -1, 0}, {2, 2, 0}, {-1, -1, 0},
            {0, 1, 81}, {0, 1, -1}, {LEAST, 0, 0}, {0, GREATEST, 0}, {0, 1, LEAST}, {0, 1, GREATEST}};
        for (int[] a : none) {
            Check.due("gap(" + a[0] + ", " + a[1] + ", " + a[2] + ")", x.gap(a[0], a[1], a[2]), -1);
        }
        BlackLine late = Check.atStep(WALL, 990);
        Check.due("9 behind STEP 990", late.gap(0, 1, 9), 8);
        Check.due("10 behind STEP 990", late.gap(0, 1, 10), -1);
        late.steps(9);
        Check.due("now, at STEP 999", late.gap(0, 1, 0) > 0, true);
        Check.due("1 at STEP 999", late.gap(0, 1, 1), -1);
    }

    // ---- tuned

    @Edge(promise = 16, says = "TUNED, n STEPS AHEAD (1 .. 60): apart (what 0), ahead (1), behind how many it stands on black (2).")
    static void tunedFromOneToSixty() {
        BlackLine x = Check.with("floor 3 by 3;grey 1 1 5;box a at 1 1 way 0;goes 1=2;");
        Check.due("behind 1", x.tuned(0, 1, 2), 1);
        Check.due("behind 60", x.tuned(0, 60, 2), 60);
        int[] others = {0, 61, -1, LEAST, GREATEST};
        for (int n : others) {
            Check.due("tuned(0, " + n + ", 2)", x.tuned(0, n, 2), -1);
        }
        x.shine(1);
        Check.due("behind none", x.tuned(0, 60, 2), 0);
        Check.due("now does not count", Check.with("floor 9 by 2;grey 0 0 9;box a at 0 0 way 1;").tuned(0, 60, 2), 0);
    }

    /** The BOX goes onto black if its right eye looks onto the one CELL that is 4: by but one apart and ahead. */
    @Edge(promise = 16, says = "TUNED are apart, ahead of a BOX, as if told so")
    static void tunedToEachOfTwelve() {
        for (int apart = 0; apart <= 2; apart++) {
            for (int ahead = 0; ahead <= 3; ahead++) {
                BlackLine x = Check.with("floor 9 by 9;box a at 4 4 way 0;eyes a apart 2 ahead 2;grey 3 4 9;grey "
                        + (4 + apart) + " " + (4 - ahead) + " 4;steers 0-1;goes right=4;");
                Check.due("apart " + apart, x.tuned(0, 1, 0), apart);
                Check.due("ahead " + ahead, x.tuned(0, 1, 1), ahead);
                Check.due("on black by apart " + apart + ", ahead " + ahead, x.tuned(0, 1, 2), 1);
                Check.due("apart stays", x.box(0, 5), 2);
                Check.due("ahead stays", x.box(0, 6), 2);
            }
        }
    }

    @Edge(promise = 16, says = "of like ones the least apart, then the least ahead.")
    static void tunedOfLikeOnes() {
        BlackLine none = Check.with("floor 9 by 9;box a at 4 4 way 0;eyes a apart 2 ahead 3;");
        Check.due("none on black: apart", none.tuned(0, 60, 0), 0);
        Check.due("none on black: ahead", none.tuned(0, 60, 1), 0);
        Check.due("none on black", none.tuned(0, 60, 2), 0);
        // Two CELLS let it go: apart 1, ahead 3 and apart 2, ahead 0.
        BlackLine two = Check.with("floor 9 by 9;box a at 4 4 way 0;grey 4 3 9;grey 5 1 4;grey 6 4 4;steers 0;goes right=4;");
        Check.due("the least apart ahead of the least ahead: apart", two.tuned(0, 1, 0), 1);
        Check.due("the least apart ahead of the least ahead: ahead", two.tuned(0, 1, 1), 3);
        BlackLine same = Check.with("floor 9 by 9;box a at 4 4 way 0;grey 4 3 9;grey 5 1 4;grey 5 2 4;steers 0;goes right=4;");
        Check.due("of like apart the least ahead: apart", same.tuned(0, 1, 0), 1);
        Check.due("of like apart the least ahead: ahead", same.tuned(0, 1, 1), 2);
    }

    @Edge(promise = 16, says = "NONE when n can't be, there is no such BOX, or for others.")
    static void tunedNone() {
        BlackLine x = Check.with(WALL);
        int[][] none = {{2, 1, 0}, {-1, 1, 0}, {LEAST, 1, 0}, {GREATEST, 1, 0}, {0, 1, 3}, {0, 1, -1}, {0, 1, LEAST},
            {0, 1, GREATEST}, {0, 0, 0}, {0, 61, 1}};
        for (int[] a : none) {
            Check.due("tuned(" + a[0] + ", " + a[1] + ", " + a[2] + ")", x.tuned(a[0], a[1], a[2]), -1);
        }
        BlackLine late = Check.atStep(WALL, 990);
        Check.due("9 behind STEP 990", late.tuned(0, 9, 2), 0);
        Check.due("10 behind STEP 990", late.tuned(0, 10, 2), -1);
        late.steps(9);
        Check.due("1 at STEP 999", late.tuned(0, 1, 2), -1);
    }

    // ---- found

    @Edge(promise = 17, says = "FOUND: by how many MOVES (0: it stands on black)")
    static void foundByMoves() {
        String box = "floor 9 by 9;box a at 4 4 way 0;grey ";
        int[][] due = {{4, 4, 0}, {4, 3, 1}, {3, 4, 2}, {5, 4, 2}, {4, 5, 3}, {4, 0, 4}, {0, 4, 5}, {8, 0, 9}, {0, 8, 10}};
        for (int[] d : due) {
            BlackLine x = Check.with(box + d[0] + " " + d[1] + " 5;");
            Check.due("black at " + d[0] + ", " + d[1], x.found(0), d[2]);
            x.shine(1);
            Check.due("none is black by lamp 1", x.found(0), -1);
        }
        BlackLine far = Check.with("floor 9 by 9;box a at 0 0 way 3;grey 8 8 9;");
        Check.due("from corner to corner", far.found(0), 18);
        BlackLine up = Check.with("floor 9 by 9;box a at 0 1 way 0;grey 0 0 9;");
        Check.due("into the first CELL by WAY 0", up.found(0), 1);
        BlackLine left = Check.with("floor 9 by 9;box a at 8 8 way 2;grey 7 8 9;");
        Check.due("from the last CELL by WAY 3", left.found(0), 2);
        BlackLine near = Check.with("floor 9 by 9;box a at 4 4 way 0;grey 4 0 9;grey 5 4 9;");
        Check.due("the fewest of two", near.found(0), 2);
    }

    @Edge(promise = 17, says = "it alone moving")
    static void foundAlone() {
        String box = "floor 3 by 2;box a at 0 0 way 1;grey 2 0 9;";
        Check.due("free", Check.with(box).found(0), 2);
        Check.due("another BOX stays though it would go on", Check.with(box + "box b at 1 0 way 1;").found(0), 7);
        Check.due("neither power nor bias nor goes counts", Check.with(box + "bias a 1;power 0;goes 1=2;").found(0), 2);
    }

    @Edge(promise = 17, says = "or to go onto the CELL ahead, on which no BOX stands")
    static void foundRoundOthers() {
        BlackLine on = Check.with("floor 3 by 2;box a at 0 0 way 1;box b at 1 0 way 1;grey 1 0 9;");
        Check.due("a BOX stands on the only black CELL", on.found(0), -1);
        Check.due("itself", on.found(1), 0);
        on.put(1, 2, 1);
        Check.due("it stands elsewhere", on.found(0), 1);
    }

    @Edge(promise = 17, says = "NONE when by none, or there is no such BOX.")
    static void foundNone() {
        Check.due("nothing is black", Check.with("floor 9 by 9;box a at 4 4 way 0;grey 0 0 4;").found(0), -1);
        BlackLine shut = Check.with("floor 9 by 9;box a at 0 0 way 0;box b at 1 0 way 0;box c at 0 1 way 0;grey 8 8 9;");
        Check.due("shut in", shut.found(0), -1);
        Check.due("not shut in", shut.found(1) > 0, true);
        int[] none = {3, -1, LEAST, GREATEST};
        for (int box : none) {
            Check.due("found(" + box + ")", shut.found(box), -1);
        }
        Check.due("without a floor", new BlackLine().found(0), -1);
    }

    // ---- spaced

    @Edge(promise = 18, says = "SPACED, n STEPS AHEAD (1 .. 80): d; NONE when 9 is not enough, or n can't be.")
    static void spacedFromNoneToNine() {
        BlackLine x = Check.with(WALL);
        for (int n = 1; n <= 9; n++) {
            Check.due("spaced(" + n + "), b starts behind them", x.spaced(n), n);
        }
        Check.due("9 is not enough for 10", x.spaced(10), -1);
        Check.due("nor for 80", x.spaced(80), -1);
        BlackLine free = Check.with(RING);
        Check.due("none is BLOCKED in 1", free.spaced(1), 0);
        Check.due("none is BLOCKED in 80", free.spaced(80), 0);
        int[] others = {0, 81, -1, LEAST, GREATEST};
        for (int n : others) {
            Check.due("spaced(" + n + ")", free.spaced(n), -1);
        }
        Check.due("without BOXES", Check.with("floor 2 by 2;").spaced(80), 0);
        Check.due("without a floor", new BlackLine().spaced(80), 0);
        BlackLine last = Check.with("floor 2 by 2;box a at 0 0 way 0;goes step=79;");
        Check.due("BLOCKED in the 80th", last.spaced(80), -1);
        Check.due("not ahead of it", last.spaced(79), 0);
        BlackLine late = Check.atStep(RING, 990);
        Check.due("9 behind STEP 990", late.spaced(9), 0);
        Check.due("10 behind STEP 990", late.spaced(10), -1);
        late.steps(9);
        Check.due("1 at STEP 999", late.spaced(1), -1);
    }

    @Edge(promise = 18, says = "if the first one starts at once, the second one d STEPS later, the third one 2 d, and so on")
    static void spacedOneByOne() {
        Check.due("the first one at once", Check.with("floor 2 by 2;box a at 0 0 way 0;").spaced(1), -1);
        int[][] circles = {{4, 4}, {2, 2}, {6, 6}, {2, 6}, {6, 2}};
        StringBuilder s = new StringBuilder("floor 9 by 9;");
        for (int k = 0; k < circles.length; k++) {
            char name = (char) ('a' + k);
            s.append("box ").append(name).append(" at ").append(circles[k][0]).append(' ').append(circles[k][1]);
            s.append(" way 1;bias ").append(name).append(" 1;");
            BlackLine x = Check.with(s + "box last at 0 0 way 0;");
            int behind = k + 1;
            Check.due("BOX " + behind + " starts behind 9 d", x.spaced(9 * behind), 9);
            Check.due("BOX " + behind + " starts in a STEP less", x.spaced(9 * behind + 1), -1);
            Check.due("BOX " + behind + " starts behind 8 d", x.spaced(8 * behind), 8);
            Check.due("BOX " + behind + " starts behind d", x.spaced(behind), 1);
        }
    }

    /** If BOX b were LOST, lost power or turned while it waits, it would go otherwise when it starts. */
    @Edge(promise = 18, says = "(until it starts a BOX does nothing)")
    static void spacedDoesNothingUntil() {
        String wall = "floor 9 by 9;box a at 4 4 way 1;box b at 0 0 way 0;";
        Check.due("it is not LOST", Check.with(wall + "goes lost=1;").spaced(5), 5);
        Check.due("its power is not less", Check.with(wall + "goes power=500;").spaced(5), 5);
        Check.due("it turns not", Check.with("floor 9 by 9;box a at 4 4 way 1;box b at 0 8 way 1;"
                + "steers if(step=0,1,0);goes step>0;").spaced(3), 1);
        Check.due("the STEP goes on", Check.with(wall + "goes step<4;").spaced(80), 4);
    }

    // ---- bright

    @Edge(promise = 19, says = "BRIGHT, n STEPS AHEAD (1 .. 60): the lamp; NONE when none is, or n can't be.")
    static void brightFromOneToSixty() {
        BlackLine x = Check.with("floor 2 by 2;grey 0 0 7;box a at 0 0 way 0;eyes a apart 0 ahead 0;goes 1=2;");
        Check.due("behind 1", x.bright(1), 2);
        Check.due("behind 60", x.bright(60), 2);
        int[] others = {0, 61, -1, LEAST, GREATEST};
        for (int n : others) {
            Check.due("bright(" + n + ")", x.bright(n), -1);
        }
        BlackLine late = Check.atStep("floor 2 by 2;grey 0 0 7;box a at 0 0 way 0;eyes a apart 0 ahead 0;goes 1=2;power 999;", 990);
        Check.due("9 behind STEP 990", late.bright(9), 2);
        Check.due("10 behind STEP 990", late.bright(10), -1);
        late.steps(9);
        Check.due("1 at STEP 999", late.bright(1), -1);
    }

    @Edge(promise = 19, says = "BRIGHT is the greatest lamp (0 .. 9), shining from now on")
    static void brightFromNoneToNine() {
        int[] due = {-1, -1, -1, -1, -1, 0, 1, 2, 3, 4};
        for (int grey = 0; grey <= 9; grey++) {
            BlackLine x = Check.with("floor 2 by 2;grey 0 0 " + grey
                    + ";box a at 0 0 way 0;eyes a apart 0 ahead 0;goes 1=2;lamp 9;");
            Check.due("grey " + grey, x.bright(1), due[grey]);
            Check.due("the lamp stays", x.has(5), 9);
        }
        Check.due("9 by one without power", Check.with("floor 2 by 2;box a at 0 0 way 0;power 0;").bright(60), 9);
        Check.due("9 without BOXES", Check.with("floor 2 by 2;").bright(1), 9);
        Check.due("9 without a floor", new BlackLine().bright(60), 9);
    }

    @Edge(promise = 19, says = "by which no BOX is LOST behind the last of n STEPS AHEAD")
    static void brightBehindTheLast() {
        BlackLine x = Check.with("floor 9 by 2;grey 1 0 9;grey 2 0 4;grey 3 0 6;box a at 0 0 way 1;");
        Check.due("behind 1", x.bright(1), 4);
        Check.due("LOST behind 2", x.bright(2), -1);
        Check.due("LOST in between, not behind 3", x.bright(3), 1);
        String still = "floor 3 by 3;goes 1=2;box a at 0 0 way 0;eyes a apart 0 ahead 0;box b at 1 0 way 0;"
                + "eyes b apart 0 ahead 0;grey 0 0 9;";
        Check.due("all BOXES", Check.with(still + "grey 1 0 6;").bright(1), 1);
        Check.due("one is LOST", Check.with(still + "grey 1 0 4;").bright(1), -1);
        BlackLine lost = Check.with("floor 2 by 2;box a at 0 0 way 0;power 1;");
        lost.steps(1);
        Check.due("LOST ahead of now, without power", lost.bright(60), -1);
    }
}
