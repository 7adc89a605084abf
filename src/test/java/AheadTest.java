/** Promises 11 to 19: later, round, loses, jam, gap, tuned, found, spaced, bright. */
public final class AheadTest {
    /** A ring of black round (1, 1) .. (3, 3), gone round by the right hand. */
    private static final String RING = "floor 5 by 5;grey 1 1 9;grey 2 1 9;grey 3 1 9;grey 3 2 9;grey 3 3 9;"
            + "grey 2 3 9;grey 1 3 9;grey 1 2 9;";

    public static void main(String[] args) {
        later();
        nothingChanges();
        round();
        loses();
        jam();
        gap();
        tuned();
        found();
        spaced();
        bright();
        nearTheLastStep();
        Check.finish();
    }

    private static void later() {
        BlackLine x = Check.with("floor 4 by 2;box a at 0 0 way 1;bias a 2;");
        int[][] due = {{0, 0, 1, 0, 0}, {1, 0, 1, 1, 0}, {2, 0, 2, 2, 0}, {2, 1, 2, 3, 0}, {2, 1, 2, 4, 1}, {2, 1, 2, 5, 2}};
        for (int n = 0; n < due.length; n++) {
            for (int what = 0; what < 5; what++) {
                Check.due("later(0, " + n + ", " + what + ")", x.later(0, n, what), due[n][what]);
            }
        }
        Check.due("80", x.later(0, 80, 4), 77);
        Check.due("81", x.later(0, 81, 0), -1);
        Check.due("-1", x.later(0, -1, 0), -1);
        Check.due("no box", x.later(1, 0, 0), -1);
        Check.due("box -1", x.later(-1, 0, 0), -1);
        Check.due("what 5", x.later(0, 0, 5), -1);
        Check.due("what -1", x.later(0, 0, -1), -1);
        x.steps(10);
        Check.due("blocked from now on alone", x.later(0, 3, 4), 3);
        Check.due("blocked, now", x.later(0, 0, 4), 0);
    }

    private static void nothingChanges() {
        BlackLine x = Check.with(RING + "box a at 0 2 way 1;box b at 3 3 way 0;cat 100;");
        x.seed(5);
        x.steps(1);
        x.image();
        int[] before = new int[20];
        for (int k = 0; k < 20; k++) {
            before[k] = x.octet(k);
        }
        x.later(0, 80, 0);
        x.round(0);
        x.loses(0, 50);
        x.jam();
        x.gap(0, 1, 80);
        x.tuned(0, 60, 2);
        x.found(0);
        x.spaced(80);
        x.bright(60);
        x.wheel(0, 0);
        x.wheel(1, 1);
        x.image();
        for (int k = 0; k < 20; k++) {
            Check.due("octet " + k + " stays", x.octet(k), before[k]);
        }
        Check.due("seed stays", x.has(10), 5);
        Check.due("acts stay", x.has(9), 1);
        Check.due("kept stays", x.has(8), 2);
        Check.due("apart stays", x.box(0, 5), 1);
        Check.due("ahead stays", x.box(0, 6), 1);
        Check.due("bias stays", x.box(0, 7), 0);
        Check.due("lamp stays", x.has(5), 0);
    }

    private static void round() {
        BlackLine x = Check.with("floor 3 by 3;box a at 0 0 way 1;bias a 2;box b at 1 1 way 0;goes power<999;");
        Check.due("by 8 cells", x.round(0), 8);
        BlackLine y = Check.with("floor 2 by 2;box a at 0 0 way 1;bias a 1;box b at 1 1 way 2;power 9;");
        Check.due("blocked ones stand where they are", y.round(1), 1);
        Check.due("no way round", y.round(0), -1);
        Check.due("no box", y.round(2), -1);
        Check.due("box -1", y.round(-1), -1);
        BlackLine z = Check.with("floor 4 by 4;box a at 0 0 way 1;steers if(step=0,1,if(step=79,0-1,0));goes 1=2;");
        Check.due("by its WAY again in the 80th", z.round(0), 80);
        BlackLine u = Check.with("floor 4 by 4;box a at 0 0 way 1;steers if(step=0,1,if(step=80,0-1,0));goes 1=2;");
        Check.due("in the 81st", u.round(0), -1);
        BlackLine w = Check.with("floor 4 by 4;box a at 0 0 way 1;goes 1=2;");
        Check.due("standing counts", w.round(0), 1);
        BlackLine v = Check.with("floor 9 by 9;box a at 0 0 way 1;");
        Check.due("no return", v.round(0), -1);
    }

    private static void loses() {
        BlackLine x = Check.with("floor 9 by 2;grey 1 0 9;grey 4 0 9;box a at 0 0 way 1;");
        Check.due("for 1", x.loses(0, 1), 2);
        Check.due("for 2", x.loses(0, 2), 3);
        Check.due("for 3", x.loses(0, 3), 7);
        Check.due("for 76", x.loses(0, 76), 80);
        Check.due("for 77", x.loses(0, 77), -1);
        Check.due("for 0", x.loses(0, 0), -1);
        Check.due("for 100", x.loses(0, 100), -1);
        Check.due("no box", x.loses(1, 1), -1);
        x.steps(2);
        Check.due("now", x.loses(0, 1), 0);
        Check.due("from now on", x.loses(0, 2), 1);
        x.steps(78);
        x.steps(50);
        Check.due("for 99", x.loses(0, 99), 0);
    }

    private static void jam() {
        Check.due("two head on", Check.with("floor 6 by 2;box a at 0 0 way 1;box b at 5 0 way 3;").jam(), 3);
        Check.due("one goes round still", Check.with(
                "floor 6 by 2;box a at 0 0 way 3;box b at 4 0 way 1;bias b 1;").jam(), -1);
        Check.due("at once", Check.with("floor 2 by 2;box a at 0 0 way 0;").jam(), 1);
        Check.due("standing is no jam", Check.with("floor 2 by 2;box a at 0 0 way 0;goes 1=2;").jam(), -1);
        Check.due("without power no jam", Check.with("floor 2 by 2;box a at 0 0 way 0;power 0;").jam(), -1);
        Check.due("no boxes", Check.with("floor 2 by 2;").jam(), -1);
        Check.due("one stands, one is blocked", Check.with(
                "floor 3 by 2;box a at 0 0 way 1;goes step>4 or step=0;").jam(), 7);
        Check.due("in the 80th", Check.with("floor 2 by 2;box a at 0 0 way 0;goes step=79;").jam(), 80);
        Check.due("in the 81st", Check.with("floor 2 by 2;box a at 0 0 way 0;goes step=80;").jam(), -1);
    }

    private static void gap() {
        BlackLine x = Check.with("floor 9 by 4;box a at 0 0 way 1;box b at 8 3 way 3;box c at 4 3 way 0;goes step<9;");
        Check.due("now", x.gap(0, 1, 0), 11);
        Check.due("behind 1", x.gap(0, 1, 1), 9);
        Check.due("the other way round", x.gap(1, 0, 1), 9);
        Check.due("a is blocked by c then", x.gap(0, 1, 4), 4);
        Check.due("the nearest", x.gap(0, 1, 5), 3);
        Check.due("nearest stays", x.gap(0, 1, 80), 3);
        Check.due("81", x.gap(0, 1, 81), -1);
        Check.due("-1", x.gap(0, 1, -1), -1);
        Check.due("one and the same", x.gap(1, 1, 0), -1);
        Check.due("no such one", x.gap(3, 1, 0), -1);
        Check.due("no such other", x.gap(1, -1, 0), -1);
    }

    private static void tuned() {
        BlackLine still = Check.with("floor 3 by 3;grey 1 1 9;box a at 1 1 way 0;goes 1=2;");
        Check.due("of like ones the least apart", still.tuned(0, 60, 0), 0);
        Check.due("of like ones the least ahead", still.tuned(0, 60, 1), 0);
        Check.due("behind all", still.tuned(0, 60, 2), 60);
        Check.due("n 0", still.tuned(0, 0, 0), -1);
        Check.due("n 61", still.tuned(0, 61, 0), -1);
        Check.due("what 3", still.tuned(0, 1, 3), -1);
        Check.due("what -1", still.tuned(0, 1, -1), -1);
        Check.due("no box", still.tuned(1, 1, 0), -1);
        BlackLine far = Check.with("floor 5 by 5;grey 4 1 4;grey 3 2 9;box a at 2 2 way 0;eyes a apart 0 ahead 0;"
                + "steers right;goes step<1;");
        Check.due("apart", far.tuned(0, 3, 0), 1);
        Check.due("ahead", far.tuned(0, 3, 1), 0);
        Check.due("black", far.tuned(0, 3, 2), 3);
        far.put(0, 2, 3);
        Check.due("eyes are asked for anew", far.tuned(0, 1, 2), 0);
        // Only with an eye two to the right and one ahead does it turn, onto the one black CELL.
        BlackLine two = Check.with("floor 5 by 5;grey 4 1 4;grey 3 2 9;box a at 2 2 way 0;steers if(right=4,1,0);goes step<1;");
        Check.due("apart 2", two.tuned(0, 1, 0), 2);
        Check.due("ahead 1", two.tuned(0, 1, 1), 1);
        Check.due("once", two.tuned(0, 1, 2), 1);
    }

    private static void found() {
        BlackLine x = Check.with("floor 5 by 5;grey 2 2 9;grey 4 4 5;box a at 2 2 way 0;box b at 2 4 way 0;"
                + "box c at 0 2 way 3;box d at 4 3 way 0;");
        Check.due("on black", x.found(0), 0);
        Check.due("a box stands on the near one: one turn and two on", x.found(1), 3);
        Check.due("round by right or left: two turns, round the box", x.found(3), 3);
        Check.due("no box", x.found(4), -1);
        Check.due("box -1", x.found(-1), -1);
        x.put(0, 0, 0);
        Check.due("now the near one is free", x.found(1), 2);
        Check.due("turned away", x.found(2), 4);
        x.shine(5);
        Check.due("none is black", x.found(1), -1);
        BlackLine side = Check.with("floor 5 by 5;grey 1 2 9;grey 4 4 9;box a at 2 2 way 0;box b at 3 4 way 0;");
        Check.due("a turn left, one on", side.found(0), 2);
        Check.due("a turn right, one on", side.found(1), 2);
        BlackLine shut = Check.with("floor 3 by 3;grey 2 2 9;box a at 0 0 way 0;box b at 1 0 way 0;box c at 0 1 way 0;power 0;");
        Check.due("shut in", shut.found(0), -1);
        Check.due("power is not asked for", shut.found(1), 5);
    }

    private static void spaced() {
        BlackLine x = Check.with("floor 9 by 2;box a at 0 0 way 1;box b at 1 0 way 1;");
        Check.due("the first runs into the second, however long that waits", x.spaced(1), -1);
        BlackLine y = Check.with("floor 9 by 2;box a at 1 0 way 1;box b at 0 0 way 1;");
        Check.due("one behind the other", y.spaced(7), 0);
        Check.due("the first at the wall", y.spaced(8), -1);
        BlackLine meet = Check.with("floor 9 by 9;box a at 4 2 way 2;box b at 2 4 way 1;goes step<4;");
        Check.due("they meet at (4, 4)", meet.spaced(2), 1);
        Check.due("no boxes", Check.with("floor 2 by 2;").spaced(80), 0);
        Check.due("n 0", y.spaced(0), -1);
        Check.due("n 81", y.spaced(81), -1);
        Check.due("n -1", y.spaced(-1), -1);
        BlackLine wait = Check.with("floor 9 by 9;box a at 8 8 way 0;box b at 0 0 way 0;goes step<5;");
        Check.due("b, at the wall, waits until goes no more", wait.spaced(80), 5);
        BlackLine nine = Check.with("floor 9 by 9;box a at 8 8 way 3;bias a 8;box b at 0 0 way 0;goes step<9;");
        Check.due("until 9", nine.spaced(80), 9);
        BlackLine ten = Check.with("floor 9 by 9;box a at 8 8 way 3;bias a 8;box b at 0 0 way 0;goes step<10;");
        Check.due("9 is not enough", ten.spaced(80), -1);
        BlackLine third = Check.with("floor 9 by 9;box a at 8 8 way 0;box b at 7 8 way 0;box c at 0 0 way 0;goes step<7;");
        Check.due("the third waits twice as long", third.spaced(80), 4);
    }

    private static void bright() {
        BlackLine x = Check.with("floor 9 by 2;grey 1 0 9;grey 2 0 7;grey 3 0 5;grey 4 0 4;grey 5 0 8;box a at 0 0 way 1;lamp 9;");
        Check.due("behind 1", x.bright(1), 4);
        Check.due("behind 2", x.bright(2), 2);
        Check.due("behind 3", x.bright(3), 0);
        Check.due("behind 4", x.bright(4), -1);
        Check.due("behind 5, the last alone counts", x.bright(5), 3);
        Check.due("n 0", x.bright(0), -1);
        Check.due("n 61", x.bright(61), -1);
        Check.due("n 60", x.bright(60), -1);
        Check.due("no boxes", Check.with("floor 2 by 2;").bright(60), 9);
    }

    private static void nearTheLastStep() {
        BlackLine x = Check.with("floor 9 by 9;box a at 0 0 way 1;box b at 0 8 way 0;power 999;goes step>990;");
        for (int k = 0; k < 9; k++) {
            x.steps(100);
        }
        x.steps(95);
        Check.due("step", x.has(4), 995);
        Check.due("later 4", x.later(0, 4, 0), 8);
        Check.due("later 5", x.later(0, 5, 0), -1);
        Check.due("gap 4", x.gap(0, 1, 4) >= 0, true);
        Check.due("gap 5", x.gap(0, 1, 5), -1);
        Check.due("tuned 4", x.tuned(0, 4, 2), 0);
        Check.due("tuned 5", x.tuned(0, 5, 2), -1);
        Check.due("spaced 4", x.spaced(4), 0);
        Check.due("spaced 5", x.spaced(5), -1);
        Check.due("bright 4", x.bright(4), -1);
        Check.due("round", x.round(0), -1);
        Check.due("jam", x.jam(), -1);
        Check.due("loses", x.loses(0, 99), 0);
        x.steps(4);
        Check.due("at 999", x.later(0, 0, 0), 8);
        Check.due("at 999, later 1", x.later(0, 1, 0), -1);
        Check.due("at 999, round", x.round(0), -1);
        Check.due("at 999, spaced", x.spaced(1), -1);
        Check.due("at 999, gap now", x.gap(0, 1, 0) >= 0, true);
    }
}
