/** Promises 22 to 29, 33: STEPS, the seed, hands, undo, KEPT, refusals. */
public final class ActsTest {
    public static void main(String[] args) {
        steps();
        chance();
        turn();
        put();
        shine();
        undo();
        undoOfTwenty();
        seed();
        kept();
        status();
        Check.finish();
    }

    private static void steps() {
        BlackLine x = Check.with("floor 9 by 2;box a at 0 0 way 1;box b at 0 1 way 1;power 999;");
        Check.due("both go", x.steps(3), 6);
        Check.due("to the wall", x.steps(100), 10);
        Check.due("one act each", x.has(9), 2);
        Check.due("0", x.steps(0), -1);
        Check.due("-1", x.steps(-1), -1);
        Check.due("101", x.steps(101), -1);
        for (int k = 0; k < 8; k++) {
            Check.due("100 more", x.steps(100), 0);
        }
        Check.due("beyond 999", x.steps(97), -1);
        Check.due("chance beyond 999", x.chance(97), -1);
        Check.due("to 999", x.steps(96), 0);
        Check.due("step", x.has(4), 999);
        Check.due("one more", x.steps(1), -1);
        Check.due("refused", x.status(2), 6);
        Check.due("acts", x.has(9), 11);
        Check.due("no draws", x.has(10), 1);
        BlackLine bare = new BlackLine();
        Check.due("no floor", bare.steps(100), 0);
        Check.due("its step", bare.has(4), 100);
    }

    /** From seed 1 on the first DRAW of 100 is 18, and a DRAW of 2 behind it is 1. */
    private static void chance() {
        String floor = "floor 9 by 9;box a at 4 4 way 1;box b at 2 7 way 0;goes 1=2;";
        BlackLine x = Check.with(floor + "cat 18;");
        Check.due("18 is not below 18", x.chance(1), 0);
        Check.due("one draw", x.has(10), 1103527590);
        Check.due("way of a", x.box(0, 2), 1);
        BlackLine y = Check.with(floor + "cat 19;");
        Check.due("18 is below 19", y.chance(1), 1);
        Check.due("two draws", y.has(10), 377401575);
        Check.due("not a", y.box(0, 2), 1);
        Check.due("but b", y.box(1, 2), 2);
        BlackLine z = Check.with("floor 9 by 9;box a at 4 4 way 1;cat 100;");
        Check.due("the cat comes always", z.chance(1), 1);
        Check.due("turned round ahead of the step", z.box(0, 0), 3);
        Check.due("its way", z.box(0, 2), 3);
        Check.due("100 more", z.chance(100), 100);
        Check.due("one act each", z.has(9), 2);
        BlackLine none = Check.with("floor 9 by 9;cat 100;");
        Check.due("no boxes, no cat", none.chance(3), 0);
        Check.due("three draws", none.has(10), 662824084);
        BlackLine empty = Check.with("floor 9 by 9;box a at 4 4 way 1;power 0;cat 100;");
        empty.chance(1);
        Check.due("one without power is turned, too", empty.box(0, 2), 3);
        Check.due("0", z.chance(0), -1);
        Check.due("-5", z.chance(-5), -1);
        Check.due("101", z.chance(101), -1);
        Check.due("refused", z.status(2), 3);
        BlackLine told = Check.with("floor 9 by 9;box a at 4 4 way 1;steers 0;goes turned=0;cat 100;");
        told.chance(1);
        Check.due("turned is of steers alone", told.box(0, 0), 3);
    }

    private static void turn() {
        BlackLine x = Check.with("floor 3 by 3;box a at 1 1 way 2;");
        Check.due("so already", x.turn(0, 2), false);
        Check.due("way 4", x.turn(0, 4), false);
        Check.due("way -1", x.turn(0, -1), false);
        Check.due("no box", x.turn(1, 0), false);
        Check.due("box -1", x.turn(-1, 0), false);
        Check.due("nothing to undo", x.has(9), 0);
        for (int way = 0; way < 4; way++) {
            Check.due("way " + way, x.turn(0, way), true);
            Check.due("is so", x.box(0, 2), way);
        }
        Check.due("refused", x.status(3), 5);
        Check.due("acts", x.has(9), 4);
        Check.due("no step", x.has(4), 0);
    }

    private static void put() {
        BlackLine x = Check.with("floor 3 by 4;box a at 1 1 way 2;box b at 0 0 way 1;");
        Check.due("where it is", x.put(0, 1, 1), false);
        Check.due("where b is", x.put(0, 0, 0), false);
        Check.due("column 3", x.put(0, 3, 0), false);
        Check.due("row 4", x.put(0, 0, 4), false);
        Check.due("column -1", x.put(0, -1, 0), false);
        Check.due("row -1", x.put(0, 0, -1), false);
        Check.due("no box", x.put(2, 2, 2), false);
        Check.due("box -1", x.put(-1, 2, 2), false);
        Check.due("refused", x.status(3), 8);
        Check.due("put", x.put(0, 2, 3), true);
        Check.due("column", x.box(0, 0), 2);
        Check.due("row", x.box(0, 1), 3);
        Check.due("way", x.box(0, 2), 2);
        Check.due("free now", x.put(1, 1, 1), true);
        Check.due("not kept", x.has(8), 0);
        BlackLine y = Check.with("floor 3 by 4;box a at 1 1 way 2;bias a 1;");
        y.put(0, 0, 0);
        Check.due("not gone to", y.box(0, 2), 2);
    }

    private static void shine() {
        BlackLine x = Check.with("floor 3 by 4;lamp 4;");
        Check.due("so already", x.shine(4), false);
        Check.due("10", x.shine(10), false);
        Check.due("-1", x.shine(-1), false);
        Check.due("9", x.shine(9), true);
        Check.due("is so", x.has(5), 9);
        Check.due("0", x.shine(0), true);
        Check.due("refused", x.status(3), 3);
        Check.due("without a floor", new BlackLine().shine(3), true);
    }

    private static void undo() {
        BlackLine x = Check.with("floor 9 by 9;grey 3 1 9;box a at 4 4 way 1;box b at 2 7 way 0;bias a 3;cat 50;lamp 1;power 40;");
        x.steps(2);
        x.image();
        int[] before = new int[20];
        for (int k = 0; k < 20; k++) {
            before[k] = x.octet(k);
        }
        int kept = x.has(8);
        x.chance(30);
        int seed = x.has(10);
        x.shine(7);
        x.put(0, 0, 0);
        x.turn(1, 3);
        Check.due("acts", x.has(9), 5);
        for (int k = 0; k < 4; k++) {
            Check.due("undo " + k, x.undo(), true);
        }
        x.image();
        for (int k = 0; k < 20; k++) {
            Check.due("octet " + k + " as before", x.octet(k), before[k]);
        }
        Check.due("kept as before", x.has(8), kept);
        Check.due("the seed stays", x.has(10), seed);
        Check.due("acts as before", x.has(9), 1);
        Check.due("the first", x.undo(), true);
        Check.due("none left", x.undo(), false);
        Check.due("refused", x.status(4), 1);
        Check.due("at first", x.has(4), 0);
        Check.due("nothing kept", x.has(8), 0);
    }

    private static void undoOfTwenty() {
        BlackLine x = Check.with("floor 9 by 9;box a at 0 0 way 0;");
        for (int k = 1; k <= 25; k++) {
            x.turn(0, k % 4);
        }
        Check.due("acts", x.has(9), 20);
        for (int k = 24; k >= 5; k--) {
            Check.due("undo", x.undo(), true);
            Check.due("way", x.box(0, 2), k % 4);
        }
        Check.due("no more", x.undo(), false);
        Check.due("way stays", x.box(0, 2), 1);
    }

    private static void seed() {
        BlackLine x = new BlackLine();
        Check.due("0", x.seed(0), true);
        Check.due("is so", x.has(10), 0);
        Check.due("greatest", x.seed(Integer.MAX_VALUE), true);
        Check.due("is it", x.has(10), Integer.MAX_VALUE);
        x.chance(1);
        Check.due("a draw from it", x.has(10), 1043980748);
        Check.due("-1", x.seed(-1), false);
        Check.due("stays", x.has(10), 1043980748);
        Check.due("refused", x.status(5), 1);
        Check.due("no act", x.has(9), 1);
    }

    private static void kept() {
        BlackLine x = Check.with("floor 9 by 2;box a at 0 0 way 1;box b at 7 1 way 1;");
        x.steps(3);
        int[][] due = {{0, 0, 1, 0}, {0, 1, 8, 1}, {1, 0, 2, 0}, {2, 0, 3, 0}};
        Check.due("told", x.has(8), due.length);
        for (int k = 0; k < due.length; k++) {
            for (int what = 0; what < 4; what++) {
                Check.due("kept(" + k + ", " + what + ")", x.kept(k, what), due[k][what]);
            }
        }
        Check.due("none such", x.kept(4, 0), -1);
        Check.due("-1", x.kept(-1, 0), -1);
        Check.due("what 4", x.kept(0, 4), -1);
        Check.due("what -1", x.kept(0, -1), -1);
        BlackLine y = Check.with("floor 2 by 2;box a at 0 0 way 1;bias a 1;");
        y.steps(60);
        Check.due("60 of 60", y.has(8), 60);
        Check.due("the oldest", y.kept(0, 0), 0);
        y.steps(7);
        Check.due("60 of 67", y.has(8), 60);
        Check.due("the oldest told", y.kept(0, 0), 7);
        Check.due("the newest", y.kept(59, 0), 66);
        Check.due("its column", y.kept(59, 2), 0);
        Check.due("its row", y.kept(59, 3), 1);
        Check.due("60", y.kept(60, 0), -1);
        y.undo();
        Check.due("back again", y.kept(0, 0), 0);
        Check.due("and on", y.kept(59, 0), 59);
    }

    private static void status() {
        BlackLine x = new BlackLine();
        for (int what = 0; what < 6; what++) {
            Check.due("status(" + what + ") at first", x.status(what), 0);
        }
        x.end(1);
        x.feed('?' << 24, 0, 0, 0, 0);
        x.kitchen();
        x.steps(0);
        x.chance(0);
        x.turn(0, 0);
        x.put(0, 0, 0);
        x.shine(0);
        x.undo();
        x.seed(-1);
        x.track();
        x.on();
        int[] due = {1, 1, 2, 3, 1, 3};
        for (int what = 0; what < 6; what++) {
            Check.due("status(" + what + ")", x.status(what), due[what]);
        }
        Check.due("status(6)", x.status(6), -1);
        Check.due("status(-1)", x.status(-1), -1);
        Check.read(x, "floor 2 by 2;");
        Check.due("a kitchen keeps them", x.status(5), 3);
    }
}
