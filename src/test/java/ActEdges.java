/** Boundaries of promises 24 to 29 and 33: hands, undo, the seed, KEPT, refusals. */
final class ActEdges {
    private static final int LEAST = Integer.MIN_VALUE;
    private static final int GREATEST = Integer.MAX_VALUE;
    private static final String TWO = "floor 3 by 4;box a at 1 1 way 2;box b at 0 0 way 1;";

    private ActEdges() {
    }

    @Edge(promise = 24, says = "A BOX is turned to a WAY (0 .. 3): true")
    static void turnedToEachWay() {
        BlackLine x = Check.with(TWO);
        int[] ways = {0, 3, 0, 2, 1};
        for (int way : ways) {
            Check.due("turn(0, " + way + ")", x.turn(0, way), true);
            Check.dueBox("turned to " + way, x, 0, 1, 1, way, 500, 0);
        }
        Check.due("the last BOX", x.turn(1, 3), true);
        Check.due("ACTS", x.has(9), 6);
        Check.due("STEP", x.has(4), 0);
        Check.due("status(3)", x.status(3), 0);
    }

    @Edge(promise = 24, says = "false, refused (3), when it is so already, there is none such, or for others.")
    static void turnRefused() {
        BlackLine x = Check.with(TWO);
        int[][] none = {{0, 2}, {1, 1}, {2, 0}, {-1, 0}, {0, 4}, {0, -1}, {LEAST, 0}, {GREATEST, 0}, {0, LEAST}, {0, GREATEST}};
        for (int k = 0; k < none.length; k++) {
            Check.due("turn(" + none[k][0] + ", " + none[k][1] + ")", x.turn(none[k][0], none[k][1]), false);
            Check.due("status(3)", x.status(3), k + 1);
        }
        Check.due("no ACT", x.has(9), 0);
        Check.due("WAY stays", x.box(0, 2), 2);
        Check.due("without a floor", new BlackLine().turn(0, 0), false);
    }

    @Edge(promise = 25, says = "A BOX is PUT onto a CELL (its WAY stays): true")
    static void putOntoEachCorner() {
        BlackLine x = Check.with(TWO + "bias a 1;goes 1=2;");
        int[][] cells = {{2, 3}, {0, 3}, {2, 0}, {1, 0}};
        for (int[] c : cells) {
            Check.due("put(0, " + c[0] + ", " + c[1] + ")", x.put(0, c[0], c[1]), true);
            Check.dueBox("put", x, 0, c[0], c[1], 2, 500, 0, 1, 1, 1);
        }
        Check.due("where the other one was", x.put(1, 1, 1), true);
        Check.due("there", x.cell(1, 1, 2), 1);
        Check.due("free", x.cell(0, 0, 2), -1);
        Check.due("ACTS", x.has(9), 5);
        Check.due("nothing KEPT", x.has(8), 0);
        x.image();
        Check.due("no CELL gone to", x.octet(10), 0);
        Check.due("status(3)", x.status(3), 0);
    }

    @Edge(promise = 25, says = "false, refused (3), when a BOX stands there, or there are none such.")
    static void putRefused() {
        BlackLine x = Check.with(TWO);
        int[][] none = {{0, 0, 0}, {0, 1, 1}, {1, 1, 1}, {2, 2, 2}, {-1, 2, 2}, {0, 3, 0}, {0, 0, 4}, {0, -1, 1}, {0, 1, -1},
            {LEAST, 2, 2}, {GREATEST, 2, 2}, {0, LEAST, 0}, {0, GREATEST, 0}, {0, 0, LEAST}, {0, 0, GREATEST}, {0, 9, -1}};
        for (int k = 0; k < none.length; k++) {
            String call = "put(" + none[k][0] + ", " + none[k][1] + ", " + none[k][2] + ")";
            Check.due(call, x.put(none[k][0], none[k][1], none[k][2]), false);
            Check.due("status(3)", x.status(3), k + 1);
        }
        Check.due("no ACT", x.has(9), 0);
        Check.dueBox("stays", x, 0, 1, 1);
        Check.due("without a floor", new BlackLine().put(0, 0, 0), false);
    }

    @Edge(promise = 26, says = "The lamp SHINES (0 .. 9) otherwise: true")
    static void shinesOtherwise() {
        BlackLine x = Check.with(TWO);
        int[] lamps = {9, 0, 1, 8};
        for (int lamp : lamps) {
            Check.due("shine(" + lamp + ")", x.shine(lamp), true);
            Check.due("has(5)", x.has(5), lamp);
        }
        Check.due("ACTS", x.has(9), 4);
        Check.due("status(3)", x.status(3), 0);
        Check.due("without a floor", new BlackLine().shine(9), true);
    }

    @Edge(promise = 26, says = "false, refused (3), when it is so already, or for others.")
    static void shineRefused() {
        BlackLine x = Check.with(TWO + "lamp 4;");
        int[] none = {4, -1, 10, LEAST, GREATEST};
        for (int k = 0; k < none.length; k++) {
            Check.due("shine(" + none[k] + ")", x.shine(none[k]), false);
            Check.due("status(3)", x.status(3), k + 1);
        }
        Check.due("no ACT", x.has(9), 0);
        Check.due("has(5)", x.has(5), 4);
        Check.due("0 on a new object is so already", new BlackLine().shine(0), false);
    }

    private static int[] imageOf(BlackLine x) {
        int[] bytes = new int[x.image()];
        for (int k = 0; k < bytes.length; k++) {
            bytes[k] = x.octet(k);
        }
        return bytes;
    }

    private static void dueImage(String what, BlackLine x, int[] bytes) {
        Check.due(what + ", bytes", x.image(), bytes.length);
        for (int k = 0; k < bytes.length; k++) {
            Check.due(what + ", octet(" + k + ")", x.octet(k), bytes[k]);
        }
    }

    @Edge(promise = 27, says = "The latest ACT is undone: all is as it was ahead of it (but the seed): true")
    static void eachActIsUndone() {
        BlackLine x = Check.with("floor 9 by 9;grey 3 1 9;box a at 4 4 way 1;box b at 2 7 way 0;bias a 3;cat 60;lamp 1;power 40;");
        x.steps(2);
        int[] first = imageOf(x);
        int kept = x.has(8);
        x.steps(50);
        Check.due("undo() of steps()", x.undo(), true);
        dueImage("steps()", x, first);
        Check.due("KEPT", x.has(8), kept);
        x.chance(100);
        int seed = x.has(10);
        Check.due("undo() of chance()", x.undo(), true);
        dueImage("chance()", x, first);
        Check.due("KEPT, too", x.has(8), kept);
        Check.due("but the seed", x.has(10), seed);
        x.turn(1, 3);
        Check.due("undo() of turn()", x.undo(), true);
        dueImage("turn()", x, first);
        x.put(0, 8, 8);
        Check.due("undo() of put()", x.undo(), true);
        dueImage("put()", x, first);
        x.shine(9);
        Check.due("undo() of shine()", x.undo(), true);
        dueImage("shine()", x, first);
        x.seed(7);
        Check.due("undo() of the first, no ACT of seed()", x.undo(), true);
        Check.due("STEP", x.has(4), 0);
        Check.due("nothing KEPT", x.has(8), 0);
        Check.due("the seed, still", x.has(10), 7);
    }

    @Edge(promise = 27, says = "ACTS: STEPS go by, by the seed; a BOX is turned to a WAY;")
    static void whatIsAnAct() {
        BlackLine x = Check.with(TWO);
        x.steps(1);
        Check.due("steps()", x.has(9), 1);
        x.chance(1);
        Check.due("chance()", x.has(9), 2);
        x.turn(0, 0);
        Check.due("turn()", x.has(9), 3);
        x.put(0, 2, 3);
        Check.due("put()", x.has(9), 4);
        x.shine(1);
        Check.due("shine()", x.has(9), 5);
        x.seed(5);
        Check.tellTracks(x, 0, 0, 0);
        x.image();
        x.wheel(0, 1);
        x.later(0, 9, 0);
        Check.read(x, "?");
        Check.takeImage(x, 1);
        Check.due("no other call", x.has(9), 5);
    }

    @Edge(promise = 27, says = "The last 20 can be undone.")
    static void twentyUndone() {
        BlackLine x = Check.with("floor 2 by 2;box a at 0 0 way 0;");
        for (int k = 1; k <= 21; k++) {
            x.turn(0, k % 4);
        }
        Check.due("ACTS", x.has(9), 20);
        for (int k = 20; k >= 1; k--) {
            Check.due("undo() to " + k, x.undo(), true);
            Check.due("WAY", x.box(0, 2), k % 4);
            Check.due("ACTS", x.has(9), k - 1);
        }
        Check.due("the 21st", x.undo(), false);
        Check.due("WAY stays", x.box(0, 2), 1);
        x.shine(3);
        Check.due("one more ACT", x.undo(), true);
        Check.due("it alone", x.undo(), false);
    }

    @Edge(promise = 27, says = "false, refused (4), when none can be.")
    static void undoRefused() {
        BlackLine x = Check.with(TWO);
        Check.due("none yet", x.undo(), false);
        Check.due("status(4)", x.status(4), 1);
        x.turn(0, 2);
        x.steps(0);
        x.chance(101);
        x.shine(0);
        x.put(0, 0, 0);
        Check.due("refused ones are none", x.undo(), false);
        Check.due("status(4), two", x.status(4), 2);
        x.steps(1);
        Check.due("one", x.undo(), true);
        Check.due("none more", x.undo(), false);
        Check.due("status(4), three", x.status(4), 3);
        Check.due("without a floor", new BlackLine().undo(), false);
    }

    @Edge(promise = 28, says = "The seed: true; false, refused (5), when it is below 0.")
    static void seedFromZeroOn() {
        BlackLine x = new BlackLine();
        int[] good = {0, 1, GREATEST};
        for (int seed : good) {
            Check.due("seed(" + seed + ")", x.seed(seed), true);
            Check.due("has(10)", x.has(10), seed);
        }
        Check.due("the same again", x.seed(GREATEST), true);
        Check.due("status(5)", x.status(5), 0);
        Check.due("seed(-1)", x.seed(-1), false);
        Check.due("seed(least)", x.seed(LEAST), false);
        Check.due("status(5), two", x.status(5), 2);
        Check.due("stays", x.has(10), GREATEST);
        Check.due("no ACT", x.has(9), 0);
    }

    @Edge(promise = 29, says = "Of what is told as KEPT, the k-th from the oldest on: 0 STEP, 1 BOX, 2 column, 3 row.")
    static void keptFromTheOldestOn() {
        BlackLine x = Check.with("floor 9 by 9;box a at 0 0 way 1;box b at 7 8 way 1;");
        x.steps(2);
        int[][] due = {{0, 0, 1, 0}, {0, 1, 8, 8}, {1, 0, 2, 0}};
        for (int k = 0; k < due.length; k++) {
            for (int what = 0; what < 4; what++) {
                Check.due("kept(" + k + ", " + what + ")", x.kept(k, what), due[k][what]);
            }
        }
        BlackLine late = Check.with("floor 9 by 9;box a at 0 0 way 1;goes step=998;power 999;");
        Check.toStep(late, 999);
        Check.due("the STEP ahead of it", late.kept(0, 0), 998);
        StringBuilder s = new StringBuilder("floor 9 by 9;");
        for (int k = 0; k < 6; k++) {
            s.append("box ").append((char) ('a' + k)).append(" at 7 ").append(k + 3).append(" way 1;");
        }
        BlackLine six = Check.with(s.toString());
        six.steps(3);
        for (int k = 0; k < 6; k++) {
            Check.due("BOX " + k, six.kept(k, 1), k);
            Check.due("column of BOX " + k, six.kept(k, 2), 8);
            Check.due("row of BOX " + k, six.kept(k, 3), k + 3);
        }
    }

    @Edge(promise = 29, says = "(the last 60 are told)")
    static void lastSixtyKept() {
        BlackLine x = Check.with("floor 9 by 9;box a at 4 4 way 1;bias a 1;");
        x.steps(60);
        Check.due("the oldest of 60", x.kept(0, 0), 0);
        Check.due("the latest of 60", x.kept(59, 0), 59);
        x.steps(1);
        Check.due("has(8)", x.has(8), 60);
        Check.due("the oldest of 61", x.kept(0, 0), 1);
        Check.due("its column", x.kept(0, 2), 5);
        Check.due("its row", x.kept(0, 3), 5);
        Check.due("the latest of 61", x.kept(59, 0), 60);
        Check.due("no more", x.kept(60, 0), -1);
        x.steps(100);
        Check.due("the oldest of 161", x.kept(0, 0), 101);
        x.undo();
        x.undo();
        Check.due("the oldest, two undone", x.kept(0, 0), 0);
        Check.due("the latest, two undone", x.kept(59, 0), 59);
    }

    @Edge(promise = 29, says = "KEPT is each CELL to which a BOX goes in a STEP: STEP (ahead of it), BOX, column, row")
    static void keptOnlyWhereItGoes() {
        BlackLine x = Check.with("floor 2 by 2;box a at 0 0 way 0;cat 0;");
        x.steps(5);
        Check.due("BLOCKED", x.has(8), 0);
        x.put(0, 1, 1);
        x.turn(0, 3);
        Check.due("PUT and turned", x.has(8), 0);
        x.later(0, 5, 0);
        Check.due("AHEAD", x.has(8), 0);
        x.chance(1);
        Check.due("by the seed", x.has(8), 1);
        Check.due("its STEP", x.kept(0, 0), 5);
        Check.due("its column", x.kept(0, 2), 0);
        Check.due("its row", x.kept(0, 3), 1);
        x.steps(9);
        Check.due("BLOCKED behind a CELL to which it went", x.has(8), 1);
    }

    @Edge(promise = 29, says = "NONE when there is none such, or for others.")
    static void keptNone() {
        BlackLine x = Check.with("floor 9 by 9;box a at 0 0 way 1;");
        Check.due("none yet", x.kept(0, 0), -1);
        x.steps(3);
        Check.due("the last one", x.kept(2, 0), 2);
        int[][] none = {{3, 0}, {-1, 0}, {0, 4}, {0, -1}, {LEAST, 0}, {GREATEST, 0}, {0, LEAST}, {0, GREATEST}, {60, 0}};
        for (int[] a : none) {
            Check.due("kept(" + a[0] + ", " + a[1] + ")", x.kept(a[0], a[1]), -1);
        }
        Check.due("without a floor", new BlackLine().kept(0, 0), -1);
    }

    @Edge(promise = 33, says = "0 feed(), end(); 1 kitchen(); 2 steps(), chance(); 3 turn(), put(), shine(); 4 undo(); 5 seed(), track(), on().")
    static void refusedByKind() {
        BlackLine x = new BlackLine();
        int[] due = new int[6];
        dueStatus("new", x, due);
        x.end(1);
        due[0]++;
        dueStatus("end()", x, due);
        for (int k = 0; k < 81; k++) {
            x.feed(0, 0, 0, 0, 0);
        }
        due[0]++;
        dueStatus("feed()", x, due);
        x.kitchen();
        due[1]++;
        dueStatus("kitchen()", x, due);
        x.steps(0);
        x.chance(101);
        due[2] += 2;
        dueStatus("steps(), chance()", x, due);
        x.turn(0, 0);
        x.put(0, 0, 0);
        x.shine(10);
        due[3] += 3;
        dueStatus("turn(), put(), shine()", x, due);
        x.undo();
        due[4]++;
        dueStatus("undo()", x, due);
        x.seed(-1);
        x.track();
        x.on();
        due[5] += 3;
        dueStatus("seed(), track(), on()", x, due);
        Check.read(x, TWO);
        dueStatus("all stay by a KITCHEN", x, due);
        x.steps(1);
        x.undo();
        dueStatus("nor are they undone", x, due);
    }

    private static void dueStatus(String what, BlackLine x, int[] due) {
        for (int k = 0; k < due.length; k++) {
            Check.due(what + ", status(" + k + ")", x.status(k), due[k]);
        }
    }

    @Edge(promise = 33, says = "How many were refused")
    static void questionsAreNotRefused() {
        BlackLine x = new BlackLine();
        int none = x.later(0, 99, 9) + x.round(9) + x.loses(9, 9) + x.jam() + x.gap(9, 9, 9) + x.tuned(9, 9, 9) + x.found(9)
                + x.spaced(99) + x.bright(99) + x.wheel(9, 9) + x.kept(9, 9) + x.octet(9) + x.has(99) + x.letter(9, 9)
                + x.cell(9, 9, 9) + x.box(9, 9) + x.sees(9, 9) + x.fault(9) + x.status(9);
        Check.due("NONE by each of 19", none, -19);
        dueStatus("behind them", x, new int[6]);
    }

    @Edge(promise = 33, says = "NONE for others.")
    static void statusOfOthers() {
        BlackLine x = new BlackLine();
        int[] others = {6, -1, LEAST, GREATEST};
        for (int what : others) {
            Check.due("status(" + what + ")", x.status(what), -1);
        }
    }
}
