/** Boundaries of promises 22 and 23: what a STEP does, without DRAWS and by the seed. */
final class StepEdges {
    private StepEdges() {
    }

    private static BlackLine stepped(String text, int n) {
        BlackLine x = Check.with(text);
        x.steps(n);
        return x;
    }

    @Edge(promise = 22, says = "n STEPS go by (1 .. 100)")
    static void oneToHundred() {
        BlackLine x = Check.with("floor 2 by 2;box a at 0 0 way 1;bias a 1;");
        Check.due("steps(1)", x.steps(1), 1);
        Check.due("STEP", x.has(4), 1);
        Check.due("steps(100)", x.steps(100), 100);
        Check.due("STEP, 101", x.has(4), 101);
        int[] others = {0, 101, -1, Integer.MIN_VALUE, Integer.MAX_VALUE};
        for (int n : others) {
            Check.due("steps(" + n + ")", x.steps(n), -1);
        }
        Check.due("status(2)", x.status(2), others.length);
        Check.due("STEP stays", x.has(4), 101);
        Check.due("ACTS", x.has(9), 2);
    }

    @Edge(promise = 22, says = "without DRAWS")
    static void withoutDraws() {
        BlackLine x = Check.with("floor 9 by 9;box a at 0 0 way 1;cat 100;");
        Check.due("no cat", x.steps(8), 8);
        Check.due("no DRAW", x.has(10), 1);
    }

    @Edge(promise = 22, says = "to how many CELLS BOXES went")
    static void howManyCells() {
        Check.due("none, BLOCKED", Check.with("floor 2 by 2;box a at 0 0 way 0;").steps(100), 0);
        Check.due("none, without BOXES", Check.with("floor 2 by 2;").steps(100), 0);
        Check.due("none, without a floor", new BlackLine().steps(100), 0);
        StringBuilder s = new StringBuilder("floor 9 by 9;");
        for (int k = 0; k < 6; k++) {
            s.append("box ").append((char) ('a' + k)).append(" at 0 ").append(k).append(" way 1;");
        }
        BlackLine six = Check.with(s.toString());
        Check.due("six in one STEP", six.steps(1), 6);
        Check.due("to the wall", six.steps(100), 42);
    }

    @Edge(promise = 22, says = "NONE, refused (2), when it can't be (beyond STEP 999).")
    static void notBeyondTheLastStep() {
        BlackLine x = Check.with("floor 2 by 2;box a at 0 0 way 1;bias a 1;power 999;");
        Check.toStep(x, 950);
        Check.due("50", x.steps(50), -1);
        Check.due("100", x.steps(100), -1);
        Check.due("STEP stays", x.has(4), 950);
        Check.due("49", x.steps(49), 49);
        Check.due("STEP", x.has(4), 999);
        Check.due("power", x.box(0, 3), 0);
        Check.due("1", x.steps(1), -1);
        Check.due("status(2)", x.status(2), 3);
        x.undo();
        Check.due("49 again", x.steps(49), 49);
    }

    @Edge(promise = 23, says = "n STEPS by the seed (1 .. 100), one ACT")
    static void oneToHundredBySeed() {
        BlackLine x = Check.with("floor 2 by 2;box a at 0 0 way 1;cat 100;");
        Check.due("chance(1)", x.chance(1), 1);
        Check.due("chance(100)", x.chance(100), 100);
        Check.due("STEP", x.has(4), 101);
        Check.due("one ACT each", x.has(9), 2);
        int[] others = {0, 101, -1, Integer.MIN_VALUE, Integer.MAX_VALUE};
        int seed = x.has(10);
        for (int n : others) {
            Check.due("chance(" + n + ")", x.chance(n), -1);
        }
        Check.due("status(2)", x.status(2), others.length);
        Check.due("STEP stays", x.has(4), 101);
        Check.due("ACTS stay", x.has(9), 2);
        Check.due("the seed stays", x.has(10), seed);
        x.undo();
        Check.due("a hundred undone at once", x.has(4), 1);
    }

    @Edge(promise = 23, says = "how often the cat came; NONE, refused (2), when it can't be.")
    static void bySeedNotBeyondTheLastStep() {
        BlackLine x = Check.with("floor 2 by 2;box a at 0 0 way 1;cat 100;");
        Check.toStep(x, 998);
        Check.due("2", x.chance(2), -1);
        Check.due("status(2)", x.status(2), 1);
        Check.due("1", x.chance(1), 1);
        Check.due("STEP", x.has(4), 999);
        Check.due("1 more", x.chance(1), -1);
        Check.due("status(2), two", x.status(2), 2);
    }

    /** From seed 1 on the first DRAW of 100 is 18, the second DRAW is 5896899 modulo as many as there are BOXES. */
    @Edge(promise = 23, says = "a STEP begins with a DRAW of 100: below cat, if there are BOXES, a DRAW of these")
    static void belowCat() {
        String two = "floor 9 by 9;box a at 4 4 way 1;box b at 2 7 way 0;goes 1=2;cat ";
        BlackLine at = Check.with(two + "18;");
        Check.due("18 is not below 18", at.chance(1), 0);
        Check.due("one DRAW", at.has(10), 1103527590);
        BlackLine above = Check.with(two + "19;");
        Check.due("18 is below 19", above.chance(1), 1);
        Check.due("two DRAWS", above.has(10), 377401575);
        Check.due("not BOX 0", above.box(0, 2), 1);
        Check.due("BOX 1", above.box(1, 2), 2);
        BlackLine one = Check.with("floor 9 by 9;box a at 4 4 way 1;goes 1=2;cat 19;");
        Check.due("one BOX", one.chance(1), 1);
        Check.due("a DRAW of 1 is one, too", one.has(10), 377401575);
        Check.due("that one", one.box(0, 2), 3);
        StringBuilder s = new StringBuilder("floor 9 by 9;goes 1=2;cat 19;");
        for (int k = 0; k < 6; k++) {
            s.append("box ").append((char) ('a' + k)).append(" at 0 ").append(k).append(" way 1;");
        }
        BlackLine six = Check.with(s.toString());
        six.chance(1);
        for (int k = 0; k < 6; k++) {
            Check.due("of six BOX " + k, six.box(k, 2), k == 3 ? 3 : 1);
        }
    }

    @Edge(promise = 23, says = "below cat, if there are BOXES")
    static void withoutBoxesNoCat() {
        BlackLine x = Check.with("floor 2 by 2;cat 100;");
        Check.due("no BOX", x.chance(3), 0);
        Check.due("STEP", x.has(4), 3);
        Check.due("a DRAW of 100 each", x.has(10), 662824084);
        BlackLine bare = new BlackLine();
        Check.due("no floor", bare.chance(100), 0);
        Check.due("its STEP", bare.has(4), 100);
    }

    @Edge(promise = 23, says = "that one turns round (to the WAY opposite)")
    static void turnsRound() {
        for (int way = 0; way < 4; way++) {
            BlackLine x = Check.with("floor 2 by 2;box a at 0 0 way " + way + ";goes 1=2;cat 100;");
            x.chance(1);
            Check.due("from WAY " + way, x.box(0, 2), (way + 2) % 4);
        }
        BlackLine ahead = Check.with("floor 9 by 9;box a at 4 4 way 1;cat 100;");
        ahead.chance(1);
        Check.dueBox("ahead of its STEP", ahead, 0, 3, 4, 3);
        BlackLine empty = Check.with("floor 2 by 2;box a at 0 0 way 1;power 0;cat 100;");
        Check.due("one without power, too", empty.chance(1), 1);
        Check.due("its WAY", empty.box(0, 2), 3);
    }

    @Edge(promise = 23, says = "x (the seed) becomes (1103515245 x + 12345) mod 2 to the 31; floor(x / 64) mod m.")
    static void draws() {
        int[] seeds = {0, 1, 12345, Integer.MAX_VALUE, 1 << 30};
        int[] next = {12345, 1103527590, 1406932606, 1043980748, 1073754169};
        BlackLine x = new BlackLine();
        for (int k = 0; k < seeds.length; k++) {
            x.seed(seeds[k]);
            x.chance(1);
            Check.due("behind seed " + seeds[k], x.has(10), next[k]);
        }
    }

    @Edge(promise = 22, says = "one without power does nothing")
    static void withoutPower() {
        BlackLine x = stepped("floor 9 by 2;box a at 0 0 way 1;steers 1;power 0;", 5);
        Check.dueBox("power 0", x, 0, 0, 0, 1, 0, 0);
        Check.due("not BLOCKED", x.later(0, 80, 4), 0);
        BlackLine y = stepped("floor 9 by 2;box a at 0 0 way 1;power 1;", 1);
        Check.dueBox("power 1, one STEP", y, 0, 1, 0, 1, 0, 1);
        y.steps(9);
        Check.dueBox("power 1, ten STEPS", y, 0, 1, 0, 1, 0, 1);
        BlackLine wall = Check.with("floor 2 by 2;box a at 0 0 way 0;box b at 0 1 way 0;power 0;");
        Check.due("nor is it BLOCKED by others", wall.later(1, 9, 4), 0);
    }

    @Edge(promise = 22, says = "A BOX is LOST for one STEP more (99 at most)")
    static void lostAtMost() {
        BlackLine x = stepped("floor 2 by 2;box a at 0 0 way 0;goes 1=2;", 98);
        Check.due("behind 98", x.box(0, 4), 98);
        x.steps(1);
        Check.due("behind 99", x.box(0, 4), 99);
        x.steps(1);
        Check.due("behind 100", x.box(0, 4), 99);
    }

    @Edge(promise = 22, says = "if no GREY that it SEES is 5 or more, for 0 STEPS, if one is")
    static void fiveOrMore() {
        String box = "floor 3 by 3;box a at 1 1 way 0;goes 1=2;steers 0;";
        Check.due("4 by all", stepped(box + "grey 0 0 4;grey 1 0 4;grey 2 0 4;", 1).box(0, 4), 1);
        for (int column = 0; column < 3; column++) {
            String line = "grey " + column + " 0 5;";
            Check.due("5 at column " + column, stepped(box + line, 3).box(0, 4), 0);
            Check.due("5 less 1 at column " + column, stepped(box + line + "lamp 1;", 3).box(0, 4), 3);
        }
        BlackLine x = stepped(box + "grey 1 0 9;lamp 5;", 99);
        Check.due("9 less 5", x.box(0, 4), 99);
        x.shine(4);
        x.steps(1);
        Check.due("9 less 4: from 99 to 0", x.box(0, 4), 0);
        Check.due("black beneath it is not SEEN", stepped(box + "grey 1 1 9;", 1).box(0, 4), 1);
    }

    @Edge(promise = 22, says = "(without steers: GREY SEEN by the right eye less that by the left one)")
    static void withoutSteers() {
        String box = "floor 3 by 3;box a at 1 1 way 0;goes 1=2;";
        Check.due("1 more to the right", stepped(box + "grey 0 0 3;grey 2 0 4;", 1).box(0, 2), 1);
        Check.due("as much", stepped(box + "grey 0 0 4;grey 2 0 4;", 1).box(0, 2), 0);
        Check.due("1 more to the left", stepped(box + "grey 0 0 4;grey 2 0 3;", 1).box(0, 2), 3);
        Check.due("both below the lamp", stepped(box + "grey 0 0 4;grey 2 0 3;lamp 4;", 1).box(0, 2), 0);
    }

    @Edge(promise = 22, says = "its right is the next WAY (3 is followed by 0)")
    static void turnsOverTheLastWay() {
        int[] right = {1, 2, 3, 0};
        int[] left = {3, 0, 1, 2};
        for (int way = 0; way < 4; way++) {
            String box = "floor 2 by 2;box a at 0 0 way " + way + ";goes 1=2;steers ";
            Check.due("right of " + way, stepped(box + "1;", 1).box(0, 2), right[way]);
            Check.due("left of " + way, stepped(box + "0-1;", 1).box(0, 2), left[way]);
        }
    }

    @Edge(promise = 22, says = "if that is on the floor, and no BOX stands there; else it is BLOCKED")
    static void blocked() {
        int[][] cells = {{1, 0}, {2, 1}, {1, 2}, {0, 1}};
        for (int way = 0; way < 4; way++) {
            BlackLine x = Check.with("floor 3 by 3;box a at " + cells[way][0] + " " + cells[way][1] + " way " + way
                    + ";box b at 1 1 way " + way + ";");
            Check.due("a at the wall, way " + way, x.later(0, 1, 4), 1);
            Check.due("b behind it, way " + way, x.later(1, 1, 4), 1);
            Check.due("nothing goes", x.steps(1), 0);
            Check.dueBox("stays", x, 0, cells[way][0], cells[way][1], way, 499);
            x.turn(0, (way + 1) % 4);
            Check.due("a goes aside, b follows", x.steps(1), 2);
            Check.due("b is where a was", x.cell(cells[way][0], cells[way][1], 2), 1);
        }
    }

    @Edge(promise = 22, says = "(without the TEST holding it stands, and is not)")
    static void standsAndIsNotBlocked() {
        BlackLine x = Check.with("floor 2 by 2;box a at 0 0 way 0;goes step=3;");
        Check.due("ahead of it", x.later(0, 3, 4), 0);
        Check.due("with it", x.later(0, 4, 4), 1);
        Check.due("behind it", x.later(0, 80, 4), 1);
        Check.due("power goes all the same", stepped("floor 2 by 2;box a at 0 0 way 0;goes 1=2;", 9).box(0, 3), 491);
    }

    @Edge(promise = 22, says = "by what it saw ahead of its turn")
    static void asSeenAheadOfTheTurn() {
        String box = "floor 3 by 3;grey 0 0 7;box a at 1 1 way 0;goes ";
        Check.dueBox("left=7 though it turned", stepped(box + "left=7;", 1), 0, 0, 1, 3);
        Check.dueBox("not what it SEES by then", stepped(box + "right=7;", 1), 0, 1, 1, 3);
    }

    @Edge(promise = 22, says = "Behind each bias-th CELL to which it goes (as told of bias; 0: never) it turns right once more.")
    static void biasFromNeverToNine() {
        for (int bias = 0; bias <= 9; bias++) {
            BlackLine x = Check.with("floor 9 by 9;box a at 0 0 way 1;bias a " + bias + ";");
            Check.due("bias " + bias + ", CELLS", x.steps(8), 8);
            Check.due("bias " + bias + ", WAY", x.box(0, 2), (1 + (bias == 0 ? 0 : 8 / bias)) % 4);
        }
        BlackLine nine = stepped("floor 9 by 9;box a at 0 0 way 1;bias a 9;", 8);
        Check.dueBox("8 CELLS", nine, 0, 8, 0, 1);
        nine.steps(5);
        Check.dueBox("BLOCKED ones are no CELLS", nine, 0, 8, 0, 1);
        nine.turn(0, 2);
        nine.steps(1);
        Check.dueBox("the 9th", nine, 0, 8, 1, 3);
        BlackLine more = stepped("floor 9 by 9;box a at 4 4 way 3;bias a 1;steers 1;", 1);
        Check.dueBox("once more than by steers, from 3 on", more, 0, 4, 3, 1);
    }

    @Edge(promise = 22, says = "Its power is 1 less. The STEP is one more (999 at most).")
    static void powerAndStep() {
        BlackLine x = stepped("floor 9 by 2;box a at 0 0 way 1;power 999;", 1);
        Check.due("power", x.box(0, 3), 998);
        Check.due("STEP", x.has(4), 1);
        Check.toStep(x, 999);
        Check.due("power at last", x.box(0, 3), 0);
        Check.due("beyond", x.steps(1), -1);
        Check.due("by the seed", x.chance(1), -1);
        Check.due("STEP at last", x.has(4), 999);
    }

    @Edge(promise = 22, says = "BOX by BOX, by numbers, all by what is so then")
    static void boxByBox() {
        BlackLine ahead = Check.with("floor 4 by 2;box a at 1 0 way 1;box b at 0 0 way 1;");
        Check.due("onto the CELL that was left", ahead.steps(1), 2);
        BlackLine behind = Check.with("floor 4 by 2;box a at 0 0 way 1;box b at 1 0 way 1;");
        Check.due("not yet left", behind.steps(1), 1);
        BlackLine meet = Check.with("floor 3 by 3;box a at 0 1 way 1;box b at 1 0 way 2;");
        Check.due("both to one CELL", meet.steps(1), 1);
        Check.due("the first one has it", meet.cell(1, 1, 2), 0);
    }
}
