/** Promises 6, 8, 9, 10 and what a STEP does: what is now, EYES, steers and goes. */
public final class NowTest {
    public static void main(String[] args) {
        counts();
        cells();
        boxes();
        eyes();
        stepWithoutFormulas();
        lostAndPower();
        bias();
        blocked();
        sums();
        tests();
        knowns();
        Check.finish();
    }

    private static void counts() {
        BlackLine x = Check.with("floor 4 by 3;grey 0 0 5;grey 1 0 6;grey 2 0 4;grey 3 2 9;"
                + "box a at 0 1 way 1;box b at 3 2 way 2;power 1;");
        Check.due("black", x.has(3), 3);
        x.shine(1);
        Check.due("black by lamp 1", x.has(3), 2);
        x.shine(5);
        Check.due("black by lamp 5", x.has(3), 0);
        Check.due("lamp", x.has(5), 5);
        x.steps(1);
        Check.due("step", x.has(4), 1);
        Check.due("lost", x.has(6), 2);
        Check.due("without power", x.has(7), 2);
        Check.due("kept", x.has(8), 1);
        Check.due("acts", x.has(9), 3);
        Check.due("seed", x.has(10), 1);
        Check.due("has(-1)", x.has(-1), -1);
        Check.due("has(11)", x.has(11), -1);
    }

    private static void cells() {
        BlackLine x = Check.with("floor 4 by 3;grey 3 2 7;box a at 3 2 way 0;box b at 0 1 way 0;lamp 2;");
        Check.due("grey as told", x.cell(3, 2, 0), 7);
        Check.due("black", x.cell(3, 2, 1), 1);
        Check.due("box", x.cell(3, 2, 2), 0);
        Check.due("other box", x.cell(0, 1, 2), 1);
        Check.due("no box", x.cell(1, 0, 2), -1);
        x.shine(3);
        Check.due("grey as told still", x.cell(3, 2, 0), 7);
        Check.due("black no more", x.cell(3, 2, 1), 0);
        Check.due("other what", x.cell(3, 2, 3), -1);
        Check.due("what -1", x.cell(3, 2, -1), -1);
        Check.due("column 4", x.cell(4, 0, 0), -1);
        Check.due("row 3", x.cell(0, 3, 0), -1);
        Check.due("column -1", x.cell(-1, 0, 0), -1);
        Check.due("row -1", x.cell(0, -1, 0), -1);
    }

    private static void boxes() {
        BlackLine x = Check.with("floor 4 by 3;box a at 2 1 way 3;eyes a apart 2 ahead 3;bias a 8;power 40;");
        int[] due = {2, 1, 3, 40, 0, 2, 3, 8};
        for (int what = 0; what < due.length; what++) {
            Check.due("box(0, " + what + ")", x.box(0, what), due[what]);
        }
        Check.due("box(0, 8)", x.box(0, 8), -1);
        Check.due("box(0, -1)", x.box(0, -1), -1);
        Check.due("box(1, 0)", x.box(1, 0), -1);
        Check.due("box(-1, 0)", x.box(-1, 0), -1);
        Check.due("box(far, 0)", x.box(Integer.MIN_VALUE, 0), -1);
    }

    /** Round about (1, 1) the greys 1 to 8, from the upper left CELL on, with the clock. */
    private static void eyes() {
        BlackLine x = Check.with("floor 3 by 3;grey 0 0 1;grey 1 0 2;grey 2 0 3;grey 2 1 4;grey 2 2 5;grey 1 2 6;"
                + "grey 0 2 7;grey 0 1 8;grey 1 1 9;box a at 1 1 way 0;box b at 0 0 way 1;"
                + "eyes b apart 2 ahead 0;");
        int[][] due = {{1, 3, 2}, {3, 5, 4}, {5, 7, 6}, {7, 1, 8}};
        for (int way = 0; way < 4; way++) {
            x.turn(0, way);
            for (int eye = 0; eye < 3; eye++) {
                Check.due("way " + way + ", sees(0, " + eye + ")", x.sees(0, eye), due[way][eye]);
            }
        }
        Check.due("beyond the floor", x.sees(1, 0), 0);
        Check.due("two to the right", x.sees(1, 1), 7);
        Check.due("none ahead", x.sees(1, 2), 1);
        x.shine(3);
        Check.due("less the lamp", x.sees(1, 1), 4);
        Check.due("0 at least", x.sees(1, 2), 0);
        Check.due("eye 3", x.sees(0, 3), -1);
        Check.due("eye -1", x.sees(0, -1), -1);
        Check.due("no box", x.sees(2, 0), -1);
        BlackLine y = Check.with("floor 5 by 5;grey 1 1 6;grey 3 1 8;grey 4 4 9;box a at 2 4 way 0;"
                + "eyes a apart 1 ahead 3;box b at 3 3 way 2;eyes b apart 1 ahead 1;box c at 4 3 way 1;"
                + "eyes c apart 0 ahead 0;");
        Check.due("three ahead, left", y.sees(0, 0), 6);
        Check.due("three ahead, right", y.sees(0, 1), 8);
        Check.due("down, left", y.sees(1, 0), 9);
        Check.due("down, right", y.sees(1, 1), 0);
        Check.due("apart 0", y.sees(2, 0), 0);
    }

    private static void state(String what, BlackLine x, int box, int... due) {
        for (int k = 0; k < due.length; k++) {
            Check.due(what + ", box(" + box + ", " + k + ")", x.box(box, k), due[k]);
        }
    }

    private static void stepWithoutFormulas() {
        BlackLine x = Check.with("floor 5 by 5;grey 1 2 3;grey 3 2 4;box a at 2 3 way 0;");
        Check.due("goes", x.steps(1), 1);
        state("turns to the greyer right", x, 0, 3, 3, 1, 499, 1);
        BlackLine y = Check.with("floor 5 by 5;grey 1 2 5;grey 3 2 4;box a at 2 3 way 0;");
        y.steps(1);
        state("turns to the greyer left", y, 0, 1, 3, 3, 499, 0);
        BlackLine z = Check.with("floor 5 by 5;grey 1 2 9;grey 3 2 9;box a at 2 3 way 0;");
        z.steps(1);
        state("straight on", z, 0, 2, 2, 0, 499, 0);
    }

    private static void lostAndPower() {
        BlackLine x = Check.with("floor 9 by 2;grey 1 0 9;grey 3 0 5;box a at 0 0 way 1;power 4;lamp 1;");
        x.steps(1);
        Check.due("sees black", x.box(0, 4), 0);
        x.steps(1);
        Check.due("lost", x.box(0, 4), 1);
        x.steps(1);
        Check.due("5 less 1 is not black", x.box(0, 4), 2);
        x.shine(0);
        x.put(0, 2, 0);
        x.steps(1);
        Check.due("found", x.box(0, 4), 0);
        Check.due("power", x.box(0, 3), 0);
        Check.due("does nothing", x.steps(5), 0);
        state("without power", x, 0, 3, 0, 1, 0, 0);
        BlackLine y = Check.with("floor 2 by 2;box a at 0 0 way 0;goes 1=2;");
        y.steps(98);
        Check.due("lost for 98", y.box(0, 4), 98);
        y.steps(50);
        Check.due("99 at most", y.box(0, 4), 99);
        Check.due("power goes though it stands", y.box(0, 3), 352);
        BlackLine z = Check.with("floor 2 by 2;box a at 0 0 way 0;power 0;");
        z.steps(3);
        Check.due("not lost without power", z.box(0, 4), 0);
    }

    private static void bias() {
        BlackLine x = Check.with("floor 9 by 9;box a at 1 8 way 0;bias a 3;");
        x.steps(2);
        state("ahead of the third", x, 0, 1, 6, 0);
        x.steps(1);
        state("behind the third", x, 0, 1, 5, 1);
        x.steps(3);
        state("behind the sixth", x, 0, 4, 5, 2);
        BlackLine y = Check.with("floor 2 by 9;box a at 0 1 way 0;bias a 2;");
        y.steps(4);
        state("blocked ones do not count", y, 0, 0, 0, 0);
        y.turn(0, 1);
        y.steps(1);
        state("the second cell", y, 0, 1, 0, 2);
    }

    private static void blocked() {
        BlackLine x = Check.with("floor 4 by 2;box a at 0 0 way 1;box b at 1 0 way 1;");
        Check.due("the first is blocked by the second", x.steps(1), 1);
        state("a", x, 0, 0, 0);
        state("b", x, 1, 2, 0);
        BlackLine y = Check.with("floor 4 by 2;box b at 1 0 way 1;box a at 0 0 way 1;");
        Check.due("by numbers: the second follows", y.steps(1), 2);
        Check.due("the cell left is free", y.box(1, 0), 1);
        Check.due("later a", x.later(0, 3, 4), 1);
        Check.due("at the wall", x.later(1, 3, 4), 2);
    }

    private static void sumIs(String sum, int value) {
        String text = "floor 2 by 2;box a at 0 0 way 0;grey 0 0 9;lamp 2;eyes a apart 0 ahead 0;";
        BlackLine x = Check.with(text + "steers (" + sum + ")-" + value(value) + ";goes all;");
        Check.due(sum + " is " + value, x.later(0, 1, 2), 0);
        BlackLine y = Check.with(text + "steers (" + sum + ")-" + value(value) + "+1;");
        Check.due(sum + " is not below " + value, y.later(0, 1, 2), 1);
        BlackLine z = Check.with(text + "steers (" + sum + ")-" + value(value) + "-1;");
        Check.due(sum + " is not above " + value, z.later(0, 1, 2), 3);
    }

    private static String value(int value) {
        int size = Math.abs(value);
        String digits = size > 9999 ? "(" + size / 1000 + "*1000+" + size % 1000 + ")" : Integer.toString(size);
        return value < 0 ? "(0-" + digits + ")" : digits;
    }

    private static void sums() {
        sumIs("2+3*4", 14);
        sumIs("20-5-3", 12);
        sumIs("100/7/2", 7);
        sumIs("7*9/2%4", 3);
        sumIs("(0-7)/2", -4);
        sumIs("7/(0-2)", -4);
        sumIs("(0-7)/(0-2)", 3);
        sumIs("(0-7)%2", 1);
        sumIs("7%(0-2)", -1);
        sumIs("(0-6)%3", 0);
        sumIs("5/0", 0);
        sumIs("5%0", 0);
        sumIs("5/0+3%0", 0);
        sumIs("9999*9999", 1000000);
        sumIs("9999*9999-9999*9999*2", 0);
        sumIs("(0-9999)*9999", -1000000);
        sumIs("9999*9999*9999/1000", 1000);
        sumIs("1000*1000+1-1", 999999);
        sumIs("0-1000*1000-5+5", -999995);
        sumIs("min(3,2-5)", -3);
        sumIs("max(3,2-5)", 3);
        sumIs("if(1<2,10,20)", 10);
        sumIs("if(1>2,10,20)", 20);
        sumIs("if(not 1=2 and [1<2 or all],min(4,5),1/0)", 4);
        sumIs("left+right+mid", 21);
        sumIs("lost", 0);
    }

    private static void testHolds(String test, boolean holds) {
        BlackLine x = Check.with("floor 2 by 2;box a at 0 0 way 1;steers 0;goes " + test + ";");
        Check.due(test, x.later(0, 1, 0), holds ? 1 : 0);
    }

    private static void tests() {
        testHolds("1<2", true);
        testHolds("2<2", false);
        testHolds("2>1", true);
        testHolds("2>2", false);
        testHolds("2=2", true);
        testHolds("2=1", false);
        testHolds("all", true);
        testHolds("not all", false);
        testHolds("not not all", true);
        testHolds("all or not all and not all", true);
        testHolds("[all or not all] and not all", false);
        testHolds("not all or all", true);
        testHolds("not [all and 1=2]", true);
        testHolds("not 1=2 and 1<2", true);
        testHolds("1=2 or 1=3 or 1=1", true);
        testHolds("1=1 and 1=1 and 1=2", false);
        testHolds("power=500", true);
        testHolds("turned=0", true);
        testHolds("lost=1", true);
        testHolds("step=0", true);
    }

    private static void knowns() {
        BlackLine x = Check.with("floor 9 by 9;box a at 4 4 way 0;steers if(step=2,1,0-if(step=4,1,0));goes turned=0;");
        x.steps(3);
        state("turned right in step 2, and stood", x, 0, 4, 2, 1, 497);
        x.steps(2);
        state("turned left in step 4, and stood", x, 0, 5, 2, 0, 495);
        BlackLine y = Check.with("floor 9 by 9;box a at 4 4 way 0;goes power>498;");
        y.steps(5);
        state("by its power ahead of the step", y, 0, 4, 2, 0);
        BlackLine z = Check.with("floor 9 by 9;box a at 4 4 way 0;goes lost>1;");
        z.steps(3);
        state("lost with this step", z, 0, 4, 2, 0);
        BlackLine seen = Check.with("floor 5 by 5;grey 1 1 7;box a at 2 2 way 0;goes left=7 and right=0 and mid=0;");
        seen.steps(1);
        state("by what it saw ahead of its turn", seen, 0, 1, 2, 3);
        BlackLine late = Check.with("floor 9 by 9;box a at 0 0 way 1;power 999;goes step>996;");
        late.steps(100);
        for (int k = 0; k < 8; k++) {
            late.steps(100);
        }
        late.steps(99);
        Check.due("the step, near its end", late.box(0, 0), 2);
    }
}
