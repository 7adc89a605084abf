/** Boundaries of promise 4: what a KITCHEN tells, and how it begins. */
final class TextEdges {
    private static final String FLOOR = "floor 3 by 4;";
    private static final String AMY = FLOOR + "box amy at 1 1 way 1;";

    private TextEdges() {
    }

    private static void good(String text, int statements) {
        Check.due("kitchen() of '" + text + "'", Check.read(new BlackLine(), text), statements);
    }

    private static String boxes(int count) {
        StringBuilder s = new StringBuilder("floor 9 by 2;");
        for (int k = 0; k < count; k++) {
            s.append("box ").append((char) ('a' + k)).append(" at ").append(k).append(" 0 way 0;");
        }
        return s.toString();
    }

    @Edge(promise = 4, says = "(80 at most)")
    static void eightyStatements() {
        good(FLOOR + "lamp 1;".repeat(79), 80);
        good(FLOOR + "lamp 1;".repeat(79) + "\n ", 80);
        Check.dueFault(FLOOR + "lamp 1;".repeat(80), 6, FLOOR.length() + 7 * 79);
    }

    @Edge(promise = 4, says = "floor N by N (2 .. 9 columns, rows")
    static void sidesOfTheFloor() {
        int[][] sides = {{2, 2}, {2, 9}, {9, 2}, {9, 9}};
        for (int[] side : sides) {
            BlackLine x = Check.with("floor " + side[0] + " by " + side[1] + ";");
            Check.due("columns", x.has(0), side[0]);
            Check.due("rows", x.has(1), side[1]);
            Check.due("the last CELL", x.cell(side[0] - 1, side[1] - 1, 0), 0);
            Check.due("behind the last column", x.cell(side[0], 0, 0), -1);
            Check.due("behind the last row", x.cell(0, side[1], 0), -1);
        }
        Check.dueFault("floor 0 by 4;", 4, 6);
        Check.dueFault("floor 1 by 4;", 4, 6);
        Check.dueFault("floor 10 by 4;", 4, 6);
        Check.dueFault("floor 4 by 0;", 4, 11);
        Check.dueFault("floor 4 by 1;", 4, 11);
        Check.dueFault("floor 4 by 10;", 4, 11);
    }

    @Edge(promise = 4, says = "the first STATEMENT, and it alone")
    static void floorFirstAndAlone() {
        String[] others = {"grey 0 0 1;", "box a at 0 0 way 0;", "steers 1;", "goes all;", "power 1;", "lamp 1;",
            "cat 1;"};
        for (String other : others) {
            Check.dueFault(other + FLOOR, 1, 0);
            good(FLOOR + other, 2);
        }
        Check.dueFault(FLOOR + FLOOR, 1, FLOOR.length());
        Check.dueFault(FLOOR + "lamp 1;" + FLOOR, 1, FLOOR.length() + 7);
    }

    @Edge(promise = 4, says = "grey N N N (a CELL by its column, row, from 0 on; 0 .. 9")
    static void greyOfACell() {
        BlackLine x = Check.with(FLOOR + "grey 0 0 9;grey 2 3 8;grey 0 3 7;grey 2 0 0;");
        Check.due("the first CELL", x.cell(0, 0, 0), 9);
        Check.due("the last CELL", x.cell(2, 3, 0), 8);
        Check.due("the first column, the last row", x.cell(0, 3, 0), 7);
        Check.due("grey 0", x.cell(2, 0, 0), 0);
        Check.dueFault(FLOOR + "grey 3 0 1;", 4, 18);
        Check.dueFault(FLOOR + "grey 0 4 1;", 4, 20);
        Check.dueFault(FLOOR + "grey 0 0 10;", 4, 22);
    }

    @Edge(promise = 4, says = "the last one of a CELL counts, 0 without")
    static void lastGreyCounts() {
        BlackLine x = Check.with(FLOOR + "grey 1 2 3;grey 1 2 9;grey 1 2 5;grey 2 1 4;grey 2 1 0;");
        Check.due("the last of three", x.cell(1, 2, 0), 5);
        Check.due("0 behind 4", x.cell(2, 1, 0), 0);
        Check.due("without", x.cell(0, 0, 0), 0);
        Check.read(x, FLOOR);
        Check.due("without, behind another KITCHEN", x.cell(1, 2, 0), 0);
    }

    @Edge(promise = 4, says = "a CELL on which no BOX stands")
    static void cellOfABox() {
        BlackLine x = Check.with(AMY + "box b at 0 0 way 0;box c at 2 3 way 3;box d at 1 2 way 0;box e at 2 1 way 0;");
        Check.due("on the first CELL", x.cell(0, 0, 2), 1);
        Check.due("on the last CELL", x.cell(2, 3, 2), 2);
        Check.due("below another one", x.cell(1, 2, 2), 3);
        Check.due("beside another one", x.cell(2, 1, 2), 4);
        Check.dueFault(AMY + "box b at 1 1 way 1;", 4, 45);
        Check.dueFault(AMY + "box b at 3 1 way 1;", 4, 43);
        Check.dueFault(AMY + "box b at 1 4 way 1;", 4, 45);
    }

    @Edge(promise = 4, says = "0 up, 1 right, 2 down, 3 left")
    static void ways() {
        int[][] cells = {{1, 0}, {2, 1}, {1, 2}, {0, 1}};
        for (int way = 0; way < 4; way++) {
            BlackLine x = Check.with("floor 3 by 3;box a at 1 1 way " + way + ";");
            Check.due("way " + way + ", column", x.later(0, 1, 0), cells[way][0]);
            Check.due("way " + way + ", row", x.later(0, 1, 1), cells[way][1]);
        }
        Check.dueFault(FLOOR + "box a at 1 1 way 4;", 4, 30);
    }

    @Edge(promise = 4, says = "6 BOXES")
    static void sixBoxes() {
        BlackLine x = Check.with(boxes(6));
        Check.due("has(2)", x.has(2), 6);
        Check.due("the sixth", x.box(5, 0), 5);
        Check.due("no seventh", x.box(6, 0), -1);
        Check.dueFault(boxes(7), 6, boxes(6).length());
    }

    @Edge(promise = 4, says = "eyes NAME apart N ahead N (a BOX; 0 .. 2; 0 .. 3; the last one counts; 1, 1 without)")
    static void eyes() {
        BlackLine x = Check.with(AMY + "box b at 0 0 way 0;box c at 2 2 way 0;eyes amy apart 0 ahead 0;"
                + "eyes b apart 0 ahead 1;eyes b apart 2 ahead 3;");
        Check.dueBox("the least", x, 0, 1, 1, 1, 500, 0, 0, 0, 0);
        Check.dueBox("the greatest, as the last one", x, 1, 0, 0, 0, 500, 0, 2, 3, 0);
        Check.dueBox("without", x, 2, 2, 2, 0, 500, 0, 1, 1, 0);
        Check.dueFault(AMY + "eyes amy apart 3 ahead 0;", 4, 49);
        Check.dueFault(AMY + "eyes amy apart 0 ahead 4;", 4, 57);
    }

    @Edge(promise = 4, says = "bias NAME N (a BOX; 0 .. 9; the last one counts, 0 without)")
    static void bias() {
        BlackLine x = Check.with(AMY + "box b at 0 0 way 0;box c at 2 2 way 0;bias amy 4;bias amy 9;bias b 9;bias b 0;");
        Check.due("the greatest, as the last one", x.box(0, 7), 9);
        Check.due("the least, as the last one", x.box(1, 7), 0);
        Check.due("without", x.box(2, 7), 0);
        Check.dueFault(AMY + "bias amy 10;", 4, 43);
    }

    @Edge(promise = 4, says = "steers SUM, goes TEST (one each)")
    static void oneOfEach() {
        good(FLOOR + "steers 1;goes all;", 3);
        good(FLOOR + "goes all;steers 1;", 3);
        Check.dueFault(FLOOR + "steers 1;goes all;steers 1;", 6, 31);
        Check.dueFault(FLOOR + "goes all;steers 1;goes all;", 6, 31);
    }

    @Edge(promise = 4, says = "power N (0 .. 999)")
    static void power() {
        Check.due("the least", Check.with(AMY + "power 0;").box(0, 3), 0);
        Check.due("the greatest, told ahead of the BOX",
                Check.with(FLOOR + "power 999;box a at 0 0 way 0;").box(0, 3), 999);
        Check.dueFault(FLOOR + "power 1000;", 4, 19);
    }

    @Edge(promise = 4, says = "lamp N (0 .. 9)")
    static void lamp() {
        Check.due("the least", Check.with(AMY + "lamp 0;").has(5), 0);
        Check.due("the greatest", Check.with(AMY + "lamp 9;").has(5), 9);
        Check.dueFault(FLOOR + "lamp 10;", 4, 18);
    }

    @Edge(promise = 4, says = "cat N (0 .. 100)")
    static void cat() {
        Check.due("never", Check.with(AMY + "cat 0;").chance(100), 0);
        Check.due("always", Check.with(AMY + "cat 100;").chance(100), 100);
        Check.dueFault(FLOOR + "cat 101;", 4, 17);
    }

    @Edge(promise = 4, says = "the last one of each counts (500, 0, 0 without)")
    static void lastSettingCounts() {
        BlackLine x = Check.with(AMY + "power 1;lamp 9;cat 100;power 999;lamp 3;cat 0;power 77;");
        Check.due("power", x.box(0, 3), 77);
        Check.due("lamp", x.has(5), 3);
        Check.due("cat", x.chance(100), 0);
        Check.due("one more KITCHEN", Check.read(x, AMY), 2);
        Check.due("power without", x.box(0, 3), 500);
        Check.due("lamp without", x.has(5), 0);
        Check.due("cat without", x.chance(100), 0);
    }

    @Edge(promise = 4, says = "NAMES: 1 to 6 letters, unlike ones, told ahead of where they are asked.")
    static void names() {
        good(FLOOR + "box a at 0 0 way 0;box abcdef at 0 1 way 0;box abcde at 0 2 way 0;box z at 0 3 way 0;"
                + "eyes abcdef apart 0 ahead 0;bias a 1;", 7);
        Check.dueFault(FLOOR + "box at 0 0 way 0;", 1, 17);
        Check.dueFault(FLOOR + "box abcdefg at 0 0 way 0;", 1, 23);
        Check.dueFault(AMY + "box amy at 0 0 way 0;", 2, 38);
        Check.dueFault(FLOOR + "bias amy 1;box amy at 1 1 way 1;", 3, 18);
    }

    @Edge(promise = 4, says = "NUMBERS: 1 to 4 digits.")
    static void numbers() {
        good("floor 3 by 0004;lamp 09;power 0999;", 3);
        good(FLOOR + "steers 9999;", 2);
        Check.dueFault("floor 3 by 00004;", 1, 15);
        Check.dueFault(FLOOR + "steers 00001;", 1, 24);
        Check.dueFault("floor by 4;", 1, 6);
    }

    @Edge(promise = 4, says = "Blanks (10, 32) are where one likes (words and numbers side by side need one).")
    static void blanks() {
        good("\n floor\n3 by\n\n4 ;\n lamp 1 ; ", 2);
        good(FLOOR + "steers if(left<3,min(1,2),(3+4)*5)%2;goes[left<1]or 1=2;", 3);
        good(FLOOR + "steers  if  (  left  <  3  ,  1  ,  2  )  ;", 2);
        int[] noBlanks = {0, 8, 9, 11, 13, 31, 33, 160, 255};
        for (int sign : noBlanks) {
            Check.dueFault("floor" + (char) sign + "3 by 4;", 1, 5);
        }
        Check.dueFault("floor3 by 4;", 1, 5);
        Check.dueFault("floor 3by 4;", 1, 7);
        Check.dueFault("floor 3 by4;", 1, 10);
        Check.dueFault("fl oor 3 by 4;", 1, 0);
        Check.dueFault(FLOOR + "lamp 1 2;", 1, 20);
    }

    @Edge(promise = 4, says = "The tape (it goes) is THE KITCHEN")
    static void theTapeGoes() {
        BlackLine x = Check.with(FLOOR);
        Check.due("behind a good one", x.feed(0, 0, 0, 0, 0), 20);
        Check.due("zeros", x.kitchen(), -1);
        Check.due("behind a bad one", x.feed(0, 0, 0, 0, 0), 20);
        x.end(0);
        Check.due("an empty tape", x.kitchen(), -1);
        Check.due("its FAULT", x.fault(0), 1);
        Check.due("its place", x.fault(1), 0);
    }

    @Edge(promise = 4, says = "how many STATEMENTS")
    static void howManyStatements() {
        good("floor 2 by 2;", 1);
        good("floor 2 by 2;lamp 1;lamp 1;", 3);
        String most = boxes(6) + "lamp 1;".repeat(72) + "lamp 2;";
        good(most, 80);
        // As long as the tape: 80 STATEMENTS with blanks up to the last byte.
        good(most + " ".repeat(1600 - most.length()), 80);
    }

    /** SUMS as long as the tape lets them be, one KITCHEN behind the other: 0, -1, -2, -3. */
    @Edge(promise = 4, says = "The tape (it goes) is THE KITCHEN: how many STATEMENTS")
    static void asLongAsTheTape() {
        BlackLine x = new BlackLine();
        for (int k = 0; k < 4; k++) {
            String text = "floor 2 by 2;box a at 0 0 way 0;goes 1=2;steers " + "1+".repeat(760) + "0-76" + k;
            Check.due("kitchen()", Check.read(x, text + " ".repeat(1599 - text.length()) + ";"), 4);
            Check.due("by the SUM -" + k, x.later(0, 1, 2), k == 0 ? 0 : 3);
        }
    }

    @Edge(promise = 4, says = "NONE, refused (1), with a FAULT (all stays).")
    static void allStaysWithAFault() {
        BlackLine x = Check.with(AMY + "lamp 2;bias amy 3;steers 1;goes step<9;");
        x.steps(2);
        x.shine(5);
        x.seed(9);
        Check.feedBytes(x, 1, 0, 0);
        x.track();
        x.image();
        String[] bad = {"", "floor 9 by 9", "floor 9 by 9;box b at 0 0 way 0;steers 0-1;goes 1=2;power 3;lamp 9;cat 100;?"};
        for (int k = 0; k < bad.length; k++) {
            Check.due("kitchen() of '" + bad[k] + "'", Check.read(x, bad[k]), -1);
            Check.due("status(1)", x.status(1), k + 1);
            int[] counts = {3, 4, 1, 0, 2, 5, 1, 0, 2, 2, 9};
            for (int what = 0; what < counts.length; what++) {
                Check.due("has(" + what + ") stays", x.has(what), counts[what]);
            }
            // Right by steers in both STEPS: down to (1, 2), then left to (0, 2).
            Check.dueBox("stays", x, 0, 0, 2, 3, 498, 2, 1, 1, 3);
            Check.due("its NAME stays", x.letter(0, 2), 25);
            Check.due("steers stays", x.later(0, 1, 2), 1);
            Check.due("goes stays: BLOCKED but once up to STEP 9", x.later(0, 80, 4), 1);
            Check.due("TRACKS stay", x.wheel(0, 0), 0);
            Check.due("KEPT stays", x.kept(1, 2), 0);
            Check.due("the IMAGE stays", x.octet(1), 2);
        }
    }

    @Edge(promise = 4, says = "Without one all is as at first, nothing is KEPT or told of TRACKS, no ACT can be undone")
    static void beginsAsAtFirst() {
        String rich = AMY + "box b at 0 0 way 1;grey 2 1 9;lamp 2;bias amy 3;eyes amy apart 2 ahead 2;steers 1;"
                + "goes step<9;power 7;cat 100;";
        BlackLine x = new BlackLine();
        // More than once, each behind a KITCHEN that tells of all, with a FAULT and without.
        for (int k = 0; k < 3; k++) {
            Check.due("kitchen()", Check.read(x, rich), 11);
            x.steps(3);
            x.shine(9);
            Check.tellTracks(x, 1, 0, 0);
            Check.due("kitchen() with a FAULT", Check.read(x, k % 2 == 0 ? rich + "?" : "?"), -1);
            Check.due("another one", Check.read(x, AMY), 2);
            allAsAtFirst(x);
            x.steps(1);
            Check.due("the same again", Check.read(x, AMY), 2);
            allAsAtFirst(x);
        }
    }

    private static void allAsAtFirst(BlackLine x) {
        int[] counts = {3, 4, 1, 0, 0, 0, 0, 0, 0, 0, 1};
        for (int what = 0; what < counts.length; what++) {
            Check.due("has(" + what + ")", x.has(what), counts[what]);
        }
        Check.dueBox("at first", x, 0, 1, 1, 1, 500, 0, 1, 1, 0);
        Check.due("grey", x.cell(2, 1, 0), 0);
        Check.due("no steers, all goes", x.later(0, 1, 0), 2);
        Check.due("no steers", x.later(0, 1, 2), 1);
        Check.due("nothing KEPT", x.kept(0, 0), -1);
        Check.due("all biases", x.wheel(0, 0), 1023);
        Check.due("undo()", x.undo(), false);
        Check.due("no CELL gone to", x.image(), 12);
        Check.due("octet(10)", x.octet(10), 0);
        Check.due("no cat", x.chance(1), 0);
        x.seed(1);
    }

    @Edge(promise = 4, says = "the seed stays")
    static void theSeedStays() {
        BlackLine x = Check.with(FLOOR);
        x.seed(Integer.MAX_VALUE);
        Check.read(x, FLOOR);
        Check.due("behind a good one", x.has(10), Integer.MAX_VALUE);
        Check.read(x, "floor");
        Check.due("behind a bad one", x.has(10), Integer.MAX_VALUE);
    }
}
