/** Boundaries of promises 6 to 10: what is now. */
final class NowEdges {
    private static final int LEAST = Integer.MIN_VALUE;
    private static final int GREATEST = Integer.MAX_VALUE;
    /** Five BOXES and a sixth one, on a floor as wide and as long as can be. */
    private static final String SIX = "floor 9 by 9;box a at 0 0 way 0;box b at 8 0 way 1;box c at 0 8 way 3;"
            + "box d at 8 8 way 2;box e at 4 4 way 0;box zebras at 5 4 way 1;";

    private NowEdges() {
    }

    @Edge(promise = 6, says = "0 columns, 1 rows, 2 BOXES")
    static void sidesAndBoxes() {
        BlackLine x = Check.with(SIX);
        Check.due("columns", x.has(0), 9);
        Check.due("rows", x.has(1), 9);
        Check.due("BOXES", x.has(2), 6);
        Check.read(x, "floor 2 by 3;");
        Check.due("columns, 2", x.has(0), 2);
        Check.due("rows, 3", x.has(1), 3);
        Check.due("no BOXES", x.has(2), 0);
    }

    @Edge(promise = 6, says = "3 black CELLS now")
    static void blackCells() {
        StringBuilder s = new StringBuilder("floor 8 by 9;");
        for (int k = 0; k < 72; k++) {
            s.append("grey ").append(k % 8).append(' ').append(k / 8).append(k % 2 == 0 ? " 9;" : " 5;");
        }
        BlackLine x = Check.with(s.toString());
        Check.due("all", x.has(3), 72);
        x.shine(1);
        Check.due("by lamp 1", x.has(3), 36);
        x.shine(4);
        Check.due("by lamp 4", x.has(3), 36);
        x.shine(5);
        Check.due("none", x.has(3), 0);
        x.undo();
        Check.due("by lamp 4 again", x.has(3), 36);
    }

    @Edge(promise = 6, says = "4 STEP, 5 lamp")
    static void stepAndLamp() {
        BlackLine x = Check.with("floor 2 by 2;lamp 9;");
        Check.due("the first STEP", x.has(4), 0);
        Check.due("the greatest lamp", x.has(5), 9);
        Check.toStep(x, 999);
        x.steps(1);
        Check.due("the last STEP", x.has(4), 999);
        x.shine(0);
        Check.due("the least lamp", x.has(5), 0);
    }

    @Edge(promise = 6, says = "6 BOXES LOST, 7 without power")
    static void lostAndWithoutPower() {
        BlackLine x = Check.with(SIX + "grey 5 3 5;power 2;goes 1=2;eyes zebras apart 1 ahead 0;");
        Check.due("none LOST at first", x.has(6), 0);
        Check.due("none without power", x.has(7), 0);
        x.steps(1);
        // e sees black by its right eye, zebras by its left one.
        Check.due("all but two LOST", x.has(6), 4);
        Check.due("power 1 is power", x.has(7), 0);
        x.shine(1);
        Check.due("LOST as by the latest STEP", x.has(6), 4);
        x.steps(1);
        Check.due("all LOST", x.has(6), 6);
        Check.due("all without power", x.has(7), 6);
    }

    @Edge(promise = 6, says = "8 told as KEPT")
    static void toldAsKept() {
        BlackLine x = Check.with("floor 9 by 9;box a at 0 0 way 1;bias a 1;");
        x.steps(59);
        Check.due("59", x.has(8), 59);
        x.steps(1);
        Check.due("60", x.has(8), 60);
        x.steps(1);
        Check.due("60 of 61", x.has(8), 60);
        x.undo();
        x.undo();
        Check.due("59 again", x.has(8), 59);
    }

    @Edge(promise = 6, says = "9 ACTS that can be undone")
    static void actsToBeUndone() {
        BlackLine x = Check.with("floor 2 by 2;");
        for (int k = 1; k <= 22; k++) {
            x.shine(k % 10);
            Check.due("behind " + k, x.has(9), Math.min(k, 20));
        }
        x.undo();
        Check.due("one undone", x.has(9), 19);
    }

    @Edge(promise = 6, says = "10 the seed. NONE for others.")
    static void seedAndOthers() {
        BlackLine x = Check.with(SIX);
        x.seed(GREATEST);
        Check.due("has(10)", x.has(10), GREATEST);
        int[] others = {-1, 11, LEAST, GREATEST};
        for (int what : others) {
            Check.due("has(" + what + ")", x.has(what), -1);
        }
    }

    @Edge(promise = 7, says = "Letter k (0 .. 5) of the NAME of a BOX: 1 .. 26; 0 behind it")
    static void letters() {
        BlackLine x = Check.with("floor 3 by 3;box a at 0 0 way 0;box zazaza at 1 0 way 0;box zz at 2 0 way 0;");
        int[][] due = {{1, 0, 0, 0, 0, 0}, {26, 1, 26, 1, 26, 1}, {26, 26, 0, 0, 0, 0}};
        for (int box = 0; box < due.length; box++) {
            for (int k = 0; k < 6; k++) {
                Check.due("letter(" + box + ", " + k + ")", x.letter(box, k), due[box][k]);
            }
        }
    }

    @Edge(promise = 7, says = "NONE when there is none such.")
    static void noSuchLetter() {
        BlackLine x = Check.with(SIX);
        Check.due("the last letter of the last BOX", x.letter(5, 5), 19);
        int[][] none = {{0, 6}, {5, 6}, {0, -1}, {6, 0}, {-1, 0}, {-1, -1}, {0, LEAST}, {0, GREATEST}, {LEAST, 0},
            {GREATEST, 0}};
        for (int[] one : none) {
            Check.due("letter(" + one[0] + ", " + one[1] + ")", x.letter(one[0], one[1]), -1);
        }
        Check.due("without a floor", new BlackLine().letter(0, 0), -1);
    }

    @Edge(promise = 8, says = "0 grey as told, 1 whether it is black now")
    static void greyAndBlack() {
        BlackLine x = Check.with("floor 2 by 2;grey 0 0 5;grey 1 0 4;grey 0 1 9;");
        int[][] greys = {{0, 0, 5}, {1, 0, 4}, {0, 1, 9}, {1, 1, 0}};
        int[][] blackByLamp = {{1, 0, 1, 0}, {0, 0, 1, 0}, {0, 0, 1, 0}, {0, 0, 1, 0}, {0, 0, 1, 0}, {0, 0, 0, 0}};
        for (int lamp = 0; lamp < 6; lamp++) {
            x.shine(lamp);
            for (int k = 0; k < 4; k++) {
                String what = "lamp " + lamp + ", cell(" + greys[k][0] + ", " + greys[k][1] + ", ";
                Check.due(what + "0)", x.cell(greys[k][0], greys[k][1], 0), greys[k][2]);
                Check.due(what + "1)", x.cell(greys[k][0], greys[k][1], 1), blackByLamp[lamp][k]);
            }
        }
        x.shine(9);
        Check.due("lamp 9 on grey 0", x.cell(1, 1, 1), 0);
    }

    @Edge(promise = 8, says = "Black is a CELL whose grey less the lamp is 5 or more.")
    static void blackByGreyAndLamp() {
        StringBuilder s = new StringBuilder("floor 9 by 2;lamp 9;");
        for (int grey = 1; grey <= 9; grey++) {
            s.append("grey ").append(grey - 1).append(" 1 ").append(grey).append(';');
        }
        BlackLine x = Check.with(s.toString());
        for (int lamp = 9; lamp >= 0; lamp--) {
            x.shine(lamp);
            Check.due("grey 0, lamp " + lamp, x.cell(0, 0, 1), 0);
            for (int grey = 1; grey <= 9; grey++) {
                Check.due("grey " + grey + ", lamp " + lamp, x.cell(grey - 1, 1, 1), grey >= lamp + 5 ? 1 : 0);
            }
        }
    }

    @Edge(promise = 8, says = "2 the BOX on it (NONE)")
    static void boxOnACell() {
        BlackLine x = Check.with(SIX);
        int[][] cells = {{0, 0, 0}, {8, 0, 1}, {0, 8, 2}, {8, 8, 3}, {4, 4, 4}, {5, 4, 5}, {4, 5, -1}, {1, 0, -1}};
        for (int[] cell : cells) {
            Check.due("on " + cell[0] + ", " + cell[1], x.cell(cell[0], cell[1], 2), cell[2]);
        }
        Check.due("none", Check.with("floor 2 by 2;").cell(0, 0, 2), -1);
    }

    @Edge(promise = 8, says = "NONE when there is none such, or for others.")
    static void noSuchCell() {
        BlackLine x = Check.with("floor 2 by 3;grey 1 2 9;");
        Check.due("the last one", x.cell(1, 2, 0), 9);
        int[][] none = {{2, 0, 0}, {0, 3, 0}, {-1, 0, 0}, {0, -1, 0}, {1, 2, 3}, {1, 2, -1}, {9, 0, 0}, {-1, 1, 0},
            {10, -1, 0}, {LEAST, 0, 1}, {0, LEAST, 1}, {GREATEST, 0, 1}, {0, GREATEST, 1}, {0, 0, LEAST},
            {0, 0, GREATEST}};
        for (int[] one : none) {
            Check.due("cell(" + one[0] + ", " + one[1] + ", " + one[2] + ")", x.cell(one[0], one[1], one[2]), -1);
        }
        Check.due("without a floor", new BlackLine().cell(0, 0, 2), -1);
    }

    @Edge(promise = 9, says = "0 column, 1 row, 2 WAY, 3 power, 4 for how many STEPS LOST, 5 apart, 6 ahead, 7 bias.")
    static void allOfABox() {
        BlackLine x = Check.with(SIX + "eyes zebras apart 0 ahead 2;bias zebras 9;power 999;goes step=0;");
        Check.dueBox("the last BOX", x, 5, 5, 4, 1, 999, 0, 0, 2, 9);
        Check.dueBox("the first BOX", x, 0, 0, 0, 0, 999, 0, 1, 1, 0);
        x.steps(5);
        Check.dueBox("the last one, behind 5", x, 5, 6, 4, 1, 994, 5, 0, 2, 9);
        Check.dueBox("the first one, behind 5", x, 0, 0, 0, 0, 994, 5, 1, 1, 0);
    }

    @Edge(promise = 9, says = "NONE when there is none such, or for others.")
    static void noSuchBox() {
        BlackLine x = Check.with(SIX);
        int[][] none = {{6, 0}, {-1, 0}, {-1, 8}, {0, 8}, {5, 8}, {0, 9}, {0, -1}, {1, -1}, {LEAST, 0}, {GREATEST, 0},
            {0, LEAST}, {0, GREATEST}};
        for (int[] one : none) {
            Check.due("box(" + one[0] + ", " + one[1] + ")", x.box(one[0], one[1]), -1);
        }
        Check.due("without a floor", new BlackLine().box(0, 0), -1);
    }

    @Edge(promise = 10, says = "GREY that a BOX SEES now: by the left eye (0), the right one (1), between (2).")
    static void seesByEachEye() {
        BlackLine x = Check.with("floor 3 by 3;grey 0 0 1;grey 1 0 2;grey 2 0 3;box a at 1 1 way 0;");
        Check.due("left", x.sees(0, 0), 1);
        Check.due("right", x.sees(0, 1), 3);
        Check.due("between", x.sees(0, 2), 2);
        x.turn(0, 2);
        Check.due("nothing the other way", x.sees(0, 0) + x.sees(0, 1) + x.sees(0, 2), 0);
    }

    @Edge(promise = 10, says = "NONE when there is none such, or for others.")
    static void noSuchEye() {
        BlackLine x = Check.with(SIX);
        Check.due("the last BOX", x.sees(5, 2), 0);
        int[][] none = {{6, 0}, {-1, 0}, {0, 3}, {0, -1}, {5, 3}, {LEAST, 0}, {GREATEST, 0}, {0, LEAST}, {0, GREATEST}};
        for (int[] one : none) {
            Check.due("sees(" + one[0] + ", " + one[1] + ")", x.sees(one[0], one[1]), -1);
        }
        Check.due("without a floor", new BlackLine().sees(0, 0), -1);
    }

    /** On a floor that is grey all over, whatever an EYE sees beyond it would be 9. */
    @Edge(promise = 10, says = "GREY SEEN there is the CELL's less the lamp, 0 at least; 0 beyond the floor.")
    static void beyondTheFloorAndBelowTheLamp() {
        StringBuilder s = new StringBuilder("floor 9 by 8;box a at 0 0 way 0;eyes a apart 2 ahead 3;");
        for (int k = 0; k < 72; k++) {
            s.append("grey ").append(k % 9).append(' ').append(k / 9).append(" 9;");
        }
        Check.due("75 STATEMENTS", Check.read(new BlackLine(), s.toString()), 75);
        BlackLine x = Check.with(s.toString());
        int[][] corners = {{0, 0, 0, 0, 0, 0}, {0, 0, 1, 0, 9, 9}, {0, 0, 2, 9, 0, 9}, {0, 0, 3, 0, 0, 0},
            {8, 0, 1, 0, 0, 0}, {8, 0, 3, 9, 0, 9}, {8, 7, 0, 9, 0, 9}, {8, 7, 2, 0, 0, 0}, {0, 7, 3, 0, 0, 0},
            {0, 7, 1, 9, 0, 9}, {2, 3, 0, 9, 9, 9}, {2, 2, 0, 0, 0, 0}, {1, 3, 0, 0, 9, 9}, {7, 3, 0, 9, 0, 9},
            {6, 3, 0, 9, 9, 9}, {5, 5, 1, 9, 9, 9}, {6, 5, 1, 0, 0, 0}, {5, 6, 1, 9, 0, 9}, {5, 1, 1, 0, 9, 9}};
        for (int[] c : corners) {
            x.put(0, c[0], c[1]);
            x.turn(0, c[2]);
            for (int eye = 0; eye < 3; eye++) {
                Check.due("at " + c[0] + ", " + c[1] + " way " + c[2] + ", eye " + eye, x.sees(0, eye), c[3 + eye]);
            }
        }
        x.shine(8);
        Check.due("9 less 8", x.sees(0, 1), 1);
        x.shine(9);
        Check.due("9 less 9", x.sees(0, 1), 0);
        BlackLine y = Check.with("floor 2 by 2;grey 0 0 3;box a at 0 1 way 0;lamp 2;");
        Check.due("3 less 2", y.sees(0, 2), 1);
        y.shine(3);
        Check.due("3 less 3", y.sees(0, 2), 0);
        y.shine(4);
        Check.due("0 at least", y.sees(0, 2), 0);
    }

    @Edge(promise = 10, says = "its right is the next WAY (3 is followed by 0).")
    static void rightOfEachWay() {
        BlackLine x = Check.with("floor 3 by 3;grey 1 0 1;grey 2 1 2;grey 1 2 3;grey 0 1 4;box a at 1 1 way 1;"
                + "eyes a apart 1 ahead 0;");
        int[] left = {4, 1, 2, 3};
        int[] right = {2, 3, 4, 1};
        for (int k = 1; k <= 4; k++) {
            x.turn(0, k % 4);
            Check.due("left of " + k % 4, x.sees(0, 0), left[k % 4]);
            Check.due("right of " + k % 4, x.sees(0, 1), right[k % 4]);
        }
    }

    /** One CELL alone is grey: the one onto which the right EYE is to look. */
    @Edge(promise = 10, says = "so many ahead as told of ahead, then so many to the left, the right as told of apart;")
    static void eyesFromNoneToMost() {
        for (int apart = 0; apart <= 2; apart++) {
            for (int ahead = 0; ahead <= 3; ahead++) {
                String text = "floor 9 by 9;box a at 4 4 way 0;eyes a apart " + apart + " ahead " + ahead + ";grey "
                        + (4 + apart) + " " + (4 - ahead) + " 7;";
                BlackLine x = Check.with(text);
                Check.due("right, apart " + apart + ", ahead " + ahead, x.sees(0, 1), 7);
                Check.due("left, apart " + apart + ", ahead " + ahead, x.sees(0, 0), apart == 0 ? 7 : 0);
                Check.due("between, apart " + apart + ", ahead " + ahead, x.sees(0, 2), apart == 0 ? 7 : 0);
            }
        }
    }
}
