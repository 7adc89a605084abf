/** Boundaries of SUMS and TESTS, by which promise 22's STEPS go. */
final class FormulaEdges {
    private static final String BOX = "floor 2 by 2;box a at 0 0 way 1;";

    private FormulaEdges() {
    }

    /** The BOX goes from its CELL if the TEST holds. */
    private static boolean holds(String test) {
        return Check.with(BOX + "steers 0;goes " + test + ";").steps(1) == 1;
    }

    private static void yes(String test) {
        Check.due(test, holds(test), true);
    }

    private static void no(String test) {
        Check.due(test, holds(test), false);
    }

    /** The first STEP, from 0 on, in which the TEST holds for a BOX that sees no grey, within 200. */
    private static int firstStep(String steers, String test) {
        BlackLine x = Check.with(BOX + "steers " + steers + ";goes " + test + ";");
        for (int k = 0; k < 200; k++) {
            if (x.steps(1) == 1) {
                return k;
            }
        }
        return -1;
    }

    @Edge(promise = 22, says = "SUM: PRODUCT { + or - PRODUCT }.")
    static void manyProducts() {
        yes("7=7");
        yes("1+1=2");
        String ones = "1+".repeat(700);
        yes(ones + "1=701");
        no(ones + "1<701");
        yes("701" + "-1".repeat(700) + "=1");
    }

    @Edge(promise = 22, says = "PRODUCT: PART { * or / or % PART }.")
    static void manyParts() {
        yes("3*4=12");
        yes("3*4*5/6%7=3");
        yes("9" + "*2/2".repeat(350) + "=9");
        yes("9" + "%9999".repeat(250) + "=9");
    }

    @Edge(promise = 22, says = "BOTH { or BOTH }. BOTH: FACT { and FACT }.")
    static void manyFacts() {
        yes("1=2 or 1=1");
        no("1=2 or 1=3");
        no("1=1 and 1=2");
        yes("1=1 or 1=1 and 1=2");
        no("[1=1 or 1=1] and 1=2");
        yes("1=2 or ".repeat(200) + "all");
        no("1=2 or ".repeat(200) + "1=2");
        yes("1=1 and ".repeat(190) + "all");
        no("1=1 and ".repeat(190) + "1=2");
    }

    @Edge(promise = 22, says = "SIGN < or > or = .")
    static void signs() {
        no("2<2");
        yes("1<2");
        no("3<2");
        no("2>2");
        yes("3>2");
        no("1>2");
        yes("2=2");
        no("1=2");
        no("3=2");
        yes("0-1<0");
        no("0-1>0");
    }

    @Edge(promise = 22, says = "(the first SUM where the TEST holds, else the second one)")
    static void chosen() {
        yes("if(all,1,2)=1");
        yes("if(not all,1,2)=2");
        yes("if(0<1,if(1<0,3,4),5)=4");
        yes("if(0>1,3,if(1=1,0-4,5))=0-4");
        yes("if(all,0,1)=0");
    }

    @Edge(promise = 22, says = "min ( SUM , SUM ) ; max ( SUM , SUM )")
    static void leastAndGreatest() {
        yes("min(3,3)=3");
        yes("min(3,0-4)=0-4");
        yes("min(0-4,3)=0-4");
        yes("max(3,3)=3");
        yes("max(3,0-4)=3");
        yes("max(0-4,3)=3");
    }

    @Edge(promise = 22, says = "All from the left on")
    static void fromTheLeft() {
        yes("20-5-3=12");
        yes("20-5+3=18");
        yes("100/7/2=7");
        yes("7*9/2%4=3");
        yes("100%7*2=4");
        yes("2+3*4=14");
        yes("20-2*3-1=13");
    }

    @Edge(promise = 22, says = "/ gives the greatest whole number not above")
    static void wholeNumberNotAbove() {
        yes("6/2=3");
        yes("7/2=3");
        yes("1/2=0");
        yes("(0-1)/2=0-1");
        yes("(0-7)/2=0-4");
        yes("(0-6)/2=0-3");
        yes("7/(0-2)=0-4");
        yes("(0-7)/(0-2)=3");
    }

    @Edge(promise = 22, says = "% what is left (a less b times that)")
    static void whatIsLeft() {
        yes("7%2=1");
        yes("6%2=0");
        yes("1%2=1");
        yes("(0-7)%2=1");
        yes("(0-6)%2=0");
        yes("7%(0-2)=0-1");
        yes("(0-7)%(0-2)=0-1");
        yes("(0-1)%9999=9998");
    }

    @Edge(promise = 22, says = "by 0 both give 0")
    static void byZero() {
        yes("5/0=0");
        yes("0/0=0");
        yes("(0-5)/0=0");
        yes("5%0=0");
        yes("0%0=0");
        yes("(0-5)%0=0");
        yes("5/(3-3)+2=2");
    }

    @Edge(promise = 22, says = "each result above 10 to the 6 is that, below -10 to the 6 likewise.")
    static void limitOfResults() {
        yes("1000*1000/1000=1000");
        yes("1000*1000-1=9999*100+99");
        yes("1000*1000+1-1=9999*100+99");
        yes("9999*100+100=1000*1000");
        yes("9999*9999=1000*1000");
        yes("0-1000*1000+1=0-9999*100-99");
        yes("0-1000*1000-1+1=0-9999*100-99");
        yes("(0-9999)*9999=0-1000*1000");
        yes("9999*9999-9999*9999*2=0");
        yes("1000*1000*(1000*1000)/1000=1000");
        yes("(0-1000*1000)*(1000*1000)/1000=0-1000");
        yes("(0-1000*1000)*(0-1000*1000)/1000=1000");
        yes("max(1000*1000,1000*1000+5)-1000*1000=0");
        yes("(0-1000*1000)/(0-1)=1000*1000");
    }

    @Edge(promise = 22, says = "for how many STEPS it is LOST")
    static void lostAsInThisStep() {
        Check.due("1 in the first STEP", firstStep("0", "lost=1"), 0);
        Check.due("99 in the 99th", firstStep("0", "lost=99"), 98);
        Check.due("never 100", firstStep("0", "lost>99"), -1);
        yes("lost>0");
        BlackLine black = Check.with(BOX + "grey 1 0 5;steers 0;goes lost=0;");
        Check.due("0 where it SEES 5", black.steps(1), 1);
    }

    @Edge(promise = 22, says = "the STEP; 1 if it turned in this STEP, else 0; its power.")
    static void stepTurnedAndPower() {
        Check.due("STEP 0 is the first", firstStep("0", "step=0"), 0);
        Check.due("STEP 150", firstStep("0", "step=150"), 150);
        Check.due("power as ahead of the STEP", firstStep("0", "power=500"), 0);
        Check.due("power 400", firstStep("0", "power=400"), 100);
        Check.due("turned right", firstStep("if(step=4,1,0)", "turned=1"), 4);
        BlackLine left = Check.with("floor 2 by 2;box a at 0 0 way 2;steers if(step=6,0-1,0);goes turned=1;");
        Check.due("not ahead of the turn", left.steps(6), 0);
        Check.due("turned left", left.steps(1), 1);
        Check.due("turned no more", left.steps(50), 0);
        no("turned>0 or turned<0");
        Check.due("1, however far above 0 it is", firstStep("99", "turned>1"), -1);
    }

    @Edge(promise = 22, says = "Of a BOX the GREY that it SEES by the left, the right eye, between them")
    static void greyOfEachEye() {
        String eyes = "floor 3 by 3;box a at 1 1 way 0;grey 0 0 9;grey 2 0 8;grey 1 0 7;lamp 2;steers 0;goes ";
        Check.due("left", Check.with(eyes + "left=7;").steps(1), 1);
        Check.due("right", Check.with(eyes + "right=6;").steps(1), 1);
        Check.due("between", Check.with(eyes + "mid=5;").steps(1), 1);
        Check.due("beyond the floor", Check.with(BOX + "goes left=0;").steps(1), 1);
    }

    /** As much as can wait at once on all eight levels, in a text as long as the tape lets it be. */
    @Edge(promise = 22, says = "the 8th ( [ not that is open at once")
    static void sevenLevelsDeep() {
        for (int inner = 0; inner < 2; inner++) {
            String part = Integer.toString(inner);
            for (int k = 0; k < 6; k++) {
                part = "if(1=2 or 1=1 and 0<0+1*" + part + ",0+1*1,0)";
            }
            Check.due("inner " + inner, holds("1=2 or 1=1 and 0<0+1*min(1," + part + ")"), inner == 1);
            String last = Integer.toString(inner);
            for (int k = 0; k < 7; k++) {
                last = "if(1=2,1,0+1*" + last + ")";
            }
            Check.due("last " + inner, holds("1=2 or 1=1 and 0<0+1*" + last), inner == 1);
        }
        no("not [not [not not not 1=1]]");
        yes("not [not [not not not 1=2]]");
    }

    @Edge(promise = 22, says = "right, if the SUM of steers is above 0, left, if it is below")
    static void aboveAndBelowZero() {
        String[] sums = {"1", "0", "0-1", "1000*1000", "0-1000*1000", "1/2", "(0-1)/2"};
        int[] ways = {1, 0, 3, 1, 3, 0, 3};
        for (int k = 0; k < sums.length; k++) {
            BlackLine x = Check.with("floor 2 by 2;box a at 0 0 way 0;steers " + sums[k] + ";");
            Check.due("WAY by " + sums[k], x.later(0, 1, 2), ways[k]);
        }
    }
}
