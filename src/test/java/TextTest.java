/** Promises 1 to 5, 7: a new object, the tape, the text of a KITCHEN and its FAULTS, NAMES. */
public final class TextTest {
    private static final String FLOOR = "floor 3 by 4;";

    public static void main(String[] args) {
        newObject();
        tape();
        goodTexts();
        kitchenBeginsAnew();
        kitchenWithFaultChangesNothing();
        faultsOfGrammar();
        faultsOfTokens();
        faultsOfNames();
        faultsOfNumbers();
        faultsOfDepth();
        faultsOfCount();
        firstFaultAlongTheText();
        letters();
        Check.finish();
    }

    private static void newObject() {
        BlackLine x = new BlackLine();
        int[] all = {0, 0, 0, 0, 0, 0, 0, 0, 0, 0, 1};
        for (int what = 0; what < all.length; what++) {
            Check.due("new, has(" + what + ")", x.has(what), all[what]);
        }
        Check.due("new, fault(0)", x.fault(0), 0);
        Check.due("new, fault(1)", x.fault(1), -1);
        Check.due("new, letter", x.letter(0, 0), -1);
        Check.due("new, box", x.box(0, 0), -1);
        Check.due("new, cell", x.cell(0, 0, 0), -1);
        Check.due("new, octet", x.octet(0), -1);
        Check.due("new, undo", x.undo(), false);
        Check.due("NONE", BlackLine.NONE, -1);
    }

    private static void tape() {
        BlackLine x = new BlackLine();
        Check.due("end(0) of nothing", x.end(0), true);
        Check.due("end(1) of nothing", x.end(1), false);
        Check.due("end(-1)", x.end(-1), false);
        for (int k = 1; k <= 80; k++) {
            Check.due("feed " + k, x.feed(0, 0, 0, 0, 0), 20 * k);
        }
        Check.due("feed beyond 1600", x.feed(0, 0, 0, 0, 0), -1);
        Check.due("end(1601)", x.end(1601), false);
        Check.due("end(1600)", x.end(1600), true);
        Check.due("end(1581)", x.end(1581), true);
        Check.due("feed onto 1581", x.feed(0, 0, 0, 0, 0), -1);
        Check.due("end(1580)", x.end(1580), true);
        Check.due("feed onto 1580", x.feed(0, 0, 0, 0, 0), 1600);
        Check.due("status(0)", x.status(0), 5);
        x.end(0);
        // "flo" .. and a byte above 127: the bytes come with the highest first, and without a sign
        x.feed(0x666c6f6f, 0x7220_ff20, 0, 0, 0);
        x.end(8);
        Check.due("byte 255", x.kitchen(), -1);
        Check.due("its fault", x.fault(0), 1);
        Check.due("its place", x.fault(1), 6);
        Check.due("the tape is gone", x.feed(0, 0, 0, 0, 0), 20);
    }

    private static void goodTexts() {
        Check.due("floor alone", Check.read(new BlackLine(), "floor 2 by 9;"), 1);
        Check.due("blanks", Check.read(new BlackLine(), " \n floor\n2\n by 9\n;\n "), 1);
        Check.due("few blanks", Check.read(new BlackLine(),
                FLOOR + "steers left+right*(mid-lost);goes not[left<1]and all or 1=1;"), 3);
        Check.due("80 statements", Check.read(new BlackLine(), FLOOR + "lamp 1;".repeat(79) + " \n"), 80);
        Check.due("leading zeros", Check.read(new BlackLine(), "floor 0003 by 004;"), 1);
        Check.due("names like own words", Check.read(new BlackLine(),
                FLOOR + "box iff at 0 0 way 0;box minx at 0 1 way 0;box no at 0 2 way 0;"), 4);
        Check.due("7 open", Check.read(new BlackLine(), FLOOR + "goes not[not((if(all,(1),2)))<1];"), 2);
        Check.due("closed ones do not count", Check.read(new BlackLine(),
                FLOOR + "goes not not not not not not not all and not not not not not not not 1<2;"), 2);
        BlackLine x = Check.with("floor 4 by 3;grey 1 2 9;grey 1 2 4;box a at 0 0 way 3;eyes a apart 2 ahead 3;"
                + "eyes a apart 0 ahead 2;bias a 9;bias a 4;power 1;power 77;lamp 9;lamp 2;cat 1;cat 0;");
        Check.due("columns", x.has(0), 4);
        Check.due("rows", x.has(1), 3);
        Check.due("last grey", x.cell(1, 2, 0), 4);
        Check.due("grey without", x.cell(2, 2, 0), 0);
        int[] due = {0, 0, 3, 77, 0, 0, 2, 4};
        for (int what = 0; what < due.length; what++) {
            Check.due("last of each, box(0, " + what + ")", x.box(0, what), due[what]);
        }
        Check.due("last lamp", x.has(5), 2);
        Check.due("last cat", x.chance(50), 0);
        BlackLine y = Check.with("floor 4 by 3;box a at 0 0 way 3;");
        int[] without = {0, 0, 3, 500, 0, 1, 1, 0};
        for (int what = 0; what < without.length; what++) {
            Check.due("without, box(0, " + what + ")", y.box(0, what), without[what]);
        }
        Check.due("without lamp", y.has(5), 0);
    }

    private static void kitchenBeginsAnew() {
        BlackLine x = Check.with("floor 4 by 3;box a at 0 0 way 1;lamp 3;");
        x.seed(77);
        x.steps(2);
        x.image();
        Check.feedBytes(x, 0, 2, 0);
        Check.due("track", x.track(), 1);
        Check.due("wheel", x.wheel(0, 0), 1023);
        x.turn(0, 3);
        x.turn(0, 9);
        Check.due("kitchen", Check.read(x, "floor 5 by 5;box b at 1 1 way 1;"), 2);
        int[] all = {5, 5, 1, 0, 0, 0, 0, 0, 0, 0, 77};
        for (int what = 0; what < all.length; what++) {
            Check.due("anew, has(" + what + ")", x.has(what), all[what]);
        }
        Check.due("no tracks", x.wheel(0, 0), 1023);
        Check.due("no undo", x.undo(), false);
        Check.due("kept", x.kept(0, 0), -1);
        Check.due("refused stays", x.status(3), 1);
        Check.due("image stays", x.octet(1), 2);
    }

    private static void kitchenWithFaultChangesNothing() {
        BlackLine x = Check.with("floor 4 by 3;box a at 0 0 way 1;lamp 3;goes step<2;");
        x.steps(3);
        Check.feedBytes(x, 0, 1, 0);
        x.track();
        Check.due("fault", Check.read(x, "floor 9 by 9;box a at 5 5 way 2;goes all;steers 1;box a"), -1);
        Check.due("fault(0)", x.fault(0), 2);
        Check.due("fault(1)", x.fault(1), 54);
        Check.due("fault(2)", x.fault(2), -1);
        Check.due("fault(-1)", x.fault(-1), -1);
        Check.due("columns stay", x.has(0), 4);
        Check.due("step stays", x.has(4), 3);
        Check.due("lamp stays", x.has(5), 3);
        Check.due("kept stays", x.has(8), 2);
        Check.due("acts stay", x.has(9), 1);
        Check.due("tracks stay", x.wheel(0, 0), 0);
        Check.due("place stays", x.box(0, 0), 2);
        Check.due("no text", x.kitchen(), -1);
        Check.due("its fault", x.fault(0), 1);
        Check.due("its place", x.fault(1), 0);
        Check.due("columns stay, too", x.has(0), 4);
        Check.due("boxes stay, too", x.has(2), 1);
        x.undo();
        Check.due("goes stays", x.later(0, 9, 0), 2);
        Check.due("refused", x.status(1), 2);
        Check.due("a good one", Check.read(x, FLOOR), 1);
        Check.due("fault(0) behind it", x.fault(0), 0);
        Check.due("fault(1) behind it", x.fault(1), -1);
    }

    private static void faultsOfGrammar() {
        Check.dueFault("", 1, 0);
        Check.dueFault(" \n", 1, 2);
        Check.dueFault(";", 1, 0);
        Check.dueFault("grey 0 0 1;", 1, 0);
        Check.dueFault("floor", 1, 5);
        Check.dueFault("floor  ", 1, 7);
        Check.dueFault("floor by", 1, 6);
        Check.dueFault("floor 3 4", 1, 8);
        Check.dueFault("floor 3 by 4", 1, 12);
        Check.dueFault("floor 3 by 4 4;", 1, 13);
        Check.dueFault(FLOOR + ";", 1, 13);
        Check.dueFault(FLOOR + " floor 3 by 4;", 1, 14);
        Check.dueFault(FLOOR + "boxes", 1, 13);
        Check.dueFault(FLOOR + "turned", 1, 13);
        Check.dueFault(FLOOR + "grey 0 0;", 1, 21);
        Check.dueFault(FLOOR + "box a at 0 0 1;", 1, 26);
        Check.dueFault(FLOOR + "steers ;", 1, 20);
        Check.dueFault(FLOOR + "steers -1;", 1, 20);
        Check.dueFault(FLOOR + "steers 1<2;", 1, 21);
        Check.dueFault(FLOOR + "steers all;", 1, 20);
        Check.dueFault(FLOOR + "steers (1;", 1, 22);
        Check.dueFault(FLOOR + "steers min 1;", 1, 24);
        Check.dueFault(FLOOR + "steers min(1);", 1, 25);
        Check.dueFault(FLOOR + "steers if(1,2,3);", 1, 24);
        Check.dueFault(FLOOR + "steers if(turned=1,2,3);", 1, 23);
        Check.dueFault(FLOOR + "goes (1<2);", 1, 20);
        Check.dueFault(FLOOR + "goes [1<2;", 1, 22);
        Check.dueFault(FLOOR + "goes 1<2<3;", 1, 21);
        Check.dueFault(FLOOR + "goes 1<2 all;", 1, 22);
        Check.dueFault(FLOOR + "goes not;", 1, 21);
        Check.dueFault(FLOOR + "goes all=1;", 1, 21);
    }

    private static void faultsOfTokens() {
        Check.dueFault("floor3 by 4;", 1, 5);
        Check.dueFault("floor 3by 4;", 1, 7);
        Check.dueFault("Floor 3 by 4;", 1, 0);
        Check.dueFault("floor\t3 by 4;", 1, 5);
        Check.dueFault("floors 3 by 4;", 1, 0);
        Check.dueFault("floorings", 1, 6);
        Check.dueFault("12345", 1, 4);
        Check.dueFault("floor 12345", 1, 10);
        Check.dueFault(FLOOR + "lamp abcdefg", 1, 24);
        Check.dueFault(FLOOR + "goes 1<2 12345", 1, 26);
        Check.dueFault("floor 3 by 4 abcdefgh", 1, 19);
    }

    private static void faultsOfNames() {
        String box = FLOOR + "box amy at 1 1 way 1;";
        Check.dueFault(FLOOR + "box min at 0 0 way 0;", 1, 17);
        Check.dueFault(FLOOR + "box 1 at 0 0 way 0;", 1, 17);
        Check.dueFault(box + "box amy", 2, 38);
        Check.dueFault(FLOOR + "eyes amy apart 1 ahead 1;box amy at 1 1 way 1;", 3, 18);
        Check.dueFault(box + "bias am 1;", 3, 39);
        Check.dueFault(box + "bias bias 1;", 1, 39);
        Check.dueFault(box + "eyes 7 apart", 1, 39);
    }

    private static void faultsOfNumbers() {
        String box = FLOOR + "box amy at 1 1 way 1;";
        Check.dueFault("floor 1 by 4;", 4, 6);
        Check.dueFault("floor 3 by 10;", 4, 11);
        Check.dueFault(FLOOR + "grey 3 0 1;", 4, 18);
        Check.dueFault(FLOOR + "grey 2 4 1;", 4, 20);
        Check.dueFault(FLOOR + "grey 2 3 10;", 4, 22);
        Check.dueFault(FLOOR + "box a at 3 0 way 0;", 4, 22);
        Check.dueFault(FLOOR + "box a at 2 4 way 0;", 4, 24);
        Check.dueFault(FLOOR + "box a at 2 3 way 4;", 4, 30);
        Check.dueFault(box + "box b at 1 1 way 1;", 4, 45);
        Check.dueFault(box + "eyes amy apart 3 ahead 0;", 4, 49);
        Check.dueFault(box + "eyes amy apart 2 ahead 4;", 4, 57);
        Check.dueFault(box + "bias amy 10;", 4, 43);
        Check.dueFault(FLOOR + "power 1000;", 4, 19);
        Check.dueFault(FLOOR + "lamp 10;", 4, 18);
        Check.dueFault(FLOOR + "cat 101;", 4, 17);
        Check.due("least numbers", Check.read(new BlackLine(), box
                + "eyes amy apart 0 ahead 0;bias amy 0;power 0;lamp 0;cat 0;grey 0 0 0;steers 0;"), 9);
        Check.due("greatest numbers", Check.read(new BlackLine(), box
                + "eyes amy apart 2 ahead 3;bias amy 9;power 999;lamp 9;cat 100;grey 2 3 9;steers 9999;"), 9);
    }

    private static void faultsOfDepth() {
        Check.dueFault(FLOOR + "goes ((((((((1", 5, 25);
        Check.dueFault(FLOOR + "goes [[[[[[[[1", 5, 25);
        Check.dueFault(FLOOR + "goes not not not not not not not not all;", 5, 46);
        Check.dueFault(FLOOR + "goes not [ not ( if ( not [ min ( 1,2)", 5, 45);
        Check.dueFault(FLOOR + "steers (((((((min((", 5, 30);
        String[] heads = {"min(", "min(1,", "max(1,", "if(", "if(all,", "if(all,1,", "(1+", "(1*"};
        for (String head : heads) {
            String text = FLOOR + "steers 1+(1*3)-" + head;
            Check.dueFault(text + "(((((((", 5, text.length() + 6);
            Check.dueFault(text + "((((((", 1, text.length() + 6);
        }
        Check.dueFault(FLOOR + "steers (((((((1(", 1, 28);
        Check.dueFault(FLOOR + "goes not not not not not not not (1)<2;", 5, 46);
    }

    private static void faultsOfCount() {
        StringBuilder s = new StringBuilder("floor 7 by 2;");
        for (int k = 0; k < 6; k++) {
            s.append("box ").append((char) ('a' + k)).append(" at ").append(k).append(" 0 way 0;");
        }
        Check.due("6 boxes", Check.read(new BlackLine(), s.toString()), 7);
        Check.dueFault(s + "box", 6, s.length());
        Check.dueFault(s + " box a at", 6, s.length() + 1);
        Check.dueFault(FLOOR + "goes all;steers 1;steers", 6, 31);
        Check.dueFault(FLOOR + "goes all;goes", 6, 22);
        String eighty = FLOOR + "lamp 1;".repeat(79);
        Check.dueFault(eighty + "lamp 1;", 6, eighty.length());
        Check.dueFault(eighty + " \n?", 6, eighty.length() + 2);
        Check.dueFault(eighty + "abcdefgh", 6, eighty.length());
        Check.dueFault(eighty + "floor", 6, eighty.length());
    }

    private static void firstFaultAlongTheText() {
        Check.dueFault("floor 3 by 12 ?", 4, 11);
        Check.dueFault("floor 3 by 12abcdefg", 4, 11);
        Check.dueFault(FLOOR + "bias zz9", 3, 18);
        Check.dueFault(FLOOR + "grey 9 9 99", 4, 18);
        Check.dueFault("floor 3 ? by 12", 1, 8);
    }

    private static void letters() {
        BlackLine x = Check.with("floor 3 by 4;box az at 0 0 way 0;box robots at 0 1 way 0;");
        int[] az = {1, 26, 0, 0, 0, 0};
        int[] robots = {18, 15, 2, 15, 20, 19};
        for (int k = 0; k < 6; k++) {
            Check.due("letter(0, " + k + ")", x.letter(0, k), az[k]);
            Check.due("letter(1, " + k + ")", x.letter(1, k), robots[k]);
        }
        Check.due("letter 6", x.letter(1, 6), -1);
        Check.due("letter -1", x.letter(1, -1), -1);
        Check.due("letter of none", x.letter(2, 0), -1);
        Check.due("letter of -1", x.letter(-1, 0), -1);
    }
}
