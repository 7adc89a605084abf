/** Boundaries of promise 5: FAULTS and their places. */
final class FaultEdges {
    private static final String FLOOR = "floor 3 by 4;";
    private static final String AMY = FLOOR + "box amy at 1 1 way 1;";
    private static final String[] OWN_WORDS = ("floor by grey box at way eyes apart ahead bias steers goes power lamp "
            + "cat left right mid lost step turned if or and not all min max").split(" ");

    private FaultEdges() {
    }

    /** A FAULT at the end of what stands ahead of the sign ^, which is left out. */
    private static void fault(int kind, String marked) {
        int place = marked.indexOf('^');
        Check.dueFault(marked.substring(0, place) + marked.substring(place + 1), kind, place);
    }

    private static void good(String text) {
        Check.due("fault(0) of '" + text + "'", Check.with(text).fault(0), 0);
    }

    @Edge(promise = 5, says = "its FAULT (what 0; 0 without, and ahead of any)")
    static void faultWithoutOne() {
        BlackLine x = new BlackLine();
        Check.due("ahead of any", x.fault(0), 0);
        Check.read(x, FLOOR);
        Check.due("without", x.fault(0), 0);
    }

    @Edge(promise = 5, says = "its place (1; NONE without)")
    static void placeWithoutOne() {
        BlackLine x = new BlackLine();
        Check.due("ahead of any", x.fault(1), -1);
        Check.read(x, FLOOR);
        Check.due("without", x.fault(1), -1);
        Check.read(x, "grey");
        Check.due("at the first byte", x.fault(1), 0);
    }

    @Edge(promise = 5, says = "Of the latest kitchen()")
    static void ofTheLatest() {
        BlackLine x = Check.with(FLOOR);
        Check.read(x, "floor 3 by 99;");
        Check.due("of a bad one", x.fault(0), 4);
        Check.due("its place", x.fault(1), 11);
        Check.read(x, FLOOR + "bias a 1;");
        Check.due("of another one", x.fault(0), 3);
        Check.due("its place, too", x.fault(1), 18);
        x.track();
        x.on();
        Check.due("other refusals are none", x.fault(0), 3);
        Check.read(x, FLOOR);
        Check.due("of a good one", x.fault(0), 0);
        Check.due("no place", x.fault(1), -1);
    }

    @Edge(promise = 5, says = "NONE for another what.")
    static void anotherWhat() {
        BlackLine x = new BlackLine();
        Check.read(x, "floor 3 by 99;");
        Check.due("fault(2)", x.fault(2), -1);
        Check.due("fault(-1)", x.fault(-1), -1);
        Check.due("fault(greatest)", x.fault(Integer.MAX_VALUE), -1);
        Check.due("fault(least)", x.fault(Integer.MIN_VALUE), -1);
    }

    @Edge(promise = 5, says = "1 the first byte with which no KITCHEN goes on")
    static void firstByteThatGoesNotOn() {
        fault(1, "^;");
        fault(1, "^?");
        fault(1, "floor ^; 3 by 4;");
        fault(1, FLOOR + "^;");
        fault(1, FLOOR + "lamp ^-1;");
        fault(1, FLOOR + "lamp 1^,");
        fault(1, AMY + "eyes amy ^ahead 1 apart 1;");
        fault(1, AMY + "eyes amy apart 1^;");
        fault(1, FLOOR + "box a ^0 0 way 0;");
        fault(1, FLOOR + "box a at 0 0^;");
        fault(1, FLOOR + "steers ^;");
        fault(1, FLOOR + "steers ^-1;");
        fault(1, FLOOR + "steers 1+^+1;");
        fault(1, FLOOR + "steers ^all;");
        fault(1, FLOOR + "steers 1^<2;");
        fault(1, FLOOR + "steers (1^;");
        fault(1, FLOOR + "steers 1^);");
        fault(1, FLOOR + "steers min(1^);");
        fault(1, FLOOR + "steers max ^1,2;");
        fault(1, FLOOR + "steers min^;");
        fault(1, FLOOR + "steers if^*2;");
        fault(1, FLOOR + "goes max^<2;");
        fault(1, FLOOR + "steers max(1,2^,3);");
        fault(1, FLOOR + "steers if(1^,2,3);");
        fault(1, FLOOR + "steers if(all,2^);");
        fault(1, FLOOR + "goes ^;");
        fault(1, FLOOR + "goes 1^;");
        fault(1, FLOOR + "goes (1^<2);");
        fault(1, FLOOR + "goes 1<2^<3;");
        fault(1, FLOOR + "goes all ^not all;");
        fault(1, FLOOR + "goes not^;");
        fault(1, FLOOR + "goes [all^;");
        fault(1, FLOOR + "goes all or^;");
    }

    @Edge(promise = 5, says = "in goes: turned; power;")
    static void askedInGoesAlone() {
        good(FLOOR + "goes turned=1 and power>2;");
        good(FLOOR + "goes if(turned=0,power,1)<2;");
        fault(1, FLOOR + "steers ^turned;");
        fault(1, FLOOR + "steers 1+^power;");
        fault(1, FLOOR + "goes all;steers if(^turned=0,1,2);");
        fault(1, FLOOR + "goes all;steers if(^power=0,1,2);");
    }

    @Edge(promise = 5, says = "words and numbers whole, at their first byte")
    static void wholeWordsAndNumbers() {
        fault(1, "^floo 3 by 4;");
        fault(1, "^floorx 3 by 4;");
        fault(1, "floor 3 ^bx 4;");
        fault(1, "floor 3 ^1234 4;");
        fault(1, FLOOR + "^lam 3;");
        fault(1, FLOOR + "^lamps 3;");
        fault(1, FLOOR + "steers ^lef;");
        fault(1, FLOOR + "goes 1<2 ^orr all;");
        fault(1, "floor 3 by 4 ^4444;");
    }

    @Edge(promise = 5, says = "at the text's length, if it ends too soon")
    static void endsTooSoon() {
        String text = " floor 3 by 4 ; box a at 0 0 way 1 ; steers if ( left < 1 , ( 2 ) , 3 ) ; goes not [ all ] ;";
        for (int k = 0; k < text.length() - 1; k++) {
            String part = text.substring(0, k);
            boolean good = part.trim().endsWith(";");
            boolean wholeWord = k == 0 || text.charAt(k) == ' ' || text.charAt(k - 1) == ' ';
            if (good) {
                good(part);
            } else if (wholeWord) {
                Check.dueFault(part, 1, k);
                Check.dueFault(part + " \n", 1, k + 2);
            }
        }
    }

    @Edge(promise = 5, says = "a 7th letter, a 5th digit at itself, whatever may stand there")
    static void seventhLetterAndFifthDigit() {
        fault(1, "floors^s 3 by 4;");
        fault(1, "1234^5");
        fault(1, "floor 3 by 0000^4;");
        fault(1, "floor 9999^9 by 4;");
        fault(1, "floor abcdef^gh");
        fault(1, FLOOR + "box abcdef^g at 0 0 way 0;");
        fault(1, FLOOR + "lamp abcdef^g;");
        fault(1, FLOOR + "1234^567;");
        fault(1, FLOOR + "steers steers^s;");
        fault(1, FLOOR + "goes 1<2 1234^5");
        fault(1, AMY + "bias abcdef^g 1;");
        fault(1, AMY + "box amyamy^a at 1 1 way 1;");
    }

    @Edge(promise = 5, says = "an OWN WORD where a NAME must be")
    static void ownWordsAreNoNames() {
        for (String word : OWN_WORDS) {
            fault(1, FLOOR + "box ^" + word + " at 0 0 way 0;");
            fault(1, AMY + "eyes ^" + word + " apart 1 ahead 1;");
            fault(1, AMY + "bias ^" + word + " 1;");
            String longer = word.length() < 6 ? word + "x" : word.substring(1);
            good(FLOOR + "box " + longer + " at 0 0 way 0;bias " + longer + " 1;");
        }
        fault(1, FLOOR + "box ^1 at 0 0 way 0;");
        fault(1, AMY + "bias ^; 1;");
    }

    @Edge(promise = 5, says = "2 a NAME to be given that is there already, at its first byte")
    static void givenAlready() {
        fault(2, AMY + "box ^amy at 0 0 way 0;");
        fault(2, AMY + "box am at 0 0 way 0;box ^am at 1 0 way 0;");
        fault(2, AMY + "box ^amy?");
        good(AMY + "box am at 0 0 way 0;box amyy at 0 1 way 0;box bmy at 0 2 way 0;box y at 0 3 way 0;");
    }

    @Edge(promise = 5, says = "3 a NAME that is none of a BOX, at its first byte")
    static void noneOfABox() {
        fault(3, FLOOR + "eyes ^amy apart 1 ahead 1;");
        fault(3, FLOOR + "bias ^amy 1;box amy at 1 1 way 1;");
        fault(3, AMY + "bias ^am 1;");
        fault(3, AMY + "eyes ^amyy apart 1 ahead 1;");
        fault(3, AMY + "bias ^b?");
        good(AMY + "bias amy 1;eyes amy apart 1 ahead 1;");
    }

    @Edge(promise = 5, says = "4 a NUMBER that can't be, at its first byte (of a CELL on which a BOX stands, the row)")
    static void numbersThatCannotBe() {
        fault(4, "floor ^1");
        fault(4, "floor 3 by ^10");
        fault(4, FLOOR + "grey ^3 9 99;");
        fault(4, FLOOR + "grey 2 ^4 99;");
        fault(4, FLOOR + "grey 2 3 ^10;");
        fault(4, FLOOR + "box a at ^3 4 way 4;");
        fault(4, FLOOR + "box a at 2 ^4 way 4;");
        fault(4, FLOOR + "box a at 2 3 way ^4;");
        fault(4, AMY + "box b at 1 ^1 way 4;");
        fault(4, AMY + "box b at 1 ^0001 way 1;");
        fault(4, AMY + "eyes amy apart ^3 ahead 4;");
        fault(4, AMY + "eyes amy apart 2 ahead ^4;");
        fault(4, AMY + "bias amy ^10;");
        fault(4, FLOOR + "power ^1000;");
        fault(4, FLOOR + "lamp ^10;");
        fault(4, FLOOR + "cat ^101;");
    }

    @Edge(promise = 5, says = "5 the 8th ( [ not that is open at once (not until its FACT ends), at it")
    static void eighthOpenAtOnce() {
        good(FLOOR + "steers (((((((1)))))));");
        good(FLOOR + "goes [[[[[[[all]]]]]]];");
        good(FLOOR + "goes not not not not not not not all;");
        good(FLOOR + "steers min(1,max(2,if([not(3)<4],5,(6))));");
        fault(5, FLOOR + "steers (((((((^(1))))))));");
        fault(5, FLOOR + "goes [[[[[[[^[all]]]]]]]];");
        fault(5, FLOOR + "goes not not not not not not not ^not all;");
        fault(5, FLOOR + "goes not not not not not not not ^[all];");
        fault(5, FLOOR + "goes not not not not not not not ^(1)<2;");
        fault(5, FLOOR + "goes not[not[not[not^(");
        fault5InChoices();
    }

    private static void fault5InChoices() {
        String[] heads = {"min(", "min(1,", "max(", "max(1,", "if(", "if(all,", "if(all,1,", "(1+", "(2*", "(1-2+"};
        for (String head : heads) {
            good(FLOOR + "steers " + head + "((((((1))))))" + tailOf(head) + ";");
            fault(5, FLOOR + "steers " + head + "((((((^(1)))))))" + tailOf(head) + ";");
            fault(5, FLOOR + "steers ((((((" + head + "^(");
            fault(5, FLOOR + "steers (((((((" + head.replaceFirst("\\(", "^("));
        }
    }

    private static String tailOf(String head) {
        switch (head) {
            case "min(":
            case "max(":
                return ",1)";
            case "if(":
                return "=1,1,2)";
            case "if(all,":
                return ",1)";
            default:
                return ")";
        }
    }

    @Edge(promise = 5, says = "(not until its FACT ends)")
    static void closedOnesCountNoMore() {
        String seven = "not not not not not not not all";
        good(FLOOR + "goes " + seven + " and " + seven + " or " + seven + ";");
        good(FLOOR + "goes not [" + seven.substring(8) + " or " + seven.substring(8) + "] and " + seven + ";");
        good(FLOOR + "goes not ((((((1))))))<((((((2))))));");
        good(FLOOR + "steers (((((((1)))))))+(((((((1)))))))*min(((((((1)))))),((((((2)))))));");
        good(FLOOR + "steers " + "(1)+".repeat(100) + "1;goes " + "not[not(1)<2]and ".repeat(50) + "all;");
        // The right side of a SIGN is of the FACT of its not still.
        fault(5, FLOOR + "goes not not not not not not not 1<^(1);");
        good(FLOOR + "goes not not not not not not not 1<1 and (1)<2;");
    }

    @Edge(promise = 5, says = "6 one too many of a kind of STATEMENT (a second steers, goes, too)")
    static void oneTooMany() {
        StringBuilder s = new StringBuilder("floor 7 by 2;");
        for (int k = 0; k < 6; k++) {
            s.append("box ").append((char) ('a' + k)).append(" at ").append(k).append(" 0 way 0;");
        }
        good(s.toString());
        fault(6, s + "^box g at 6 0 way 0;");
        fault(6, s + " ^box a at 0 0 way 9;");
        fault(6, s + "lamp 1;\n^box");
        good(s + "lamp 1;lamp 1;power 1;power 1;cat 1;cat 1;bias a 1;bias a 1;grey 0 0 1;grey 0 0 1;");
        fault(6, FLOOR + "steers 1;^steers 1;");
        fault(6, FLOOR + "steers 1;goes all; ^steers");
        fault(6, FLOOR + "goes all;^goes all;");
        fault(6, FLOOR + "goes all;steers 1;^goes ?");
    }

    @Edge(promise = 5, says = "or the 81st STATEMENT (whatever it is), at its first byte.")
    static void eightyFirst() {
        String eighty = FLOOR + "lamp 1;".repeat(79);
        good(eighty);
        String[] more = {"lamp 1;", "lamp", "floor 3 by 4;", "grey 9 9 99;", "box by at 0 0 way 0;", "bias b 1;", "steers ((((((((1;",
            "abcdefgh", "123456"};
        for (String one : more) {
            fault(6, eighty + "^" + one);
            fault(6, eighty + " \n ^" + one);
        }
        fault(4, FLOOR + "lamp 1;".repeat(78) + "lamp ^10;lamp 1;");
        Check.dueFault(eighty.substring(0, eighty.length() - 1), 1, eighty.length() - 1);
    }

    @Edge(promise = 5, says = "FAULTS, the first along the text")
    static void firstAlongTheText() {
        fault(4, "floor 3 by ^12 ?");
        fault(1, "floor 3 ^? by 12");
        fault(3, FLOOR + "bias ^zz ?");
        fault(4, FLOOR + "grey ^9 9 99;");
        fault(1, FLOOR + "grey 1^;grey 9 9 99;");
        fault(2, AMY + "box ^amy at 9 9 way 9;box amy");
        fault(5, FLOOR + "goes ((((((( ^( ?");
        fault(6, FLOOR + "goes all;^goes all all;");
        fault(4, "floor 3 by ^9999abcdefgh");
        fault(1, "floor 3 by 9999^9;lamp 99;");
    }
}
