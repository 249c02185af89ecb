/** Part 1 of "Terms", the tree and its text: each sentence that names a boundary has a test of its own. */
public final class TermsOneTest {
    private static final int BAD = TreePlanks.BAD, FULL = TreePlanks.FULL;
    private static final Check CHECK = new Check();
    private static final Sentences TERMS = Sentences.ofTerms(CHECK, 1);

    /** Two BOUGHS that a PLANK may join: 14 letters. */
    private static final String TWO = "b0 9 0;b2 9 0;";

    public static void main(String[] args) {
        boughsEightAtMost();
        heightFrom0To20();
        strongFrom1To60();
        swayFrom0To3();
        planksSixAtMost();
        heightsTwoApart();
        holdsFrom1To40();
        endsAtTheOneAndTheOther();
        kindsFrom0To3();
        childrenFiveAtMost();
        weightFrom1To9();
        paidFrom0To9();
        textOf200Letters();
        letterByLetter();
        blanksBetweenTokens();
        itemsEndedBySemicolon();
        numbersOfABough();
        numbersOfAPlank();
        numbersOfAChild();
        lettersThatAreTokens();
        faultIsThePlaceOfTheFirst();
        ninthBough();
        seventhPlank();
        sixthChild();
        boughNotTold();
        otherBoughNotAsTold();
        numberBeyond();
        anyOtherLetter();
        numberAbove99();
        numberWith0Ahead();
        textEndsTooEarly();
        TERMS.finish();
        CHECK.finish();
    }

    private static void due(String what, long got, long want) {
        TERMS.due(what, got, want);
    }

    private static TreePlanks told(String text, int items) {
        TreePlanks x = Check.typed(new TreePlanks(), text);
        due("tree of '" + text + "'", x.tree(), items);
        return x;
    }

    private static void fault(String text, int place) {
        told(text, -10 - place);
    }

    private static void boughsEightAtMost() {
        TERMS.says("(8 at most)");
        TreePlanks x = told("b0 1 0;".repeat(7) + "b19 1 0;", 8);
        due("count", x.count(0), 8);
        due("the eighth", x.bough(7, 0), 19);
        due("no ninth", x.bough(8, 0), BAD);
        fault("b0 1 0;".repeat(8) + "b19 1 0;", 56);
    }

    private static void heightFrom0To20() {
        TERMS.says("HEIGHT (0 .. 20)");
        due("0", told("b0 1 0;", 1).bough(0, 0), 0);
        due("20", told("b20 1 0;", 1).bough(0, 0), 20);
        fault("b21 1 0;", 1);
        fault("b99 1 0;", 1);
    }

    private static void strongFrom1To60() {
        TERMS.says("STRONG (1 .. 60)");
        due("1", told("b0 1 0;", 1).bough(0, 1), 1);
        due("60", told("b0 60 0;", 1).bough(0, 1), 60);
        fault("b0 0 0;", 3);
        fault("b0 61 0;", 3);
    }

    private static void swayFrom0To3() {
        TERMS.says("SWAY (0 .. 3)");
        due("0", told("b0 1 0;", 1).bough(0, 2), 0);
        due("3", told("b0 1 3;", 1).bough(0, 2), 3);
        fault("b0 1 4;", 5);
    }

    private static void planksSixAtMost() {
        TERMS.says("PLANKS 0 .. (6 at most)");
        TreePlanks x = told(TWO + "p0 1 1 1 1;".repeat(5) + "p0 1 33 1 1;", 8);
        due("count", x.count(1), 6);
        due("the sixth", x.plank(5, 2), 33);
        due("no seventh", x.plank(6, 2), BAD);
        fault(TWO + "p0 1 1 1 1;".repeat(6) + "p0 1 33 1 1;", 14 + 66);
        due("none", told(TWO, 2).count(1), 0);
    }

    private static void heightsTwoApart() {
        TERMS.says("from a BOUGH to another one (HEIGHTS no more than 2 apart)");
        for (int far = 0; far <= 20; far++) {
            String up = "b0 1 0;b" + far + " 1 0;";
            String down = "b" + far + " 1 0;b0 1 0;";
            if (far <= 2) {
                told(up + "p0 1 1 1 1;", 3);
                told(up + "p1 0 1 1 1;", 3);
                told(down + "p0 1 1 1 1;", 3);
            } else {
                fault(up + "p0 1 1 1 1;", up.length() + 3);
                fault(up + "p1 0 1 1 1;", up.length() + 3);
                fault(down + "p0 1 1 1 1;", up.length() + 3);
            }
        }
        fault("b0 1 0;b0 1 0;p0 0 1 1 1;", 17);
        fault("b0 1 0;b0 1 0;p1 1 1 1 1;", 17);
    }

    private static void holdsFrom1To40() {
        TERMS.says("HOLDS (1 .. 40)");
        due("1", told(TWO + "p0 1 1 1 1;", 3).plank(0, 2), 1);
        due("40", told(TWO + "p0 1 40 1 1;", 3).plank(0, 2), 40);
        fault(TWO + "p0 1 0 1 1;", 19);
        fault(TWO + "p0 1 41 1 1;", 19);
    }

    private static void endsAtTheOneAndTheOther() {
        TERMS.says("ENDS 0, 1 (at the one, at the other BOUGH)");
        TreePlanks x = told(TWO + "p1 0 9 2 3;", 3);
        due("END 0 is at the one", x.plank(0, 0), 1);
        due("END 1 at the other", x.plank(0, 1), 0);
        due("END 0 is laid as the first says", x.end(0, 0, 0), 2);
        due("END 1 as the second", x.end(0, 1, 0), 3);
        due("no END 2", x.end(0, 2, 0), BAD);
        due("no END -1", x.end(0, -1, 0), BAD);
    }

    private static void kindsFrom0To3() {
        TERMS.says("each LOOSE (0), NAILED (1), ROPED (2) or BOLTED (3)");
        for (int j = 0; j <= 3; j++) {
            for (int k = 0; k <= 3; k++) {
                TreePlanks x = told(TWO + "p0 1 9 " + j + " " + k + ";", 3);
                due("END 0", x.end(0, 0, 0), j);
                due("END 1", x.end(0, 1, 0), k);
            }
        }
        fault(TWO + "p0 1 9 4 1;", 21);
        fault(TWO + "p0 1 9 1 4;", 23);
    }

    private static void childrenFiveAtMost() {
        TERMS.says("CHILDREN 0 .. (5 at most)");
        TreePlanks x = told("c1 1;".repeat(4) + "c8 1;", 5);
        due("count", x.count(2), 5);
        due("the fifth", x.child(4, 0), 8);
        due("no sixth", x.child(5, 0), BAD);
        fault("c1 1;".repeat(5) + "c8 1;", 25);
        due("none", told(TWO, 2).count(2), 0);
    }

    private static void weightFrom1To9() {
        TERMS.says("WEIGHT (1 .. 9)");
        due("1", told("c1 0;", 1).child(0, 0), 1);
        due("9", told("c9 0;", 1).child(0, 0), 9);
        fault("c0 0;", 1);
        fault("c10 0;", 1);
    }

    private static void paidFrom0To9() {
        TERMS.says("PAID (0 .. 9)");
        due("0", told("c1 0;", 1).child(0, 1), 0);
        due("9", told("c1 9;", 1).child(0, 1), 9);
        fault("c1 10;", 3);
    }

    private static void textOf200Letters() {
        TERMS.says("They are a text (200 letters at most)");
        TreePlanks x = Check.typed(new TreePlanks(), " ".repeat(192) + "b20 1 0;");
        due("letters", x.count(5), 200);
        due("a 201st", x.type(';'), FULL);
        due("the last letter is read", x.tree(), 1);
        due("height", x.bough(0, 0), 20);
        Check.typed(x, " ".repeat(193) + "b20 1 0");
        due("the ; finds no room", x.type(';'), FULL);
        due("so it ends too early", x.tree(), -10 - 200);
    }

    private static void letterByLetter() {
        TERMS.says("told letter by letter");
        TreePlanks x = new TreePlanks();
        String text = "b12 34 2;";
        for (int i = 0; i < text.length(); i++) {
            due("letters", x.type(text.charAt(i)), i + 1);
            due("no bough yet", x.count(0), 0);
            x.gale(1);
        }
        due("tree", x.tree(), 1);
        due("height", x.bough(0, 0), 12);
        due("strong", x.bough(0, 1), 34);
        due("sway", x.bough(0, 2), 2);
    }

    private static void blanksBetweenTokens() {
        TERMS.says("blanks (32) between TOKENS");
        told(" ", 0);
        told("b1 2 3;", 1);
        told("   b   1   2   3   ;   ", 1);
        told("b1 2 3;b1 2 3;p0 1 9 1 1;c1 1;", 4);
        told("b 1 2 3 ; b 1 2 3 ; p 0 1 9 1 1 ; c 1 1 ;", 4);
        // without a blank two NUMBERS are one: 12, then 3, then too few of them
        fault("b12 3;", 5);
        for (int other : new int[] {0, 9, 10, 11, 12, 13, 31, 33, 160, 255}) {
            fault("b1" + (char) other + "2 3;", 2);
            fault((char) other + "b1 2 3;", 0);
        }
    }

    private static void itemsEndedBySemicolon() {
        TERMS.says("ITEMS, each ended by ;");
        told("b1 2 3;c1 1;", 2);
        fault("b1 2 3", 6);
        fault("b1 2 3 c1 1;", 7);
        fault("b1 2 3b1 2 3;", 6);
        fault(";", 0);
        fault("b1 2 3;;", 7);
        fault("b1 2 3; ;", 8);
        fault(",", 0);
        fault("b1 2 3:", 6);
    }

    private static void numbersOfABough() {
        TERMS.says("b H S W (a BOUGH)");
        TreePlanks x = told("b1 2 3;", 1);
        due("H", x.bough(0, 0), 1);
        due("S", x.bough(0, 1), 2);
        due("W", x.bough(0, 2), 3);
        fault("b;", 1);
        fault("b1;", 2);
        fault("b1 2;", 4);
        fault("b1 2 3 0;", 7);
        fault("b1 b2 3;", 3);
        fault("1 2 3;", 0);
    }

    private static void numbersOfAPlank() {
        TERMS.says("p A B N J K (a PLANK: BOUGHS told ahead, unlike, no more than 2 apart; HOLDS; its ENDS)");
        TreePlanks x = told(TWO + "b1 9 0;p2 0 31 3 2;", 4);
        due("A", x.plank(0, 0), 2);
        due("B", x.plank(0, 1), 0);
        due("N", x.plank(0, 2), 31);
        due("J", x.end(0, 0, 0), 3);
        due("K", x.end(0, 1, 0), 2);
        fault(TWO + "p;", 15);
        fault(TWO + "p0;", 16);
        fault(TWO + "p0 1;", 18);
        fault(TWO + "p0 1 9;", 20);
        fault(TWO + "p0 1 9 1;", 22);
        fault(TWO + "p0 1 9 1 1 1;", 25);
        fault("b0 9 0;p0 1 9 1 1;b2 9 0;", 10);
        fault("p0 1 9 1 1;b0 9 0;b2 9 0;", 1);
        told("c1 1;" + TWO + "p1 0 9 1 1;b5 9 0;p0 1 9 1 1;", 6);
    }

    private static void numbersOfAChild() {
        TERMS.says("c W P (a child)");
        TreePlanks x = told("c7 4;", 1);
        due("W", x.child(0, 0), 7);
        due("P", x.child(0, 1), 4);
        fault("c;", 1);
        fault("c1;", 2);
        fault("c1 1 1;", 5);
        fault("c1 c1;", 3);
    }

    private static void lettersThatAreTokens() {
        TERMS.says("TOKENS are the letters b, p, c, NUMBERS and ;");
        for (int letter = 0; letter <= 255; letter++) {
            String one = String.valueOf((char) letter);
            boolean begins = letter == 'b' || letter == 'p' || letter == 'c';
            if (letter == ' ') {
                told(one, 0);
            } else {
                fault(one, begins ? 1 : 0);
            }
            boolean goesOn = letter == ' ' || (letter >= '0' && letter <= '9');
            fault("b" + one, goesOn ? 2 : 1);
        }
        fault("b-1 1 0;", 1);
        fault("b+1 1 0;", 1);
        fault("b1.5 1 0;", 2);
    }

    private static void faultIsThePlaceOfTheFirst() {
        TERMS.says("FAULT: the place of the first letter of the first TOKEN that can't stand there");
        fault("   b 21 99 99;", 5);
        fault("b0 61 4;", 3);
        fault("b0 9 0;b0 9 0;p0 1 99 9 9;c0 99;", 19);
        fault("b0 0 0;?", 3);
        fault("?b0 0 0;", 0);
        fault("b0 1 0;b0 1 0 x 100", 14);
        fault("b0 1 0 7 100;", 7);
        TreePlanks x = Check.typed(new TreePlanks(), " ".repeat(199) + ";");
        due("the last place", x.tree(), -10 - 199);
    }

    private static void ninthBough() {
        TERMS.says("a ninth b");
        String eight = "b0 1 0;".repeat(8);
        told(eight, 8);
        fault(eight + "b", 56);
        fault(eight + "  b0 1 0;", 58);
        fault(eight + "c1 1;p0 1 1 1 1;b0 1 0;", 56 + 16);
        // the TOKEN b itself can't stand, whatever is wrong behind it
        fault(eight + "b99 99 99;", 56);
    }

    private static void seventhPlank() {
        TERMS.says("a seventh p");
        String six = TWO + "p0 1 1 1 1;".repeat(6);
        told(six, 8);
        fault(six + "p", 80);
        fault(six + " p0 1 1 1 1;", 81);
        fault(six + "b0 1 0;c1 1;p9 9 99 9 9;", 92);
    }

    private static void sixthChild() {
        TERMS.says("a sixth c");
        String five = "c1 1;".repeat(5);
        told(five, 5);
        fault(five + "c", 25);
        fault(five + " c1 1;", 26);
        fault(five + "b0 1 0;c0 10;", 32);
    }

    private static void boughNotTold() {
        TERMS.says("an A that was not told");
        fault(TWO + "p2 0 1 1 1;", 15);
        fault(TWO + "p8 0 1 1 1;", 15);
        fault(TWO + "p99 0 1 1 1;", 15);
        fault(TWO + "p 2 0 1 1 1;b0 1 0;", 16);
        told("b0 1 0;".repeat(8) + "p7 0 1 1 1;", 9);
        fault("b0 1 0;".repeat(8) + "p8 0 1 1 1;", 57);
        fault("b0 1 0;".repeat(7) + "p7 0 1 1 1;", 50);
        // BOUGHS of the tree that stands are not told by the text
        TreePlanks x = Check.planted(TWO);
        due("a tree of two", Check.typed(x, "p0 1 1 1 1;").tree(), -10 - 1);
    }

    private static void otherBoughNotAsTold() {
        TERMS.says("a B that was not, is A, or is more than 2 apart");
        fault(TWO + "p0 2 1 1 1;", 17);
        fault(TWO + "p0 99 1 1 1;", 17);
        fault(TWO + "p0 2 1 1 1;b0 1 0;", 17);
        told("b0 1 0;".repeat(8) + "p0 7 1 1 1;", 9);
        fault("b0 1 0;".repeat(8) + "p0 8 1 1 1;", 59);
        fault("b0 1 0;".repeat(7) + "p0 7 1 1 1;", 52);
        fault(TWO + "p0 0 1 1 1;", 17);
        fault(TWO + "p1  1 1 1 1;", 18);
        fault("b0 9 0;b3 9 0;p0 1 1 1 1;", 17);
        fault("b20 9 0;b17 9 0;p0 1 1 1 1;", 19);
        told("b20 9 0;b18 9 0;p0 1 1 1 1;", 3);
    }

    private static void numberBeyond() {
        TERMS.says("a NUMBER beyond what it may be, too");
        fault("b 21 1 0;", 2);
        fault("b0  61 0;", 4);
        fault("b0 1   4;", 7);
        fault(TWO + "p0 1  41 1 1;", 20);
        fault(TWO + "p0 1 1  4 1;", 22);
        fault(TWO + "p0 1 1 1  4;", 24);
        fault("c 10 0;", 2);
        fault("c1  10;", 4);
    }

    private static void anyOtherLetter() {
        TERMS.says("of any other letter");
        fault("B0 1 0;", 0);
        fault("b0 1 0;P", 7);
        fault("b0 1 0,", 6);
        fault("b0 1 0;d", 7);
        fault("b0 1 0; \n", 8);
        // a NUMBER ends where another letter comes
        fault("b0 1x0;", 4);
    }

    private static void numberAbove99() {
        TERMS.says("a NUMBER above 99");
        fault("b100 1 0;", 1);
        fault("b0 100 0;", 3);
        fault("b0 1 0 100;", 7);
        fault("100", 0);
        // these would be 0, or 1, in a number of 8, 16, 32 or 64 bits
        for (String wraps : new String[] {"256", "65536", "4294967296", "18446744073709551616"}) {
            fault("b" + wraps + " 1 0;", 1);
        }
        fault("b0 4294967297 0;", 3);
        fault("b0 18446744073709551617 0;", 3);
        fault("b" + "9".repeat(199), 1);
    }

    private static void numberWith0Ahead() {
        TERMS.says("or with a 0 ahead of others, that TOKEN's");
        told("b0 1 0;", 1);
        told("b10 10 0;", 1);
        fault("b00 1 0;", 1);
        fault("b01 1 0;", 1);
        fault("b0 01 0;", 3);
        fault("b0 1  00;", 6);
        fault("b0 1 003;", 5);
        fault("c09 1;", 1);
        fault("b" + "0".repeat(190) + "1 1 0;", 1);
    }

    private static void textEndsTooEarly() {
        TERMS.says("the text's length, if it ends too early");
        for (String item : new String[] {"b10 20 3;", "p0 1 40 1 2;", "c9 9;", "  b 1 2  3  ;"}) {
            int begun = item.indexOf(item.strip().charAt(0)) + 1;
            for (int length = begun; length < item.length(); length++) {
                fault(TWO + item.substring(0, length), 14 + length);
            }
            told(TWO + item, 3);
        }
        fault("b1 2 3   ", 9);
        TreePlanks x = Check.typed(new TreePlanks(), "b1 2 3" + " ".repeat(194));
        due("a full text", x.tree(), -10 - 200);
        told("", 0);
    }
}
