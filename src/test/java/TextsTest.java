/** Promises 26 to 30: feed, trim, text, textTold, why; and what texts give. */
public final class TextsTest {
    private static final int BAD = Due.BAD, FULL = Due.FULL, NONE = Due.NONE;

    public static void main(String[] args) {
        feed();
        trim();
        faults();
        blanks();
        depths();
        full();
        textTold();
        why();
        whatTextsGive();
        Due.end();
    }

    private static void feed() {
        BentBranches x = new BentBranches();
        for (int n = 1; n <= 8; n++) {
            Due.is("feed " + n, x.feed(0, -1, n), 12 * n);
        }
        Due.is("the ninth", x.feed(0, 0, 0), FULL);
        Due.is("bytes", x.count(3), 96);
        x.trim(85);
        Due.is("12 more than 84", x.feed(0, 0, 0), FULL);
        x.trim(84);
        Due.is("12 more are 96", x.feed(0, 0, 0), 96);
        // "slop", "e t=", "1   ": the highest byte of each number comes first
        BentBranches y = new BentBranches();
        y.feed(0x736C6F70, 0x6520743D, 0x31202020);
        Due.is("what was fed", y.text(), 0);
        Due.is("its key", y.textTold(0, 0), 1);
        y.feed(0xFF000000, 0, 0);
        Due.is("a byte of 255 is a sign", y.text(), -100);
    }

    private static void trim() {
        BentBranches x = new BentBranches();
        Due.is("trim(1) of none", x.trim(1), BAD);
        Due.is("trim(0) of none", x.trim(0), 0);
        x.feed(0, 0, 0);
        Due.is("trim(13)", x.trim(13), BAD);
        Due.is("trim(-1)", x.trim(-1), BAD);
        Due.is("bytes", x.count(3), 12);
        Due.is("trim(12)", x.trim(12), 12);
        Due.is("trim(5)", x.trim(5), 5);
        Due.is("bytes", x.count(3), 5);
        Due.is("trim(6)", x.trim(6), BAD);
    }

    private static void fault(String text, int place) {
        BentBranches x = new BentBranches();
        Due.is("'" + text + "'", Due.text(x, text), place < 0 ? 0 : -100 - place);
        Due.is("THE TAPE is used up", x.count(3), 0);
        Due.is("texts", x.count(1), place < 0 ? 1 : 0);
    }

    private static void faults() {
        fault("", 0);
        fault("   ", 3);
        fault("ter", 0);
        fault("terms i", 0);
        fault("Term i", 0);
        fault("  mar x", 2);
        fault("9", 0);
        fault("term", 4);
        fault("term  ", 6);
        fault("term i +", 8);
        fault("term i+ ", 8);
        fault("term i j", 7);
        fault("term 1 2", 7);
        fault("term 1i", 6);
        fault("term i1", 6);
        fault("term ij", 5);
        fault("termi", 0);
        fault("terma", 0);
        fault("termz i", 0);
        fault("term ia", 5);
        fault("term iz", 5);
        fault("term1", 4);
        fault("term 1", -1);
        fault("term(1)", -1);
        fault("term!1", -1);
        fault("term +1", 5);
        fault("term -1", 5);
        fault("term 1+*2", 7);
        fault("term 9999", -1);
        fault("term 0000", -1);
        fault("term 10000", 5);
        fault("term i+00001", 7);
        fault("term 1<2<3", 8);
        fault("term 1=2>3", 8);
        fault("term (1<2)<3", -1);
        fault("term 1<2&3>4|5=6", -1);
        fault("term 1<2&3>4=1", 12);
        fault("term 1<2+3=4", 10);
        fault("term 1)", 6);
        fault("term (1", 7);
        fault("term ()", 6);
        fault("term ((1)", 9);
        fault("term (1)(2)", 8);
        fault("term 1!", 6);
        fault("term !", 6);
        fault("term !&", 6);
        fault("term 1||2", 7);
        fault("term 1&|2", 7);
        fault("term 1\t+2", 6);
        fault("term 1\u00002", 6);
        fault("term 1%2", 6);
        fault("term x", 5);
        fault("term t", 5);
        fault("term m", 5);
        fault("term i+j+c", -1);
        fault("slope t+m", -1);
        fault("slope x", 6);
        fault("slope i", 6);
        fault("mark x+y+m", -1);
        fault("mark x+y+t", 9);
        fault("mark x+y+c", 9);
        fault("term term", 5);
        fault("term 1 1 1", 7);
    }

    private static void blanks() {
        fault("   mark    x   +   3   <   ( y )  ", -1);
        fault("mark x+3<(y)", -1);
        fault("slope!!t", -1);
        fault("slope ! ! t", -1);
        fault("mark 1 0", 7);
        fault("m ark x", 0);
        fault(" ".repeat(96), 96);
        fault(" ".repeat(90) + "term i", -1);
        fault("term i" + " ".repeat(90), -1);
    }

    private static void depths() {
        fault("term " + "(".repeat(8) + "i" + ")".repeat(8), -1);
        fault("term " + "(".repeat(9) + "i" + ")".repeat(9), 5 + 8);
        fault("term " + "!".repeat(8) + "i", -1);
        fault("term " + "!".repeat(9) + "i", 5 + 8);
        fault("term " + "!(".repeat(8) + "i" + ")".repeat(8), -1);
        fault("term " + "!(".repeat(8) + "!i", 5 + 16);
        fault("term " + "!(".repeat(8) + "(i", 5 + 16);
        fault("term " + "(i)+".repeat(20) + "i", -1);
        fault("term " + "!i+".repeat(20) + "i", -1);
        fault("term !!!!!!!(!i+!j)", -1);
        fault("term !!!!!!!(!i+!!j)", 5 + 7 + 5);
        fault("term " + "!".repeat(8) + "(i)+!i", -1);
        fault("term " + "(".repeat(8) + "i" + ")".repeat(7) + "*(j))", -1);
        fault("term " + "(".repeat(8) + "i" + ")".repeat(7) + "*((j)))", -1);
        fault("term " + "(".repeat(8) + "i*((", 5 + 8 + 2);
        fault("term " + "1+".repeat(45) + "1", -1);
        fault("term " + "1+".repeat(45) + "(", 96);
    }

    private static void full() {
        BentBranches x = new BentBranches();
        for (int n = 0; n < 14; n++) {
            Due.is("text " + n, Due.text(x, "term " + n), n);
        }
        Due.is("one more", Due.text(x, "mark 1"), FULL);
        Due.is("THE TAPE is used up", x.count(3), 0);
        Due.is("FAULT stands ahead of FULL", Due.text(x, "mark t"), -105);
        Due.is("texts", x.count(1), 14);
        Due.is("why(0)", x.why(0), 13);
        Due.is("why(2)", x.why(2), NONE);
    }

    private static void textTold() {
        BentBranches x = new BentBranches();
        Due.text(x, "mark x*(y+m)-12/!3");
        Due.text(x, "slope t");
        Due.text(x, "term 7");
        int[] keys = {2, 1, 0};
        int[] leaves = {5, 1, 1};
        for (int n = 0; n < 3; n++) {
            Due.is("KEY", x.textTold(n, 0), keys[n]);
            Due.is("NUMBERS and NAMES", x.textTold(n, 1), leaves[n]);
            Due.is("what 2", x.textTold(n, 2), BAD);
            Due.is("what -1", x.textTold(n, -1), BAD);
        }
        Due.is("text 3", x.textTold(3, 0), BAD);
        Due.is("text -1", x.textTold(-1, 0), BAD);
        Due.is("text 14", x.textTold(14, 0), BAD);
    }

    private static void why() {
        BentBranches x = new BentBranches();
        Due.is("none", x.why(1), NONE);
        Due.text(x, "slope t");
        Due.text(x, "term i");
        Due.text(x, "slope m");
        Due.is("the last of two", x.why(1), 2);
        Due.is("the only one", x.why(0), 1);
        Due.is("none", x.why(2), NONE);
        Due.is("key 3", x.why(3), BAD);
        Due.is("key -1", x.why(-1), BAD);
    }

    /** What a text gives for i 3, j 1, c -7, as far as it is within -99 .. 99. */
    private static void gives(String text, int due) {
        BentBranches x = new BentBranches();
        Due.curve(x, 0, 31, -7);
        Due.text(x, "term " + text);
        Due.is("'" + text + "'", x.term(0, 31, 1), due);
    }

    private static void whatTextsGive() {
        gives("i", 3);
        gives("j", 1);
        gives("c", -7);
        gives("0042", 42);
        gives("10-3-2", 5);
        gives("2+3*4", 14);
        gives("(2+3)*4", 20);
        gives("20/3/2", 3);
        gives("20/(3/2)", 20);
        gives("2*7/3", 4);
        gives("7/3*2", 4);
        gives("c/2", -3);
        gives("c/0", 0);
        gives("0/0", 0);
        gives("c-1<c", 1);
        gives("c<c", 0);
        gives("c=0-7", 1);
        gives("i>j", 1);
        gives("j>i", 0);
        gives("1+1=2", 1);
        gives("5&c", 1);
        gives("5&0", 0);
        gives("0|c", 1);
        gives("0|0", 0);
        gives("1|1&0", 1);
        gives("(1|1)&0", 0);
        gives("1<2&2", 1);
        gives("1|2=3", 1);
        gives("5&5=5", 1);
        gives("!5", 0);
        gives("!0", 1);
        gives("!!9", 1);
        gives("!0+5", 6);
        gives("!(0+5)", 0);
        gives("3*!0", 3);
        gives("100", 99);
        gives("0-100", -99);
        gives("9999*9999*9999*9999", held(9999 * 9999 * 9999 * 9999));
        // 65536 * 32768 is the least int; by -1 it is itself, so still below 0
        gives("256*256*256*128/(0-1)<0", 1);
        gives("256*256*256*128<0", 1);
        gives("256*256*256*128-1>0", 1);
        gives("256*256*256*256", 0);
    }

    private static int held(int v) {
        return Math.max(-99, Math.min(99, v));
    }
}
