/** The boundaries of promises 26 to 30, and of the section TEXTS, sentence by sentence. */
public final class TextEdgesTest {
    private static final int BAD = Due.BAD, FULL = Due.FULL, NONE = Due.NONE, LEAST = Integer.MIN_VALUE, MOST = Integer.MAX_VALUE;
    private static final String SIGNS = "|&<=>+-*/";
    private static final String[] KEYS = {"term", "slope", "mark"}, NAMES = {"ijc", "tm", "xym"};

    public static void main(String[] args) {
        feedUpTo96Bytes();
        feedTheHighestByteFirst();
        trimFromZeroToAll();
        trimKeepsTheFirst();
        textsFourteenAtMost();
        aTextUsesUpTheTape();
        aFaultStandsAheadOfFull();
        keysAsTheyAre();
        namesOfEachKey();
        numbersOfOneToFourDigits();
        anyByteBetween();
        anyByteAheadOfAPiece();
        anyByteAheadOfTheKey();
        anyByteBehindTheKey();
        anyByteAtTheEnd();
        wordsBehindWords();
        theEndTooSoon();
        whatEachLevelTakes();
        oneComparison();
        eightOpenAndTheNinth();
        eightNotsAndTheNinth();
        opensAndNotsEachByItself();
        textToldTellsWhatItTakes();
        numbersAndNamesCounted();
        whyTheOneToldLast();
        intsWrap();
        divisionCutsTowardsZero();
        divisionByZero();
        testsGiveOneOrZero();
        theLoosestFirst();
        namesAtTheirEnds();
        Due.end();
    }

    // ---- promise 26, "FULL: it would have more than 96"

    private static void feedUpTo96Bytes() {
        Run run = Run.some().does(0, "trim", 0);
        for (int n = 1; n <= 7; n++) {
            run.does(12 * n, "feed", 0, n, -n).asks(12 * n, "count", 3);
        }
        run.changes(96, "feed", 0, 0, 0);
        run.does(96, "feed", LEAST, MOST, -1).asks(96, "count", 3).refuses(FULL, "feed", 0, 0, 0);
        for (int n = 95; n >= 85; n--) {
            run.does(n, "trim", n).refuses(FULL, "feed", 0, 0, 0);
        }
        run.does(84, "trim", 84).changes(96, "feed", 0, 0, 0);
        Run.full().refuses(FULL, "feed", 0, 0, 0);
    }

    // "Twelve bytes .. the highest of each number first"
    private static void feedTheHighestByteFirst() {
        for (int place = 0; place < 12; place++) {
            for (char sign : new char[] {255, 128, 127, 0}) {
                StringBuilder text = new StringBuilder("term i+j+c+i");
                text.setCharAt(place, sign);
                fault(text.toString(), place < 4 ? 0 : place);
            }
        }
        new Run().does(12, "feed", 0x7465726D, 0x20692B6A, 0x2B632B69).changes(0, "text");
        // bytes of 128 and above come from numbers below 0
        new Run().does(12, "feed", 0xFF65726D, 0x20692B6A, 0x2B632B69).refusesWithTape(-100, "text");
        new Run().does(12, "feed", 0x7465726D, 0x20692B6A, 0x2B632BFF).refusesWithTape(-111, "text");
    }

    // ---- promise 27

    private static void trimFromZeroToAll() {
        new Run().argument(0, "trim", 0).least(0, 0).most(0, 0).beyond(BAD);
        Run.some().argument(0, "trim", 0).least(0, 0).most(8, 8).beyond(BAD);
        Run.full().argument(0, "trim", 0).least(0, 0).most(96, 96).beyond(BAD);
        new Run().does(12, "feed", 1, 2, 3).argument(0, "trim", 0).least(0, 0).most(12, 12).beyond(BAD);
        // what was cut off does not come back
        Run.some().does(3, "trim", 3).refuses(BAD, "trim", 4).refuses(BAD, "trim", 8).asks(3, "count", 3);
        Run.some().asks(8, "trim", 8);
    }

    private static void trimKeepsTheFirst() {
        Run run = new Run().feeds("term i+j");
        int[] due = {-100, -100, -100, -100, -104, -105, 0, -107, 0};
        for (int n = 0; n <= 8; n++) {
            Run cut = new Run().feeds("term i+j").does(n, "trim", n);
            cut.does(due[n], "text").asks(due[n] == 0 ? 1 : 0, "count", 1);
        }
        // bytes that are fed later stand behind those that were kept
        run.does(5, "trim", 5).does(17, "feed", 0x636A2020, 0, 0).refusesWithTape(-105, "text");
        run.does(6, "trim", 6).does(18, "feed", 0x202B206A, 0x20202020, 0x20202020).changes(0, "text");
    }

    // ---- promise 28, "TEXTS, 14 at most, numbered from 0"

    private static Run texts(int many) {
        Run run = new Run().does(0, "curve", 0);
        for (int n = 0; n < many; n++) {
            run.tells(n, KEYS[n % 3] + " " + n);
        }
        return run;
    }

    private static void textsFourteenAtMost() {
        texts(0).feeds("term 1").changes(0, "text").does(0, "text").asks(1, "count", 1);
        texts(13).feeds("term 99").changes(13, "text").does(13, "text").asks(14, "count", 1).asks(13, "why", 0).asks(99, "term", 0, 0, 1);
        texts(14).feeds("term 99").refusesWithTape(FULL, "text").does(FULL, "text").asks(14, "count", 1).asks(12, "why", 0)
            .asks(12, "term", 0, 0, 1).asks(0, "count", 3);
        Run.full().refusesWithTape(FULL, "text");
    }

    // "an act that reads it uses it up, whatever it answers"
    private static void aTextUsesUpTheTape() {
        Run.some().does(2, "text").asks(0, "count", 3).refuses(-100, "text").refuses(BAD, "trim", 1);
        Run.some().does(6, "trim", 6).does(2, "text").asks(0, "count", 3);
        Run.some().does(7, "trim", 7).refusesWithTape(-107, "text").does(-107, "text").asks(0, "count", 3).asks(2, "count", 1);
        Run.full().does(FULL, "text").asks(0, "count", 3).changes(12, "feed", 0, 0, 0);
    }

    private static void aFaultStandsAheadOfFull() {
        Run.full().does(0, "trim", 0).refuses(-100, "text");
        Run.full().feeds("mark 1 1").refusesWithTape(-107, "text");
        texts(13).feeds("mark 1 1").refusesWithTape(-107, "text");
    }

    // ---- "KEY E. KEY: term | slope | mark", "-100 less the place of its FAULT"

    /** A text that is one, if the place is below 0, or has its FAULT there. */
    private static void fault(String text, int place) {
        BentBranches x = new BentBranches();
        Due.is("'" + text + "'", Due.text(x, text), place < 0 ? 0 : -100 - place);
        Due.is("texts after '" + text + "'", x.count(1), place < 0 ? 1 : 0);
        Due.is("bytes after '" + text + "'", x.count(3), 0);
    }

    private static void keysAsTheyAre() {
        for (String key : KEYS) {
            fault(key + " 1", -1);
            fault(key, key.length());
            fault(key + "s 1", 0);
            fault("s" + key + " 1", 0);
            fault(key.substring(0, key.length() - 1) + " 1", 0);
            fault(key.substring(1) + " 1", 0);
            fault(Character.toUpperCase(key.charAt(0)) + key.substring(1) + " 1", 0);
            fault(key + " " + key, key.length() + 1);
            fault(key + key, 0);
            fault("1 " + key, 0);
            fault("(" + key + " 1)", 0);
            fault("  " + key + "a 1", 2);
        }
        fault("t", 0);
        fault("term", 4);
        fault("i", 0);
    }

    // "NAMES, each one letter: of term i, j, c; of slope t, m TIMES; of mark x, y, m TIMES"
    private static void namesOfEachKey() {
        for (int key = 0; key < 3; key++) {
            int at = KEYS[key].length() + 1;
            for (char letter = 'a'; letter <= 'z'; letter++) {
                boolean is = NAMES[key].indexOf(letter) >= 0;
                fault(KEYS[key] + " " + letter, is ? -1 : at);
                fault(KEYS[key] + " " + letter + letter, at);
                fault(KEYS[key] + " 1+" + letter, is ? -1 : at + 2);
                fault(KEYS[key] + " " + NAMES[key].charAt(0) + letter, at);
                fault(KEYS[key] + " " + Character.toUpperCase(letter), at);
            }
            fault(KEYS[key] + " " + NAMES[key], at);
        }
    }

    // "NUMBER (1 to 4 digits)", "a NUMBER of more than 4 digits"
    private static void numbersOfOneToFourDigits() {
        for (int digits = 1; digits <= 8; digits++) {
            fault("term " + "1234567890".substring(0, digits), digits <= 4 ? -1 : 5);
            fault("term " + "0000000000".substring(0, digits), digits <= 4 ? -1 : 5);
            fault("mark x+" + "9999999999".substring(0, digits) + "*y", digits <= 4 ? -1 : 7);
            fault("term (" + "1234567890".substring(0, digits) + ")", digits <= 4 ? -1 : 6);
        }
        fault("term " + "1".repeat(91), 5);
        fault("term 1234 5", 10);
        gives("9999-9900", 99);
        gives("0009", 9);
        gives("0", 0);
        gives("9", 9);
    }

    // ---- "any other byte is a sign by itself"

    private static boolean isLetter(int sign) {
        return sign >= 'a' && sign <= 'z';
    }

    private static boolean isDigit(int sign) {
        return sign >= '0' && sign <= '9';
    }

    private static void anyByteBetween() {
        for (char sign = 0; sign < 256; sign++) {
            int wrong = sign == ' ' ? 7 : isLetter(sign) ? 5 : 6;
            fault("term i" + sign + "j", SIGNS.indexOf(sign) >= 0 ? -1 : wrong);
            fault("term i " + sign + " j", SIGNS.indexOf(sign) >= 0 ? -1 : sign == ' ' ? 9 : 7);
        }
    }

    private static void anyByteAheadOfAPiece() {
        for (char sign = 0; sign < 256; sign++) {
            int wrong = sign == '(' ? 7 : isDigit(sign) ? 6 : 5;
            fault("term " + sign + "i", sign == '!' || sign == ' ' ? -1 : wrong);
            fault("term (" + sign + "i)", sign == '!' || sign == ' ' ? -1 : wrong + 1 + (sign == '(' ? 1 : 0));
        }
    }

    private static void anyByteAheadOfTheKey() {
        for (char sign = 0; sign < 256; sign++) {
            fault(sign + "term i", sign == ' ' ? -1 : 0);
            fault("  " + sign + " term i", sign == ' ' ? -1 : 2);
        }
    }

    private static void anyByteBehindTheKey() {
        for (char sign = 0; sign < 256; sign++) {
            int wrong = isLetter(sign) ? 0 : sign == '(' ? 6 : 4;
            fault("term" + sign + "i", sign == '!' || sign == ' ' ? -1 : wrong);
        }
        fault("term(i)", -1);
    }

    private static void anyByteAtTheEnd() {
        for (char sign = 0; sign < 256; sign++) {
            int wrong = SIGNS.indexOf(sign) >= 0 ? 7 : isLetter(sign) ? 5 : 6;
            fault("term i" + sign, sign == ' ' ? -1 : wrong);
            fault("term (i" + sign, sign == ')' ? -1 : SIGNS.indexOf(sign) >= 0 || sign == ' ' ? 8 : isLetter(sign) ? 6 : 7);
        }
    }

    // "there may be blanks (byte 32); a word right behind another one needs one"
    private static void wordsBehindWords() {
        fault("term1", 4);
        fault("term 1", -1);
        fault("term      1", -1);
        fault("slope9", 5);
        fault("mark0+x", 4);
        fault("term i1", 6);
        fault("term 1i", 6);
        fault("term 1 i", 7);
        fault("term i 1", 7);
        fault("term i j", 7);
        fault("term 1 1", 7);
        fault("term 1+1i", 8);
        fault("term(1)+(i)", -1);
        fault("term(1)i", 7);
        fault("term(1)1", 7);
        fault(" term ( ! i & 1 ) | 2 < 3 ", -1);
        fault("term(!i&1)|2<3", -1);
        fault("term 1 23", 7);
        fault("te rm 1", 0);
        fault(" ".repeat(89) + "term 1 ", -1);
        fault("term 1" + " ".repeat(90), -1);
        fault(" ".repeat(90) + "term 1", -1);
    }

    // "the end (the place behind the last byte), if it comes too soon"
    private static void theEndTooSoon() {
        String[] soon = {"", " ", "term", "term ", "term i+", "term i+ ", "term (", "term (i", "term (i ", "term !", "term i&", "term i|", "term i<",
            "term i=", "term i>", "term i-", "term i*", "term i/", "term (i)+(", "term !!!", "term ((((i)))", "slope", "mark"};
        for (String text : soon) {
            fault(text, text.length());
        }
        for (int length = 1; length <= 96; length++) {
            fault(" ".repeat(length), length);
        }
        fault("term (i" + "+i".repeat(44), 95);
        fault("term (i" + "+i".repeat(44) + " ", 96);
        fault("term (i" + "+i".repeat(44) + ")", -1);
        fault("term " + "i+".repeat(45) + "i", -1);
        fault("term " + "i+".repeat(45) + "(", 96);
        fault("term " + "i+".repeat(45) + " ", 96);
        fault("term " + "i+".repeat(45) + "+", 95);
    }

    // "OR: AND { | AND }; AND: TEST { & TEST }; TEST: SUM [ .. SUM ]; SUM: TERM { .. TERM }; TERM: PIECE { .. PIECE }"
    private static void whatEachLevelTakes() {
        for (char one : SIGNS.toCharArray()) {
            boolean first = "<=>".indexOf(one) >= 0;
            fault("term i" + one + "j", -1);
            fault("term " + one + "j", 5);
            fault("term i" + one, 7);
            fault("term i" + one + one + "j", 7);
            fault("term i" + one + "!j", -1);
            fault("term i!" + one + "j", 6);
            fault("term (" + one + ")", 6);
            for (char other : SIGNS.toCharArray()) {
                boolean second = "<=>".indexOf(other) >= 0;
                fault("term i" + one + other + "j", 7);
                fault("term i" + one + "j" + other + "c", first && second ? 8 : -1);
                fault("term (i" + one + "j)" + other + "c", -1);
                fault("term i" + one + "(j" + other + "c)", -1);
            }
        }
        fault("term ()", 6);
        fault("term i)", 6);
        fault("term (i))", 8);
        fault("term (i)(j)", 8);
        fault("term i(j)", 6);
        fault("term !", 6);
        fault("term i!", 6);
        fault("term !i!", 7);
        fault("term !(i)", -1);
    }

    private static void oneComparison() {
        fault("term 1<2", -1);
        fault("term 1<2<3", 8);
        fault("term 1<2=3", 8);
        fault("term 1+2<3*4>5", 12);
        fault("term 1<2&3<4", -1);
        fault("term 1<2|3<4", -1);
        fault("term 1<2&3<4<5", 12);
        fault("term (1<2)<3", -1);
        fault("term (1<2)<(3<4)", -1);
        fault("term (1<2)<(3<4)<5", 16);
        fault("term 1<(2<3<4)", 11);
        fault("term 1<!2", -1);
        fault("term 1<2 <3", 9);
        fault("term 1<=2", 7);
        fault("term 1<>2", 7);
    }

    // "the ninth ( that would be open within others"
    private static void eightOpenAndTheNinth() {
        for (int deep = 1; deep <= 12; deep++) {
            fault("term " + "(".repeat(deep) + "i" + ")".repeat(deep), deep <= 8 ? -1 : 13);
            fault("term " + "( ".repeat(deep) + "i" + ")".repeat(deep), deep <= 8 ? -1 : 21);
            fault("term " + "(j+".repeat(deep) + "i" + ")".repeat(deep), deep <= 8 ? -1 : 5 + 24);
            fault("term " + "(i)+".repeat(deep) + "i", -1);
        }
        // one that is closed is open no more
        fault("term " + "(".repeat(8) + "i" + ")".repeat(8) + "+" + "(".repeat(8) + "i" + ")".repeat(8), -1);
        fault("term " + "(".repeat(7) + "(i)+(j)" + ")".repeat(7), -1);
        fault("term " + "(".repeat(8) + "i)+((j)" + ")".repeat(7), 5 + 8 + 4);
        fault("term " + "(".repeat(9), 13);
        fault("term " + "(".repeat(8), 13);
        fault("term " + "(".repeat(8) + "i" + ")".repeat(9), 5 + 17);
    }

    // "the ninth ! likewise"
    private static void eightNotsAndTheNinth() {
        for (int deep = 1; deep <= 12; deep++) {
            fault("term " + "!".repeat(deep) + "i", deep <= 8 ? -1 : 13);
            fault("term " + "! ".repeat(deep) + "i", deep <= 8 ? -1 : 21);
            fault("term j+" + "!".repeat(deep) + "i*!j", deep <= 8 ? -1 : 15);
            fault("term " + "!i+".repeat(deep) + "i", -1);
        }
        fault("term " + "!".repeat(8) + "i+" + "!".repeat(8) + "j", -1);
        fault("term " + "!".repeat(8) + "i+" + "!".repeat(9) + "j", 5 + 10 + 8);
        fault("term " + "!".repeat(8), 13);
        fault("term " + "!".repeat(9), 13);
    }

    // "each by itself": nots do not make opens more, nor opens nots
    private static void opensAndNotsEachByItself() {
        fault("term " + "!(".repeat(8) + "i" + ")".repeat(8), -1);
        fault("term " + "(!".repeat(8) + "i" + ")".repeat(8), -1);
        fault("term " + "!".repeat(8) + "(".repeat(8) + "i" + ")".repeat(8), -1);
        fault("term " + "(".repeat(8) + "!".repeat(8) + "i" + ")".repeat(8), -1);
        fault("term " + "!".repeat(8) + "(".repeat(9), 5 + 16);
        fault("term " + "(".repeat(8) + "!".repeat(9), 5 + 16);
        fault("term " + "(".repeat(8) + "!(", 5 + 9);
        fault("term " + "!".repeat(8) + "i+(" + "!".repeat(8) + "j)", -1);
    }

    // ---- promises 29 and 30

    private static void textToldTellsWhatItTakes() {
        Run.some().argument(0, "textTold", 0, 0).least(0, 1).most(1, 2).beyond(BAD);
        Run.some().argument(1, "textTold", 1, 0).least(0, 2).most(1, 2).beyond(BAD);
        Run.full().argument(0, "textTold", 0, 0).least(0, 2).most(13, 0).beyond(BAD);
        new Run().refuses(BAD, "textTold", 0, 0).refuses(BAD, "textTold", -1, 1);
        Run.some().refuses(BAD, "textTold", 2, 2);
        for (int key = 0; key < 3; key++) {
            new Run().tells(0, KEYS[key] + " 1").asks(key, "textTold", 0, 0);
        }
    }

    // "how many NUMBERS and NAMES it has"
    private static void numbersAndNamesCounted() {
        String[] text = {"1", "i", "((9999))", "!!i", "i+1", "i-1", "i/i/i", "(c<1)|!(j&0)", "1+".repeat(45) + "1"};
        int[] due = {1, 1, 1, 1, 2, 2, 3, 4, 46};
        for (int n = 0; n < text.length; n++) {
            new Run().tells(0, "term " + text[n]).asks(due[n], "textTold", 0, 1).asks(0, "textTold", 0, 0);
        }
    }

    // "Of a KEY that TEXT counts that was told last"
    private static void whyTheOneToldLast() {
        Run.some().argument(0, "why", 0).least(0, NONE).most(2, 1).beyond(BAD);
        Run.full().argument(0, "why", 0).least(0, 13).most(2, 12).beyond(BAD);
        new Run().refuses(NONE, "why", 0).refuses(NONE, "why", 2).refuses(BAD, "why", 3).refuses(BAD, "why", -1);
        Run run = new Run().does(0, "curve", 0).tells(0, "term 1").asks(0, "why", 0).asks(NONE, "why", 1).asks(NONE, "why", 2);
        run.tells(1, "term 2").asks(1, "why", 0).asks(2, "term", 0, 0, 1).tells(2, "slope 1").asks(1, "why", 0).asks(2, "why", 1);
        // a text that is refused does not count
        run.tells(-105, "term +3").asks(1, "why", 0).asks(2, "term", 0, 0, 1);
        run.does(1, "keep").tells(3, "term 4").asks(3, "why", 0).does(1, "back").asks(1, "why", 0).asks(2, "term", 0, 0, 1).asks(2, "why", 1);
    }

    // ---- what texts give

    private static final String GREATEST = "(256*256*256*128-1)", SMALLEST = "(256*256*256*128)";

    /** TERM of i 3, j 1, c -7. */
    private static void gives(String text, int due) {
        BentBranches x = new BentBranches();
        Due.curve(x, 0, 31, -7);
        Due.is("'" + text + "'", Due.text(x, "term " + text), 0);
        Due.is("'" + text + "'", x.term(0, 31, 1), due);
    }

    // "Ints wrap"
    private static void intsWrap() {
        gives(GREATEST, 99);
        gives(SMALLEST, -99);
        gives(GREATEST + "+1", -99);
        gives(GREATEST + "+1=" + SMALLEST, 1);
        gives(SMALLEST + "-1", 99);
        gives(SMALLEST + "-1=" + GREATEST, 1);
        gives("0-" + SMALLEST + "=" + SMALLEST, 1);
        gives(SMALLEST + "*(0-1)=" + SMALLEST, 1);
        gives(SMALLEST + "/(0-1)=" + SMALLEST, 1);
        gives(SMALLEST + "*2", 0);
        gives(GREATEST + "*2", -2);
        gives(GREATEST + "*" + GREATEST, 1);
        // 99980001 * 21 is within ints, 22 times it is not
        gives("9999*9999*21>0", 1);
        gives("9999*9999*22<0", 1);
    }

    // "/ cuts towards 0"
    private static void divisionCutsTowardsZero() {
        gives("7/2", 3);
        gives("(0-7)/2", -3);
        gives("7/(0-2)", -3);
        gives("(0-7)/(0-2)", 3);
        gives("1/2", 0);
        gives("(0-1)/2", 0);
        gives("8/2", 4);
        gives("(0-8)/2", -4);
        gives("c/3", -2);
    }

    // "/ is 0 by 0"
    private static void divisionByZero() {
        gives("7/0", 0);
        gives("0/0", 0);
        gives("c/0+1", 1);
        gives("7/(i-3)", 0);
        gives("7/(i-2)", 7);
        gives(SMALLEST + "/0", 0);
        gives("0/7", 0);
    }

    // "tests, & | ! give 1 or 0 (what is not 0 is true ..)"
    private static void testsGiveOneOrZero() {
        int[][] due = {{1, 0, 0}, {0, 1, 0}, {0, 0, 1}};
        String[] pairs = {"i%4", "i%3", "i%2"};
        String[] signs = {"<", "=", ">"};
        for (int pair = 0; pair < 3; pair++) {
            for (int sign = 0; sign < 3; sign++) {
                gives(pairs[pair].replace("%", signs[sign]), due[pair][sign]);
            }
        }
        // what is far apart, too
        gives(SMALLEST + "<" + GREATEST, 1);
        gives(GREATEST + "<" + SMALLEST, 0);
        gives(GREATEST + ">" + SMALLEST, 1);
        gives("0>" + SMALLEST, 1);
        String[] values = {"0", "1", "2", "c", SMALLEST};
        for (int one = 0; one < values.length; one++) {
            gives("!" + values[one], one == 0 ? 1 : 0);
            gives("!!" + values[one], one == 0 ? 0 : 1);
            for (int other = 0; other < values.length; other++) {
                gives(values[one] + "&" + values[other], one > 0 && other > 0 ? 1 : 0);
                gives(values[one] + "|" + values[other], one > 0 || other > 0 ? 1 : 0);
            }
        }
        gives("!" + "!".repeat(7) + "5", 1);
        gives("!" + "!".repeat(6) + "5", 0);
    }

    // "E, the loosest first"
    private static void theLoosestFirst() {
        gives("1|1&0", 1);
        gives("0&1|1", 1);
        gives("2&3=3", 1);
        gives("3=3&2", 1);
        gives("1+2=3", 1);
        gives("3=1+2", 1);
        gives("2<1+2", 1);
        gives("2+3*4", 14);
        gives("2*3+4", 10);
        gives("20-8/2", 16);
        gives("!0*5", 5);
        gives("!1+5", 5);
        gives("10-3-2", 5);
        gives("10-3+2", 9);
        gives("60/6/2", 5);
        gives("60/6*2", 20);
        gives("7*3/2", 10);
        gives("7/2*3", 9);
        gives("10-(3-2)", 9);
        gives("60/(6/2)", 20);
    }

    private static void namesAtTheirEnds() {
        Run run = new Run().draws(0, 0, 0, 99, 4, -99).tells(0, "term c");
        run.asks(99, "term", 0, 0, 1).asks(-99, "term", 0, 4, 1);
        run.tells(1, "term 10*i+j").asks(0, "term", 0, 0, 1).asks(4, "term", 0, 4, 1).asks(40, "term", 0, 40, 1).asks(22, "term", 0, 22, 1);
        // of slope t -5 .. 5, m 1 .. 4; of mark x, y -5 .. 5, m 1 .. 17
        new Run().draws(0, 0, 2, 1, 20, -25).tells(0, "slope t=0-5").asks(1, "slopes", 0, 505).tells(1, "slope t=5").asks(1 << 10, "slopes", 0, 505)
            .tells(2, "slope m=2").asks(1 | 1 << 10, "slopes", 0, 505).tells(3, "slope m=3").asks(0, "slopes", 0, 505);
        new Run().draws(0, 0, 4, 1).tells(0, "slope m=4").asks(32, "slopes", 0, 505).tells(1, "slope m=3|m=5").asks(0, "slopes", 0, 505);
        new Run().draws(0, 0).tells(0, "mark x=0-5&y=5").asks(1, "all", 0, 2).tells(1, "mark x=5&y=0-5").asks(1, "all", 0, 2)
            .tells(2, "mark x=6|y=6|0-6=x|0-6=y").asks(0, "all", 0, 2).tells(3, "mark m=17").asks(121, "all", 0, 2)
            .tells(4, "mark x").asks(0, "all", 0, 2).tells(5, "mark (x=5)*y+(x=2)").asks(11, "all", 0, 2);
    }
}
