/** The sentences on the graph text, and those of the promises 2 to 6. */
final class TextSentences {
    private static final int INVALID = EdgeCounterPlacer.INVALID_ARGUMENT;
    private static final int NOT_POSSIBLE = EdgeCounterPlacer.NOT_POSSIBLE;
    private static final int CAPACITY_EXCEEDED = EdgeCounterPlacer.CAPACITY_EXCEEDED;
    private static final int NOT_FOUND = EdgeCounterPlacer.NOT_FOUND;
    private static final int KIND = EdgeCounterPlacer.REASON_KIND;
    private static final int NUMBER = EdgeCounterPlacer.REASON_NUMBER;
    private static final int RANGE = EdgeCounterPlacer.REASON_RANGE;
    private static final int REPEATED = EdgeCounterPlacer.REASON_REPEATED;
    private static final int FULL = EdgeCounterPlacer.REASON_FULL;

    /** 20 edges by 139 characters; block 0 is stated to abort, block 1 is not. */
    private static final String FULL_GRAPH = "b4;" + "e0,1,1;".repeat(17) + "a0;e1,2,1;e2,3,1;";
    private static final int FULL_LENGTH = 139;
    /** 16 edges by 199 characters. */
    private static final String LONG_TEXT = "b3;" + "e000,001,001;".repeat(14) + "e0,1,1;e1,2,1;";
    private static final int LONG_LENGTH = 199;

    private final Sentences s;

    TextSentences(Sentences s) {
        this.s = s;
    }

    void look() {
        s.part("Graph text");
        s.equal("length of the full graph's text", FULL_GRAPH.length(), FULL_LENGTH);
        s.equal("length of the long text", LONG_TEXT.length(), LONG_LENGTH);
        form();
        kindsOfStatements();
        orderOfReasons();
        reasonKind();
        reasonNumber();
        reasonRange();
        reasonRepeatedAndFull();
        endOfChecking();
        s.part("Promise 2");
        append();
        s.part("Promise 3");
        clearText();
        s.part("Promise 4");
        firstError();
        s.part("Promise 5");
        errorReason();
        s.part("Promise 6");
        configure();
    }

    // ---- Graph text

    private void form() {
        s.test("The graph text has at most 200 characters.", () -> {
            EdgeCounterPlacer x = new EdgeCounterPlacer();
            Texts.put(x, LONG_TEXT.replace("b3;", "b03;"));
            s.equal("configure() by 200 characters", x.configure(), 16);
            s.equal("append the 201st", x.append(';'), CAPACITY_EXCEEDED);
            s.equal("configure() by the same 200", x.configure(), 16);
            s.equal("clearText()", x.clearText(), 200);
        });
        s.test("It is a sequence of statements without blanks.", () -> {
            s.wellFormed("b3;e0,1,5;a0;");
            s.malformed(" b3;e0,1,5;a0;", 0, KIND);
            s.malformed("b 3;e0,1,5;a0;", 0, NUMBER);
            s.malformed("b3 ;e0,1,5;a0;", 0, NUMBER);
            s.malformed("b3; e0,1,5;a0;", 3, KIND);
            s.malformed("b3;e 0,1,5;a0;", 3, NUMBER);
            s.malformed("b3;e0 ,1,5;a0;", 3, NUMBER);
            s.malformed("b3;e0, 1,5;a0;", 3, NUMBER);
            s.malformed("b3;e0,1,5 ;a0;", 3, NUMBER);
            s.malformed("b3;e0,1,5; a0;", 10, KIND);
            s.malformed("b3;e0,1,5;a 0;", 10, NUMBER);
            s.malformed("b3;e0,1,5;a0 ;", 10, NUMBER);
            s.malformed("b3;e0,1,5;a0; ", 13, KIND);
            s.malformed("b3;a10 ;", 3, NUMBER);
            s.malformed("b3;a100 ;", 3, NUMBER);
        });
        s.test("A statement is a lower case letter, its numbers separated by commas, and a semicolon.", () -> {
            s.malformed("B3;", 0, KIND);
            s.malformed("b3;E0,1,5;", 3, KIND);
            s.malformed("b3;A0;", 3, KIND);
            s.malformed("b3;e0;1,5;", 3, NUMBER);
            s.malformed("b3;e0,1;5;", 3, NUMBER);
            s.malformed("b3;e0,1,5,", 3, NUMBER);
            s.malformed("b3;e,0,1,5;", 3, NUMBER);
            s.malformed("b3;e0,1,5,;", 3, NUMBER);
            s.malformed("b3,", 0, NUMBER);
            s.malformed("b3;a0,", 3, NUMBER);
        });
        s.test("A number has one to three decimal digits; leading zeros are allowed.", () -> {
            s.wellFormed("b3;e0,1,0;");
            s.wellFormed("b03;e00,01,00;a00;");
            s.wellFormed("b003;e000,001,000;a001;");
            s.wellFormed("b010;e008,009,999;a008;");
            s.malformed("b;", 0, NUMBER);
            s.malformed("b0003;", 0, NUMBER);
            s.malformed("b3;e0000,1,5;", 3, NUMBER);
            s.malformed("b3;e0,0001,5;", 3, NUMBER);
            s.malformed("b3;e0,1,0005;", 3, NUMBER);
            s.malformed("b3;a0000;", 3, NUMBER);
            // The signs before 0 and behind 9 are no digits, nor is a letter.
            s.malformed("b3;e0,1,/;", 3, NUMBER);
            s.malformed("b3;e0,1,:;", 3, NUMBER);
            s.malformed("b3;e0,1,-1;", 3, NUMBER);
            s.malformed("b3;e0,1,+1;", 3, NUMBER);
            s.malformed("b3;e0,1,1a;", 3, NUMBER);
            EdgeCounterPlacer x = Texts.configured("b03;e000,001,099;e01,2,908;e1,002,080;");
            int[] weights = {99, 908, 80};
            for (int edge = 0; edge < 3; edge++) {
                s.equal("weightOf(" + edge + ")", x.weightOf(edge), weights[edge]);
                s.equal("targetOf(" + edge + ")", x.targetOf(edge), edge == 0 ? 1 : 2);
            }
        });
    }

    private void kindsOfStatements() {
        s.test("bN; the graph has N blocks (2 to 10); exactly one b statement, which is the first statement", () -> {
            for (int blocks = 0; blocks <= 12; blocks++) {
                if (blocks >= 2 && blocks <= 10) {
                    s.wellFormed("b" + blocks + ";");
                } else {
                    s.malformed("b" + blocks + ";", 0, RANGE);
                }
            }
            s.malformed("e0,1,5;b3;", 0, KIND);
            s.malformed("b3;b3;", 3, KIND);
            s.malformed("b3;e0,1,5;b3;", 10, KIND);
            s.equal("blockCount()", Texts.configured("b2;a0;").blockCount(), 2);
            s.equal("blockCount()", Texts.configured("b10;e0,9,1;a1;a2;a3;a4;a5;a6;a7;a8;").blockCount(), 10);
        });
        s.test("eF,T,W; an ordinary edge from block F to block T with weight W", () -> {
            EdgeCounterPlacer x = Texts.configured("b10;e0,9,999;e1,8,0;e8,1,1;a2;a3;a4;a5;a6;a7;e1,9,100;");
            int[][] stated = {{0, 9, 999}, {1, 8, 0}, {8, 1, 1}};
            for (int edge = 0; edge < 3; edge++) {
                s.equal("sourceOf(" + edge + ")", x.sourceOf(edge), stated[edge][0]);
                s.equal("targetOf(" + edge + ")", x.targetOf(edge), stated[edge][1]);
                s.equal("weightOf(" + edge + ")", x.weightOf(edge), stated[edge][2]);
            }
        });
        s.test("aB; block B may abort; at most once for each block", () -> {
            for (int block = 0; block < 9; block++) {
                s.wellFormed("b10;a" + block + ";");
                s.malformed("b10;a" + block + ";a" + block + ";", 7, REPEATED);
            }
            s.wellFormed("b10;a0;a1;a2;a3;a4;a5;a6;a7;a8;");
            s.malformed("b10;a0;a1;a2;a3;a4;a5;a6;a7;a8;a0;", 31, REPEATED);
            s.malformed("b10;a0;a1;a2;a3;a4;a5;a6;a7;a8;a008;", 31, REPEATED);
        });
    }

    private void orderOfReasons() {
        s.test("The errors of a statement are checked in this order, and the first one that applies is the reason of the "
            + "statement (so all numbers of the statement and its semicolon are read before a range is checked):", () -> {
            s.malformed("c99", 0, KIND);
            s.malformed("b3;b99", 3, KIND);
            s.malformed("a9", 0, KIND);
            s.malformed("b11", 0, NUMBER);
            s.malformed("b11,3;", 0, NUMBER);
            s.malformed("b0000;", 0, NUMBER);
            s.malformed("b3;e9,1,5", 3, NUMBER);
            s.malformed("b3;e9,", 3, NUMBER);
            s.malformed("b3;e1,1;", 3, NUMBER);
            s.malformed("b3;e0,0,1000;", 3, NUMBER);
            s.malformed("b3;e2,9,", 3, NUMBER);
            s.malformed("b3;a2", 3, NUMBER);
            s.malformed("b3;a2,", 3, NUMBER);
            s.malformed("b3;a0;a0", 6, NUMBER);
            s.malformed(FULL_GRAPH + "e0,1,1", FULL_LENGTH, NUMBER);
            s.malformed(FULL_GRAPH + "e0,0,1;", FULL_LENGTH, RANGE);
            s.malformed(FULL_GRAPH + "e3,1,1;", FULL_LENGTH, RANGE);
            s.malformed(FULL_GRAPH + "a3;", FULL_LENGTH, RANGE);
            s.malformed(FULL_GRAPH + "a4;", FULL_LENGTH, RANGE);
            s.malformed(FULL_GRAPH + "a0;", FULL_LENGTH, REPEATED);
            s.malformed(FULL_GRAPH + "a0", FULL_LENGTH, NUMBER);
            s.malformed(FULL_GRAPH + "b4;", FULL_LENGTH, KIND);
        });
    }

    private void reasonKind() {
        s.test("REASON_KIND the letter is not b, e or a", () -> {
            for (int sign = 32; sign <= 126; sign++) {
                if ("bea".indexOf(sign) < 0) {
                    s.malformed((char) sign + "3;", 0, KIND);
                    s.malformed("b3;" + (char) sign + "0;", 3, KIND);
                }
            }
        });
        s.test(", or a b statement is not the first one", () -> {
            s.malformed("b3;b3;", 3, KIND);
            s.malformed("b3;a0;b3;", 6, KIND);
            s.malformed("b3;e0,1,5;b", 10, KIND);
        });
        s.test(", or the first statement is not a b statement", () -> {
            s.malformed("a0;", 0, KIND);
            s.malformed("e0,1,5;", 0, KIND);
            s.malformed("a0;b3;", 0, KIND);
        });
    }

    private void reasonNumber() {
        s.test("REASON_NUMBER a number is missing", () -> {
            s.malformed("b;", 0, NUMBER);
            s.malformed("b", 0, NUMBER);
            s.malformed("b3;a;", 3, NUMBER);
            s.malformed("b3;a", 3, NUMBER);
            s.malformed("b3;e,1,5;", 3, NUMBER);
            s.malformed("b3;e0,,5;", 3, NUMBER);
            s.malformed("b3;e0,1,;", 3, NUMBER);
            s.malformed("b3;e0,1,", 3, NUMBER);
            s.malformed("b3;e0,1;", 3, NUMBER);
            s.malformed("b3;e;", 3, NUMBER);
            s.malformed("b3;e", 3, NUMBER);
        });
        s.test("or has more than three digits", () -> {
            s.wellFormed("b003;e000,001,005;a000;");
            s.malformed("b0003;", 0, NUMBER);
            s.malformed("b3;e0000,1,5;", 3, NUMBER);
            s.malformed("b3;e0,0001,5;", 3, NUMBER);
            s.malformed("b3;e0,1,1000;", 3, NUMBER);
            s.malformed("b3;a0000;", 3, NUMBER);
            s.malformed("b3;e0,1,12345678901234567890;", 3, NUMBER);
        });
        s.test(", a comma or the semicolon is missing", () -> {
            s.malformed("b3", 0, NUMBER);
            s.malformed("b003", 0, NUMBER);
            s.malformed("b3e0,1,5;", 0, NUMBER);
            s.malformed("b3;e0", 3, NUMBER);
            s.malformed("b3;e0,1", 3, NUMBER);
            s.malformed("b3;e0,1,5", 3, NUMBER);
            s.malformed("b3;e0.1,5;", 3, NUMBER);
            s.malformed("b3;e0,1.5;", 3, NUMBER);
            s.malformed("b3;e0,1,5,", 3, NUMBER);
            s.malformed("b3;e0,1,5,5;", 3, NUMBER);
            s.malformed("b3;a0", 3, NUMBER);
            s.malformed("b3;a0:", 3, NUMBER);
            // A statement that was read to its end before must not lend its semicolon to a shorter text.
            EdgeCounterPlacer x = new EdgeCounterPlacer();
            Texts.put(x, "b3;");
            s.equal("firstError() of b3;", x.firstError(), NOT_FOUND);
            Texts.put(x, "b3");
            s.equal("firstError() of b3", x.firstError(), 0);
        });
    }

    private void reasonRange() {
        s.test("REASON_RANGE a block or the number of blocks is out of its range", () -> {
            s.malformed("b0;", 0, RANGE);
            s.malformed("b1;", 0, RANGE);
            s.malformed("b11;", 0, RANGE);
            s.malformed("b999;", 0, RANGE);
            s.wellFormed("b2;e0,1,1;");
            s.malformed("b2;e2,1,1;", 3, RANGE);
            s.malformed("b2;e0,2,1;", 3, RANGE);
            s.malformed("b2;a2;", 3, RANGE);
            s.wellFormed("b10;e8,9,1;a8;");
            s.malformed("b10;e10,9,1;", 4, RANGE);
            s.malformed("b10;e8,10,1;", 4, RANGE);
            s.malformed("b10;a10;", 4, RANGE);
            s.malformed("b10;e999,9,1;", 4, RANGE);
            s.malformed("b10;e8,999,1;", 4, RANGE);
            s.malformed("b10;a999;", 4, RANGE);
            s.malformed("b10;a32;", 4, RANGE);
        });
        s.test(", or F equals T", () -> {
            for (int block = 0; block < 10; block++) {
                s.malformed("b10;e" + block + "," + block + ",1;", 4, RANGE);
            }
            s.malformed("b3;e1,001,1;", 3, RANGE);
        });
        s.test(", or T is the entry", () -> {
            s.malformed("b3;e1,0,1;", 3, RANGE);
            s.malformed("b3;e1,000,1;", 3, RANGE);
            s.wellFormed("b3;e0,1,1;");
        });
        s.test(", or F or B is the exit", () -> {
            s.malformed("b3;e2,1,1;", 3, RANGE);
            s.malformed("b3;a2;", 3, RANGE);
            s.wellFormed("b4;e2,1,1;a2;");
            s.malformed("b10;e9,1,1;", 4, RANGE);
            s.malformed("b10;a9;", 4, RANGE);
        });
    }

    private void reasonRepeatedAndFull() {
        s.test("REASON_REPEATED the block is already stated to abort", () -> {
            s.malformed("b3;a0;a0;", 6, REPEATED);
            s.malformed("b3;a1;a0;a1;", 9, REPEATED);
            s.malformed("b3;a1;e1,2,0;a01;", 13, REPEATED);
            s.wellFormed("b3;a1;a0;");
            // An ordinary edge to the exit is no statement that the block may abort.
            s.wellFormed("b3;e1,2,0;a1;e1,2,0;");
            EdgeCounterPlacer x = new EdgeCounterPlacer();
            Texts.put(x, "b3;a0;a1;");
            s.equal("firstError()", x.firstError(), NOT_FOUND);
            s.equal("firstError() of the same statements again", x.firstError(), NOT_FOUND);
        });
        s.test("REASON_FULL the graph already has 20 edges", () -> {
            s.wellFormed(FULL_GRAPH);
            s.malformed(FULL_GRAPH + "e0,1,1;", FULL_LENGTH, FULL);
            s.malformed(FULL_GRAPH + "a1;", FULL_LENGTH, FULL);
            s.malformed("b3;" + "e0,1,1;".repeat(20) + "a0;", 143, FULL);
            s.malformed("b3;a0;a1;" + "e0,1,1;".repeat(19), 135, FULL);
            s.wellFormed("b3;a0;a1;" + "e0,1,1;".repeat(18));
        });
    }

    private void endOfChecking() {
        s.test("The weight of an e statement cannot be out of its range.", () -> {
            s.wellFormed("b3;e0,1,0;e0,1,000;e0,1,1;e0,1,998;e0,1,999;");
        });
        s.test("Checking ends with the first statement that has an error.", () -> {
            s.malformed("b3;a0;a0;x", 6, REPEATED);
            s.malformed("b3;e0,9,1;x;", 3, RANGE);
            s.malformed("b1;b3;", 0, RANGE);
            s.malformed("x;b3;e9,9,9;", 0, KIND);
            s.malformed("b3;e0,1,5;e0,1;e1,1,1;", 10, NUMBER);
        });
    }

    // ---- Promises 2 to 6

    private void append() {
        s.test("Appends a character to the graph text.", () -> {
            EdgeCounterPlacer x = new EdgeCounterPlacer();
            String text = "b2;a0;";
            for (int i = 0; i < text.length(); i++) {
                s.equal("append(" + (int) text.charAt(i) + ")", x.append(text.charAt(i)), i + 1);
            }
            s.equal("configure()", x.configure(), 1);
            s.equal("append behind the text", x.append('a'), 7);
            s.equal("firstError()", x.firstError(), 6);
        });
        s.test("an ASCII code from 32 to 126", () -> {
            EdgeCounterPlacer x = new EdgeCounterPlacer();
            s.equal("append(31)", x.append(31), INVALID);
            s.equal("append(32)", x.append(32), 1);
            s.equal("append(126)", x.append(126), 2);
            s.equal("append(127)", x.append(127), INVALID);
            s.equal("clearText()", x.clearText(), 2);
        });
        s.test("Returns the new length of the text;", () -> {
            EdgeCounterPlacer x = new EdgeCounterPlacer();
            for (int length = 1; length <= 200; length++) {
                s.equal("append to " + length, x.append(32 + length % 95), length);
            }
            s.equal("clearText()", x.clearText(), 200);
            s.equal("append to an emptied text", x.append(32), 1);
        });
        s.test("INVALID_ARGUMENT if character is out of range;", () -> {
            EdgeCounterPlacer x = new EdgeCounterPlacer();
            int[] outside = {0, 10, 31, 127, 128, 255, 256 + 98, 65536 + 98, -1, -98, Integer.MIN_VALUE, Integer.MAX_VALUE};
            for (int character : outside) {
                s.equal("append(" + character + ")", x.append(character), INVALID);
            }
            s.equal("clearText()", x.clearText(), 0);
        });
        s.test("CAPACITY_EXCEEDED if the text already has 200 characters.", () -> {
            EdgeCounterPlacer x = new EdgeCounterPlacer();
            Texts.put(x, LONG_TEXT);
            s.equal("append the 200th", x.append('b'), 200);
            s.equal("append the 201st", x.append('b'), CAPACITY_EXCEEDED);
            s.equal("append the 201st again", x.append(126), CAPACITY_EXCEEDED);
            s.equal("firstError()", x.firstError(), 199);
            s.equal("clearText()", x.clearText(), 200);
            s.equal("append to the emptied text", x.append('b'), 1);
        });
    }

    private void clearText() {
        s.test("Makes the graph text empty.", () -> {
            EdgeCounterPlacer x = new EdgeCounterPlacer();
            Texts.put(x, "x");
            s.equal("firstError()", x.firstError(), 0);
            x.clearText();
            s.equal("firstError() of nothing", x.firstError(), NOT_FOUND);
            s.equal("configure() by nothing", x.configure(), NOT_POSSIBLE);
            s.equal("append", x.append('b'), 1);
        });
        s.test("Returns the length it had.", () -> {
            EdgeCounterPlacer x = new EdgeCounterPlacer();
            s.equal("clearText() of a new object", x.clearText(), 0);
            x.append('b');
            s.equal("clearText() of one character", x.clearText(), 1);
            s.equal("clearText() again", x.clearText(), 0);
            Texts.put(x, LONG_TEXT + "b");
            s.equal("clearText() of a full text", x.clearText(), 200);
        });
    }

    private int firstErrorOf(String text) {
        EdgeCounterPlacer x = new EdgeCounterPlacer();
        Texts.put(x, text);
        return x.firstError();
    }

    private void firstError() {
        s.test("Finds the first malformed statement of the graph text.", () -> {
            s.equal("of two malformed ones", firstErrorOf("b3;a9;a9;"), 3);
            s.equal("where the second alone is malformed", firstErrorOf("b3;a0;a9;"), 6);
        });
        s.test("Returns the index (from 0) of its first character;", () -> {
            s.equal("the first statement", firstErrorOf("b1;"), 0);
            s.equal("an error at the statement's end", firstErrorOf("b3;e0,1,5"), 3);
            s.equal("the last character of a full text", firstErrorOf(LONG_TEXT + "x"), 199);
            s.equal("the last statement of a full text", firstErrorOf(LONG_TEXT.substring(0, 192) + "e1,2,999"), 192);
        });
        s.test("NOT_FOUND if no statement is malformed (an empty text has none).", () -> {
            s.equal("the empty text", new EdgeCounterPlacer().firstError(), NOT_FOUND);
            s.equal("an incomplete graph", firstErrorOf("b3;"), NOT_FOUND);
            s.equal("a long text", firstErrorOf(LONG_TEXT), NOT_FOUND);
            s.equal("a full text", firstErrorOf("b03;" + LONG_TEXT.substring(3)), NOT_FOUND);
            s.equal("a full graph", firstErrorOf(FULL_GRAPH), NOT_FOUND);
        });
    }

    private int reasonOf(String text) {
        EdgeCounterPlacer x = new EdgeCounterPlacer();
        Texts.put(x, text);
        return x.errorReason();
    }

    private void errorReason() {
        s.test("Tells why the first malformed statement is malformed.", () -> {
            s.equal("of two malformed ones", reasonOf("b3;a9;x"), RANGE);
            s.equal("of two malformed ones", reasonOf("b3;x;a9;"), KIND);
        });
        s.test("Returns one of the REASON constants;", () -> {
            s.equal("kind", reasonOf("x"), 1);
            s.equal("number", reasonOf("b"), 2);
            s.equal("range", reasonOf("b1;"), 3);
            s.equal("repeated", reasonOf("b2;a0;a0;"), 4);
            s.equal("full", reasonOf(FULL_GRAPH + "a1;"), 5);
            s.equal("in a full text", reasonOf(LONG_TEXT + "e"), 2);
        });
        s.test("NOT_FOUND if no statement is malformed.", () -> {
            s.equal("the empty text", new EdgeCounterPlacer().errorReason(), NOT_FOUND);
            s.equal("an incomplete graph", reasonOf("b3;"), NOT_FOUND);
            s.equal("a full text", reasonOf("b03;" + LONG_TEXT.substring(3)), NOT_FOUND);
            s.equal("a full graph", reasonOf(FULL_GRAPH), NOT_FOUND);
        });
    }

    private void configure() {
        s.test("Configures the placer by the graph text, which stays as it is.", () -> {
            EdgeCounterPlacer x = Texts.configured("b3;e0,1,7;e0,1,9;e1,2,8;");
            s.equal("blockCount()", x.blockCount(), 3);
            s.chords(x, 0, 2);
            s.equal("weightOf(1)", x.weightOf(1), 9);
            s.equal("clearText()", x.clearText(), 24);
            s.equal("weightOf(1) without the text", x.weightOf(1), 9);
        });
        s.test("The counter limit is 60000; all counts are 0.", () -> {
            EdgeCounterPlacer x = new EdgeCounterPlacer();
            x.setCounterLimit(1);
            x.setWeight(7, 999);
            s.follow(x, 0, 2, 5, 0);
            Texts.put(x, "b6;e0,1,100;e1,2,60;e1,3,40;e2,4,60;e3,4,35;a3;e4,1,90;e4,5,10;");
            s.equal("configure()", x.configure(), 8);
            s.startsAnew(x);
            s.equal("saturatedCount()", x.saturatedCount(), 0);
            s.equal("weightOf(7)", x.weightOf(7), 10);
            s.equal("setCounterLimit(2)", x.setCounterLimit(2), 60000);
        });
        s.test("Returns the number of edges;", () -> {
            s.configures("b2;a0;", 1);
            s.configures("b2;e0,1,5;a0;", 2);
            s.configures(LONG_TEXT, 16);
            s.configures(FULL_GRAPH, 20);
        });
        s.test("NOT_POSSIBLE if a statement is malformed, the text is empty, or the graph is not complete.", () -> {
            s.configures("b2;a0;x", NOT_POSSIBLE);
            s.configures("b2;a0", NOT_POSSIBLE);
            s.configures("b2;a0;a0;", NOT_POSSIBLE);
            s.configures(FULL_GRAPH + "a1;", NOT_POSSIBLE);
            s.configures("", NOT_POSSIBLE);
            s.configures("b2;", NOT_POSSIBLE);
            s.configures("b10;a0;a1;a2;a3;a4;a5;a6;a7;", NOT_POSSIBLE);
            s.configures("b10;a0;a1;a2;a3;a4;a5;a6;a7;a8;", 9);
            s.configures("b4;a0;e1,2,1;e2,1,1;", NOT_POSSIBLE);
        });
    }
}
