/** A new bench, type(), clearText() and fault(): promises 1 to 4, and how a text is read. */
final class TextEdges extends Edges {
    private static final String NEW = "Promise 1: A new object";
    private static final String TYPE = "Promise 2: type";
    private static final String CLEAR = "Promise 3: clearText";
    private static final String FAULT = "Promise 4: fault";
    private static final String TEXT = "Text";
    private static final String FAULT_OF_TEXT = "The fault of a text is the index, from 0, of the"
            + " first byte that cannot stand at its place (for a number whose one or two digits are"
            + " out of its range the first of them, whatever follows";

    private void faultOf(String text, int want) {
        due("the fault of '" + text + "'", withText(text).fault(), want);
    }

    private void faults(int want, String... texts) {
        for (String text : texts) {
            faultOf(text, want);
        }
    }

    void newBenchHasThreeGlasses() {
        says(NEW, "Creates a bench with three glasses of 3, 5 and 8 units, with an empty text.");
        SandBench bench = new SandBench();
        due("count(0)", bench.count(0), 3);
        glasses(bench, 0, 3, 5, 8, BAD);
    }

    void newBenchHasAnEmptyText() {
        says(NEW, "with an empty text");
        SandBench bench = new SandBench();
        due("count(9)", bench.count(9), 0);
        due("fault()", bench.fault(), NONE);
        due("run()", bench.run(), 0);
        due("clearText()", bench.clearText(), 0);
    }

    void newBenchHasNothingBehindIt() {
        says("Glasses", "Time is an integer, 0 at first");
        SandBench bench = new SandBench();
        int[] counts = {3, 3, 0, NONE, 0, 0, 0, 0, 0, 0};
        for (int what = 0; what < counts.length; what++) {
            due("count(" + what + ")", bench.count(what), counts[what]);
        }
        due("event(0, 0)", bench.event(0, 0), NONE);
        refused(bench, STATE, "undo()", bench::undo);
    }

    void newBenchIsApartFromOthers() {
        says(NEW, "Creates a bench");
        SandBench used = withText("t1;");
        used.setAmount(0, 9);
        used.run();
        used.mark();
        SandBench bench = new SandBench();
        due("the digest of another new bench", bench.digest(), new SandBench().digest());
        due("glass(0, 0)", bench.glass(0, 0), 3);
        due("count(9)", bench.count(9), 0);
        due("glass(0, 0) of the one before", used.glass(0, 0), 9);
    }

    void typeTooSmallOrTooLarge() {
        says(TYPE, "the byte, 0 to 127");
        SandBench bench = new SandBench();
        for (int letter : new int[] {-1, 128, 255, 256, -128, LEAST_INT, GREATEST_INT}) {
            refused(bench, BAD, "type(" + letter + ")", () -> bench.type(letter));
        }
        due("type(0)", bench.type(0), 1);
        due("type(127)", bench.type(127), 2);
    }

    void typeKeepsEveryByte() {
        says(TYPE, "Appends a byte to the text.");
        long none = withText("\0").digest();
        for (int letter = 1; letter <= 127; letter++) {
            SandBench bench = new SandBench();
            due("type(" + letter + ")", bench.type(letter), 1);
            // The byte is the last of the digest's numbers; the costs and counts are the same.
            due("the digest with " + letter, bench.digest(), none + letter);
        }
    }

    void typeIntoAFullText() {
        says(TYPE, "Returns the length of the text; BAD; FULL if the text has 60 bytes.");
        SandBench bench = new SandBench();
        for (int length = 1; length <= 60; length++) {
            due("type to " + length, bench.type('e'), length);
        }
        refused(bench, FULL, "type of a byte more", () -> bench.type('e'));
        refused(bench, FULL, "type of the least byte", () -> bench.type(0));
        refused(bench, FULL, "type of the greatest byte", () -> bench.type(127));
    }

    void typeOfABadByteIntoAFullText() {
        says(TYPE, "BAD; FULL");
        SandBench bench = withText("e".repeat(60));
        refused(bench, BAD, "type(128)", () -> bench.type(128));
        refused(bench, BAD, "type(-1)", () -> bench.type(-1));
    }

    void typeIntoATextThatWasFull() {
        says(TEXT, "There is a text of at most 60 bytes, which is read as a script:");
        SandBench bench = withText("e".repeat(60));
        due("clearText()", bench.clearText(), 60);
        for (int length = 1; length <= 60; length++) {
            due("type to " + length, bench.type('t'), length);
        }
        due("type of a byte more", bench.type('t'), FULL);
        due("fault()", bench.fault(), 1);
    }

    void clearEmptyAndFullTexts() {
        says(CLEAR, "Returns the length that it had.");
        SandBench bench = new SandBench();
        due("clearText() of an empty text", bench.clearText(), 0);
        retype(bench, "x");
        due("clearText() of a byte", bench.clearText(), 1);
        retype(bench, " ".repeat(60));
        due("clearText() of a full text", bench.clearText(), 60);
        due("count(9)", bench.count(9), 0);
        due("clearText() again", bench.clearText(), 0);
    }

    void clearedTextHasNoFault() {
        says(CLEAR, "Empties the text.");
        SandBench bench = withText("x");
        due("fault()", bench.fault(), 0);
        bench.clearText();
        due("fault() of the empty text", bench.fault(), NONE);
        due("the digest", bench.digest(), new SandBench().digest());
    }

    void noFault() {
        says(FAULT, "Returns the index; NONE if there is no fault.");
        faults(NONE, "", "t0;", "t2;", "k0;k2;", "w1;", "w99;", "e;", "1();", "20(e;);", "e;e;e;");
    }

    void faultAtBothEnds() {
        says(FAULT, "Returns the index");
        faultOf("x" + "e;".repeat(29), 0);
        faultOf("e;".repeat(29) + "e", 59);
        faultOf("e;".repeat(29) + "e;", NONE);
        faultOf("e;".repeat(29) + " x", 59);
        faultOf("e;".repeat(29) + " e", 60);
        faultOf(" ".repeat(60), NONE);
        faultOf("20(20(t0;);".concat("e;".repeat(24)) + ")", 60);
    }

    void faultChangesNothing() {
        says("Changes", "Changes are the calls of the methods in the section \"changes\"");
        SandBench bench = withText("t0");
        long was = bench.digest();
        due("fault()", bench.fault(), 2);
        due("fault() again", bench.fault(), 2);
        due("the digest", bench.digest(), was);
        due("type()", bench.type(';'), 3);
        due("fault() of what was typed on", bench.fault(), NONE);
    }

    void firstByte() {
        says(TEXT, FAULT_OF_TEXT);
        for (int letter = 0; letter <= 127; letter++) {
            int want = 0;
            if (letter == ' ') {
                want = NONE;
            } else if ("tkwe123456789".indexOf(letter) >= 0) {
                // It can stand: the text ends too early.
                want = 1;
            }
            faultOf("" + (char) letter, want);
        }
    }

    void byteBehindAStep() {
        says(TEXT, "script = { step \";\" }");
        for (int letter = 0; letter <= 127; letter++) {
            int want = letter == ';' ? NONE : letter == ' ' ? 3 : 2;
            faultOf("t0" + (char) letter, want);
            faultOf("e " + (char) letter, want);
            faultOf("w7" + (char) letter, letter >= '0' && letter <= '9' ? 3 : want);
        }
    }

    void textEndsTooEarly() {
        says(TEXT, "for a third level its parenthesis), or the length of the text if it ends too"
                + " early.");
        for (String text : new String[] {"t2;", "k0;", "w1;", "w12;", "e;", "20(t0;w12;2(e;););"}) {
            for (int length = 1; length < text.length(); length++) {
                faultOf(text.substring(0, length), length);
                faultOf(text.substring(0, length) + "  ", length + 2);
            }
            faultOf(text, NONE);
        }
    }

    void thirdLevel() {
        says(TEXT, "for a third level its parenthesis");
        faults(5, "1(1(1(", "1(1(1(e;););););", "1(1(1(x", "2(2(2()");
        faultOf("1(1(20(e;););););", 6);
        faultOf("1(1(1 (", 6);
        faultOf("1(e;1(e;1(", 9);
        faultOf("1(1(e;);1(1(", 11);
    }

    void twoLevels() {
        says(TEXT, "Parentheses can stand within parentheses, but there are at most two levels.");
        faults(NONE, "1(1(e;););", "1(1(e;);1(e;););", "1(1(););1(1(););", "1(e;1(););1();");
    }

    void wrongThirdLevel() {
        says(TEXT, "the first byte that cannot stand at its place");
        faultOf("1(1(0(", 4);
        faultOf("1(1(21(", 4);
        faultOf("1(1(111(", 6);
        faultOf("1(1(1;", 5);
        faultOf("1(1(1", 5);
        faultOf("1(1(1 ", 6);
    }

    void secondsTooSmallOrTooLarge() {
        says(TEXT, "\"t\" turns the stack of a glass, \"k\" taps it, \"w\" lets so many seconds"
                + " pass, 1 to 99;");
        faults(1, "w0;", "w00;");
        faults(NONE, "w1;", "w01;", "w9;", "w09;", "w10;", "w99;");
        faultOf("w100;", 3);
        faultOf("w-1;", 1);
    }

    void repeatsTooSmallOrTooLarge() {
        says(TEXT, "a number ahead of parentheses, 1 to 20, says how often what stands in them is"
                + " done.");
        faults(0, "0(e;);", "00(e;);", "21(e;);", "30(e;);", "99(e;);");
        faults(NONE, "1(e;);", "01(e;);", "9(e;);", "10(e;);", "20(e;);");
        faultOf("100(e;);", 2);
        faultOf("(e;);", 0);
    }

    void numberOutOfItsRangeWhateverFollows() {
        says(TEXT, "for a number whose one or two digits are out of its range the first of them,"
                + " whatever follows");
        faults(1, "w0", "w0 ", "w0x", "w00", "w000", "w00x", "w001;", "w0(", "w0 0");
        faults(2, "w 0", "w 00");
        faults(0, "0", "00", "000", "21", "21x", "211", "21;", "21 (", "99", "00(", "990(");
        faultOf("1(e;0", 4);
        faultOf("1(e;21x", 4);
    }

    void digitsOfNumbers() {
        says(TEXT, "Numbers have one or two digits, as many as there are; zeros in front can stand,"
                + " a third digit cannot.");
        faults(NONE, "w5;", "w05;", "w50;", "2(e;);", "02(e;);", "12(e;);");
        faultOf("w005;", 1);
        faultOf("w050;", 3);
        faultOf("w123", 3);
        faultOf("123", 2);
        faultOf("020(e;);", 2);
        faultOf("w;", 1);
        faultOf("w1 2;", 3);
        faultOf("1 2(e;);", 2);
    }

    void glassThatThereIs() {
        says(TEXT, "A glass is a digit, the number of a glass that there is.");
        for (int count = 1; count <= 3; count++) {
            SandBench bench = new SandBench();
            bench.setGlasses(count);
            for (int letter = 0; letter <= 127; letter++) {
                retype(bench, "t" + (char) letter + ";");
                boolean stands = letter >= '0' && letter < '0' + count;
                int want = letter == ' ' ? 2 : stands ? NONE : 1;
                due("the fault of t, then " + letter, bench.fault(), want);
                retype(bench, "k" + (char) letter + ";");
                due("the fault of k, then " + letter, bench.fault(), want);
            }
        }
    }

    void glassOfOneDigit() {
        says(TEXT, "A glass is a digit");
        faultOf("t00;", 2);
        faultOf("t01", 2);
        faultOf("t 0 0;", 4);
        faultOf("k20", 2);
    }

    void glassThatIsNoMore() {
        says(FAULT, "Returns the fault of the text.");
        SandBench bench = withText("t0;k2;");
        due("fault() of three glasses", bench.fault(), NONE);
        bench.setGlasses(2);
        due("fault() of two glasses", bench.fault(), 4);
        bench.undo();
        due("fault() of three glasses again", bench.fault(), NONE);
    }

    void blanks() {
        says(TEXT, "Blanks (byte 32) can stand before and after letters, numbers and signs.");
        faultOf("  t  2  ;  k  0  ;  w  12  ;  e  ;  2  (  1  (  )  ;  )  ;  ", NONE);
        faults(NONE, " ", " t0;", "t 0;", "t0 ;", "t0; ", "w 1;", "w1 ;", "1 ();", "1( );", "1() ;");
        for (int letter : new int[] {0, 9, 10, 11, 12, 13, 31, 33, 95, 127}) {
            faultOf((char) letter + "t0;", 0);
            faultOf("t" + (char) letter + "0;", 1);
            faultOf("t0" + (char) letter + ";", 2);
            faultOf("t0;" + (char) letter, 3);
            faultOf("w1" + (char) letter + ";", 2);
            faultOf("1(" + (char) letter + ");", 2);
        }
    }

    void emptyScripts() {
        says(TEXT, "\"w\" number | \"e\" | number \"(\" { step \";\" } \")\"");
        faults(NONE, "", " ", "1();", "20(20();20(););");
        faults(0, ";", "()", "();", ")", "(");
        faultOf("1();;", 4);
        faultOf("1(;);", 2);
        faultOf("1());", 3);
        faultOf("e;)", 2);
    }

    void parenthesesThatDoNotMatch() {
        says(TEXT, FAULT_OF_TEXT);
        faultOf("1(e)", 3);
        faultOf("1(e;", 4);
        faultOf("1(e;;", 4);
        faultOf("1(e;)e;", 5);
        faultOf("1(1(e;)", 7);
        faultOf("1(1(e;);", 8);
        faultOf("1(1(e;);)", 9);
        faultOf("1(1(e;););)", 10);
        faultOf("1e;", 1);
        faultOf("1[e;];", 1);
    }

    void lettersThatAreNoSteps() {
        says(TEXT, "step = \"t\" glass | \"k\" glass");
        faults(0, "T0;", "K0;", "W1;", "E;", "s0;", "u0;");
        faults(1, "tt0;", "ke;", "we;", "ee;", "t;", "k;", "e0;", "e1;");
        faultOf("t0k0;", 2);
        faultOf("e,e;", 1);
    }
}
