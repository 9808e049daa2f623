/**
 * The boundary cases that the document names for arithmetic, conditions, paragraphs, tables, OUTPUT and the end of a run:
 * before each method stands the sentence, and the method tries both sides of its boundary.
 */
public final class BoundaryRunTest extends Bench {
    private static final int OK = LedgerProgram.OK, LONG = LedgerProgram.LONG;
    private static final int RANGE = LedgerProgram.RANGE, DEEP = LedgerProgram.DEEP;

    public static void main(String[] args) {
        cutTowardsZero();
        roundedHalves();
        roundedQuotients();
        roundedToNoDecimalsMore();
        exactResults();
        sizeOfSums();
        sizeOfProductsAndQuotients();
        sizeAfterRounding();
        sizeWithDecimalsAlone();
        sizeOfUnsigned();
        divisionByZero();
        arithmeticWithAnyLiteral();
        sizeComesAndGoes();
        relationsOfValues();
        relationsOfCharacters();
        numericCharacters();
        behindIfs();
        performTimes();
        endOfParagraphs();
        latestPerform();
        goToEndsNoPerform();
        outputKeeps96();
        displayOfLiteral();
        runBeginsAnew();
        steps();
        stepsOfEach();
        rangeOfIndex();
        rangeOfSecondOperand();
        noRangeWithoutOperand();
        whatIndexSays();
        rangeDoesNothing();
        tableOfOne();
        sixPerforms();
        deepDoesNothing();
        varyingIndex();
        indexWholePart();
        indexWrapsAround();
        tallies();
        finish();
    }

    /** Carries out op on y with x, both given with a sign before the digits and a point before the decimals. */
    private static void arith(int op, String y, String x, String want) {
        LedgerProgram p = new LedgerProgram();
        number(p, 0, 0, y);
        number(p, 1, 20, x);
        due("run", runLines(p, op, 1, 0, 0), OK);
        String what = "op " + op + " on " + y + " with " + x;
        boolean size = want.equals("SIZE");
        due(what, stored(p, 0, y.length() - 1), (size ? y : want).replace(".", ""));
        due(what + ", SIZE", p.size(), size);
        due(what + ", x stays", stored(p, 20, x.length() - 1), x.replace(".", ""));
    }

    private static void number(LedgerProgram p, int item, int at, String v) {
        int digits = v.length() - 2;
        int decimals = v.length() - 1 - v.indexOf('.');
        due("number " + v, p.number(item, at, digits, decimals, true, 1), true);
        put(p, at, v.replace(".", ""));
    }

    // Terms: "the exact result is cut towards zero ... to the decimals of y".
    private static void cutTowardsZero() {
        arith(ADD, "+01.", "+.9", "+01.");
        arith(ADD, "+01.", "+.99", "+01.");
        arith(ADD, "-01.", "-.9", "-01.");
        arith(ADD, "-01.", "+.9", "+00.");
        arith(ADD, "+01.", "-.9", "+00.");
        arith(ADD, "+01.", "+1.0", "+02.");
        arith(SUBTRACT, "+01.", "+.1", "+00.");
        arith(SUBTRACT, "-01.", "+.9", "-01.");
        arith(MULTIPLY, "+1.9", "+1.9", "+3.6");
        arith(MULTIPLY, "-1.9", "+1.9", "-3.6");
        arith(MULTIPLY, "-0.9", "+0.1", "+0.0");
        arith(DIVIDE, "+1.9", "+2.0", "+0.9");
        arith(DIVIDE, "-1.9", "+2.", "-0.9");
        arith(DIVIDE, "-1.9", "-2.", "+0.9");
        arith(DIVIDE, "-0.1", "+2.", "+0.0");
        arith(DIVIDE, "+99.", "+99.", "+01.");
        arith(DIVIDE, "+98.", "+99.", "+00.");
        arith(DIVIDE, "-01.", "+01.", "-01.");
        arith(DIVIDE, "-01.", "-01.", "+01.");
        arith(DIVIDE, "+01.", "-01.", "-01.");
        arith(DIVIDE, "-01.", "+02.", "+00.");
    }

    // Terms: "ROUNDED: the nearest, halves away from zero".
    private static void roundedHalves() {
        arith(ADD_R, "+01.", "+.49", "+01.");
        arith(ADD_R, "+01.", "+.50", "+02.");
        arith(ADD_R, "+01.", "+.51", "+02.");
        arith(ADD_R, "-01.", "-.49", "-01.");
        arith(ADD_R, "-01.", "-.50", "-02.");
        arith(ADD_R, "-01.", "-.51", "-02.");
        arith(ADD_R, "+00.", "+.4999", "+00.");
        arith(ADD_R, "+00.", "-.4999", "+00.");
        arith(ADD_R, "+00.", "-.5000", "-01.");
        arith(ADD_R, "-01.", "+.50", "-01.");
        arith(ADD_R, "-01.", "+.51", "+00.");
        arith(SUBTRACT_R, "+01.", "+.49", "+01.");
        arith(SUBTRACT_R, "+01.", "+.50", "+01.");
        arith(SUBTRACT_R, "+01.", "+.51", "+00.");
        arith(SUBTRACT_R, "-01.", "+.49", "-01.");
        arith(SUBTRACT_R, "-01.", "+.50", "-02.");
        arith(MULTIPLY_R, "+0.5", "+0.9", "+0.5");
        arith(MULTIPLY_R, "+0.4", "+1.1", "+0.4");
        arith(MULTIPLY_R, "-0.5", "+0.9", "-0.5");
        arith(MULTIPLY_R, "-0.5", "-0.9", "+0.5");
        arith(MULTIPLY_R, "+0.1", "+.49999999", "+0.0");
        arith(MULTIPLY_R, "+0.1", "+.50000000", "+0.1");
        arith(MULTIPLY_R, "-0.1", "+.50000000", "-0.1");
    }

    private static void roundedQuotients() {
        arith(DIVIDE_R, "+49.", "+99.", "+00.");
        arith(DIVIDE_R, "+49.", "+98.", "+01.");
        arith(DIVIDE_R, "-49.", "+98.", "-01.");
        arith(DIVIDE_R, "+49.", "-98.", "-01.");
        arith(DIVIDE_R, "-49.", "-98.", "+01.");
        arith(DIVIDE_R, "-49.", "+99.", "+00.");
        arith(DIVIDE_R, "-01.", "+01.", "-01.");
        arith(DIVIDE_R, "-01.", "+02.", "-01.");
        arith(DIVIDE_R, "-01.", "-02.", "+01.");
        arith(DIVIDE_R, "-01.", "+03.", "+00.");
        arith(DIVIDE_R, "+50.", "+99.", "+01.");
        arith(DIVIDE_R, "+1.0", "+3.", "+0.3");
        arith(DIVIDE_R, "+2.0", "+3.", "+0.7");
        arith(DIVIDE_R, "+0.1", "+2.", "+0.1");
        arith(DIVIDE_R, "+0.1", "+2.1", "+0.0");
        arith(DIVIDE_R, "+0.1", "+1.9", "+0.1");
        arith(DIVIDE_R, "+000000001.", "+000000002.", "+000000001.");
        arith(DIVIDE_R, "+499999999.", "+999999998.", "+000000001.");
        arith(DIVIDE_R, "+499999999.", "+999999999.", "+000000000.");
    }

    // Nothing is rounded where x has no more decimals than y.
    private static void roundedToNoDecimalsMore() {
        arith(ADD_R, "+1.5", "+1.", "+2.5");
        arith(ADD_R, "+1.5", "+1.5", "+3.0");
        arith(ADD_R, "+1.55", "+1.5", "+3.05");
        arith(SUBTRACT_R, "+1.55", "+1.5", "+0.05");
        arith(MULTIPLY_R, "+1.5", "+3.", "+4.5");
    }

    // Terms: "the exact result", with as many digits as there can be.
    private static void exactResults() {
        arith(MULTIPLY, "+.999999999", "+.999999999", "+.999999998");
        arith(MULTIPLY_R, "+.999999999", "+.999999999", "+.999999998");
        arith(MULTIPLY, "+.000000001", "+999999999.", "+.999999999");
        arith(MULTIPLY, "+999999999.", "+.999999999", "+999999998.");
        arith(MULTIPLY_R, "+999999999.", "+.999999999", "+999999998.");
        arith(DIVIDE, "+.999999999", "+.999999999", "SIZE");
        arith(DIVIDE, "+.999999998", "+.999999999", "+.999999998");
        arith(DIVIDE, "+999999999.", "+.000000001", "SIZE");
        arith(DIVIDE, "+000000000.", "+.000000001", "+000000000.");
        arith(DIVIDE, "+000000001.", "+.000000002", "+500000000.");
        arith(DIVIDE, "-000000001.", "-.000000002", "+500000000.");
        arith(ADD, "+999999998.", "+.999999999", "+999999998.");
        arith(ADD_R, "+999999998.", "+.999999999", "+999999999.");
        arith(ADD, "+.000000001", "-.000000002", "-.000000001");
        arith(SUBTRACT, "-.000000001", "-999999999.", "SIZE");
    }

    // Terms: "if the digits of y before the point are too few for it ... y stays and SIZE is true".
    private static void sizeOfSums() {
        arith(ADD, "+98.", "+1.", "+99.");
        arith(ADD, "+99.", "+1.", "SIZE");
        arith(ADD, "-98.", "-1.", "-99.");
        arith(ADD, "-99.", "-1.", "SIZE");
        arith(SUBTRACT, "-98.", "+1.", "-99.");
        arith(SUBTRACT, "-99.", "+1.", "SIZE");
        arith(SUBTRACT, "+99.", "-1.", "SIZE");
        arith(ADD, "+99.9", "+.0", "+99.9");
        arith(ADD, "+99.9", "+.09", "+99.9");
        arith(ADD, "+99.9", "+.1", "SIZE");
        arith(ADD, "+0.00", "+9.99", "+9.99");
        arith(ADD, "+0.00", "+10.", "SIZE");
        arith(ADD, "+999999998.", "+1.", "+999999999.");
        arith(ADD, "+999999999.", "+1.", "SIZE");
        arith(ADD, "+999999999.", "+999999999.", "SIZE");
        arith(SUBTRACT, "-999999999.", "+1.", "SIZE");
    }

    private static void sizeOfProductsAndQuotients() {
        arith(MULTIPLY, "+33.", "+3.", "+99.");
        arith(MULTIPLY, "+50.", "+2.", "SIZE");
        arith(MULTIPLY, "-33.", "+3.", "-99.");
        arith(MULTIPLY, "-50.", "+2.", "SIZE");
        arith(MULTIPLY, "+99.", "+1.01", "+99.");
        arith(MULTIPLY, "+99.", "+1.02", "SIZE");
        arith(MULTIPLY, "+999999999.", "+999999999.", "SIZE");
        arith(DIVIDE, "+99.", "+1.", "+99.");
        arith(DIVIDE, "+50.", "+.5", "SIZE");
        arith(DIVIDE, "+49.", "+.5", "+98.");
        arith(DIVIDE, "-50.", "+.5", "SIZE");
        arith(DIVIDE, "+1.0", "+.1", "SIZE");
        arith(DIVIDE, "+0.9", "+.1", "+9.0");
    }

    // It is the rounded result for which the digits can be too few.
    private static void sizeAfterRounding() {
        arith(ADD, "+99.", "+.9", "+99.");
        arith(ADD_R, "+99.", "+.4", "+99.");
        arith(ADD_R, "+99.", "+.5", "SIZE");
        arith(SUBTRACT_R, "-99.", "+.4", "-99.");
        arith(SUBTRACT_R, "-99.", "+.5", "SIZE");
        arith(ADD_R, "+9.9", "+.04", "+9.9");
        arith(ADD_R, "+9.9", "+.05", "SIZE");
        arith(MULTIPLY_R, "+99.", "+1.005", "+99.");
        arith(MULTIPLY_R, "+99.", "+1.006", "SIZE");
        arith(DIVIDE_R, "+9.", "+.91", "SIZE");
        arith(DIVIDE_R, "+9.", "+.95", "+9.");
    }

    // A y with decimals alone has no digits before the point: 0 alone needs none.
    private static void sizeWithDecimalsAlone() {
        arith(ADD, "+.98", "+.01", "+.99");
        arith(ADD, "+.99", "+.01", "SIZE");
        arith(ADD, "+.00", "+1.", "SIZE");
        arith(SUBTRACT, "+.00", "+1.", "SIZE");
        arith(ADD_R, "+.99", "+.004", "+.99");
        arith(ADD_R, "+.99", "+.005", "SIZE");
        arith(MULTIPLY, "+.5", "+1.9", "+.9");
        arith(MULTIPLY, "+.5", "+2.", "SIZE");
        arith(DIVIDE, "+.9", "+1.", "+.9");
        arith(DIVIDE, "+.9", "+.9", "SIZE");
    }

    // Terms: "if not signed, the value without its sign is stored", which is no size error.
    private static void sizeOfUnsigned() {
        int[][] rows = {{0, 99, 99, 0}, {0, 100, 0, 1}, {1, 100, 99, 0}, {1, 101, 1, 1}, {50, 50, 0, 0}, {50, 51, 1, 0}};
        for (int[] row : rows) {
            LedgerProgram p = new LedgerProgram();
            p.number(0, 0, 2, 0, false, 1);
            runLines(p, MOVE, Z, 0, row[0], SUBTRACT, Z, 0, row[1]);
            due(row[0] + " less " + row[1], p.value(0, 1), row[2]);
            due("its SIZE", p.size(), row[3] == 1);
        }
    }

    // Terms: "or x is 0 in DIVIDE, y stays and SIZE is true".
    private static void divisionByZero() {
        for (int op = ADD; op <= DIVIDE_R; op++) {
            boolean divides = op == DIVIDE || op == DIVIDE_R;
            boolean multiplies = op == MULTIPLY || op == MULTIPLY_R;
            String kept = multiplies ? "+00." : "+07.";
            arith(op, "+07.", "+00.", divides ? "SIZE" : kept);
            arith(op, "+07.", "-.0", divides ? "SIZE" : kept);
            arith(op, "+07.", "+  .", divides ? "SIZE" : kept);
            arith(op, "+07.", "-Z*.-", divides ? "SIZE" : kept);
            arith(op, "+00.", "+00.", divides ? "SIZE" : "+00.");
        }
        arith(DIVIDE, "+07.", "+01.", "+07.");
        arith(DIVIDE, "+07.", "-01.", "-07.");
        arith(DIVIDE, "+0.7", "+.9", "+0.7");
        LedgerProgram p = new LedgerProgram();
        p.number(0, 0, 2, 0, true, 1);
        put(p, 0, "Z 7");
        for (int op = DIVIDE; op <= DIVIDE_R; op += DIVIDE_R - DIVIDE) {
            runLines(p, op, Z, 0, 0);
            due("by 16, SIZE", p.size(), true);
            due("its characters stay", stored(p, 0, 3), "Z 7");
        }
        runLines(p, DIVIDE, Z, 0, -1);
        due("by -1, SIZE", p.size(), false);
        due("by -1", stored(p, 0, 3), "-07");
        runLines(p, DIVIDE, 0, 0, 0);
        due("by itself", stored(p, 0, 3), "+01");
        runLines(p, MOVE, Z, 0, 0, DIVIDE, 0, 0, 0);
        due("0 by itself, SIZE", p.size(), true);
    }

    // Terms: "16 for the number z (any int)".
    private static void arithmeticWithAnyLiteral() {
        int[] literals = {LEAST, LEAST + 1, -1000000000, -999999999, -1, 0, 1, 999999999, 1000000000, GREATEST};
        long limit = 1000000000L;
        for (int z : literals) {
            long[] due = {5L + z, 5L - z, 5L * z, z == 0 ? limit : 5L / z};
            for (int op = ADD; op <= DIVIDE; op++) {
                LedgerProgram p = new LedgerProgram();
                p.number(0, 0, 9, 0, true, 1);
                long want = due[op - ADD];
                boolean size = want >= limit || want <= -limit;
                runLines(p, MOVE, Z, 0, 5, op, Z, 0, z);
                due("op " + op + " on 5 with " + z, p.value(0, 1), size ? 5 : want);
                due("its SIZE", p.size(), size);
            }
        }
        LedgerProgram p = new LedgerProgram();
        p.number(0, 0, 9, 9, true, 1);
        runLines(p, TALLY, 0, 0, 99, ADD, Z, 0, LEAST);
        due("the least to decimals", p.size(), true);
        put(p, 0, "-999999999");
        runLines(p, SUBTRACT_R, Z, 0, GREATEST);
        due("the greatest from decimals", p.size(), true);
        runLines(p, MULTIPLY_R, Z, 0, LEAST);
        due("decimals by the least", p.size(), true);
        runLines(p, DIVIDE_R, Z, 0, LEAST);
        due("decimals through the least", stored(p, 0, 10), "+000000000");
    }

    // Terms: "and SIZE is false", "(SIZE is false at first.)".
    private static void sizeComesAndGoes() {
        LedgerProgram p = new LedgerProgram();
        p.number(0, 0, 1, 0, false, 1);
        p.text(1, 0, 1, 1);
        runLines(p, IF_SIZE, 0, 0, 0, STOP, 0, 0, 0, END, 0, 0, 0, DIVIDE, Z, 0, 0, IF_SIZE, 0, 0, 0, STOP, 0, 0, 0,
            END, 0, 0, 0, DISPLAY, 0, 0, 0);
        due("false at first, then true", p.steps(), 5);
        due("true", p.size(), true);
        for (int op = ADD; op <= DIVIDE_R; op++) {
            runLines(p, DIVIDE, Z, 0, 0, op, Z, 0, 1);
            due("false after op " + op, p.size(), false);
        }
        runLines(p, DIVIDE, Z, 0, 0, MOVE, Z, 0, 99, TALLY, 1, 0, 9, IF_NUMERIC, 1, 0, 0, END, 0, 0, 0, DISPLAY, 0, 0, 0,
            SET_INDEX, Z, 0, 3, CHANGE_INDEX, 0, 0, 3, IF, 0, 1, 1, END, 0, 0, 0);
        due("others keep it", p.size(), true);
        runLines(p, DIVIDE, Z, 0, 1, MOVE, Z, 0, 99);
        due("a MOVE without room is no size error", p.size(), false);
    }

    /** Which of the six relations hold, in their order. */
    private static String relations(LedgerProgram p, int x, int y) {
        StringBuilder s = new StringBuilder();
        for (int z = 0; z <= 5; z++) {
            runLines(p, IF, x, y, z, STOP, 0, 0, 0, END, 0, 0, 0);
            s.append(p.steps() == 3 ? 'y' : 'n');
        }
        return s.toString();
    }

    private static final String LESS = "ynnyyn", EQUAL = "nynyny", GREATER = "nnynyy";

    private static void compares(String x, String y, String want) {
        LedgerProgram p = new LedgerProgram();
        number(p, 0, 0, x);
        number(p, 1, 20, y);
        due(x + " and " + y, relations(p, 0, 1), want);
        String turned = want.equals(LESS) ? GREATER : want.equals(GREATER) ? LESS : EQUAL;
        due(y + " and " + x, relations(p, 1, 0), turned);
    }

    // Terms: "0 less, 1 equal, 2 greater, 3 not greater, 4 not equal, 5 not less"; "compares values if neither is a text".
    private static void relationsOfValues() {
        compares("+1.", "+1.", EQUAL);
        compares("+1.", "+1.000", EQUAL);
        compares("+1.", "+1.001", LESS);
        compares("+1.", "+0.999", GREATER);
        compares("-1.", "-1.001", GREATER);
        compares("-1.", "+1.", LESS);
        compares("-0.", "+0.", EQUAL);
        compares("-0.", "+.000000001", LESS);
        compares("+  .", "+00.", EQUAL);
        compares("+999999999.", "+.999999999", GREATER);
        compares("-999999999.", "+.999999999", LESS);
        compares("+.999999999", "+1.", LESS);
        compares("+999999999.", "+999999998.", GREATER);
    }

    private static void comparesTexts(String x, String y, String want) {
        LedgerProgram p = new LedgerProgram();
        p.text(0, 0, x.length(), 1);
        p.text(1, 20, y.length(), 1);
        put(p, 0, x);
        put(p, 20, y);
        due(x + " and " + y, relations(p, 0, 1), want);
    }

    // Terms: "else the characters of the two by their numbers, the shorter one lengthened with spaces; a number without its
    // sign".
    private static void relationsOfCharacters() {
        comparesTexts("A", "A", EQUAL);
        comparesTexts("A", "A ", EQUAL);
        comparesTexts("A           ", "A", EQUAL);
        comparesTexts("A", "A9", GREATER);
        comparesTexts("A", "A-", LESS);
        comparesTexts("A9", "A", LESS);
        comparesTexts("A-", "A", GREATER);
        comparesTexts("A", "A          Z", LESS);
        comparesTexts("A", "A          0", GREATER);
        comparesTexts("ABCDEFGHIJKL", "ABCDEFGHIJKM", LESS);
        comparesTexts("ABCDEFGHIJKL", "ABCDEFGHIJKL", EQUAL);
        comparesTexts("0", "9", LESS);
        comparesTexts("9", " ", LESS);
        comparesTexts(" ", "-", LESS);
        comparesTexts("*", "A", LESS);
        comparesTexts("Y", "Z", LESS);
        comparesTexts("B", "AZ", GREATER);
        LedgerProgram p = new LedgerProgram();
        number(p, 0, 0, "-1.2");
        p.number(1, 10, 2, 0, false, 1);
        p.text(2, 20, 3, 1);
        put(p, 10, "12");
        put(p, 20, "12 ");
        due("signed and text", relations(p, 0, 2), EQUAL);
        due("text and signed", relations(p, 2, 0), EQUAL);
        due("unsigned and text", relations(p, 1, 2), EQUAL);
        put(p, 20, "120");
        due("a space is more than a digit", relations(p, 0, 2), GREATER);
        due("the two numbers by their values", relations(p, 0, 1), LESS);
        p = new LedgerProgram();
        number(p, 0, 0, "-12.");
        p.text(2, 20, 4, 1);
        put(p, 0, "-12AB");
        put(p, 20, "12  ");
        due("nothing of what lies behind a number", relations(p, 0, 2), EQUAL);
    }

    // Terms: "NUMERIC, of a number or text: all characters but a sign are digits."
    private static void numericCharacters() {
        for (int c = 0; c <= 41; c++) {
            LedgerProgram p = new LedgerProgram();
            p.text(0, 0, 3, 1);
            p.number(1, 0, 3, 2, false, 1);
            p.number(2, 0, 2, 1, true, 1);
            for (int at = 0; at < 3; at++) {
                put(p, 0, "909");
                p.poke(at, c);
                for (int item = 0; item < 3; item++) {
                    runLines(p, IF_NUMERIC, item, 0, 0, STOP, 0, 0, 0, END, 0, 0, 0);
                    boolean numeric = c <= 9 || (item == 2 && at == 0);
                    due("item " + item + " with " + c + " at " + at, p.steps(), numeric ? 3 : 2);
                }
            }
        }
    }

    // Terms: "an IF that is false goes on behind its ELSE, or behind its END if it has none, an ELSE that is come to behind
    // the END".
    private static void behindIfs() {
        LedgerProgram p = new LedgerProgram();
        p.number(0, 0, 1, 0, false, 1);
        p.number(1, 1, 1, 0, false, 1);
        put(p, 0, "12");
        runLines(p, IF, 0, 1, 0, ELSE, 0, 0, 0, END, 0, 0, 0);
        due("true, both empty: IF, ELSE", p.steps(), 3);
        runLines(p, IF, 0, 1, 2, ELSE, 0, 0, 0, END, 0, 0, 0);
        due("false, both empty: IF, END", p.steps(), 3);
        runLines(p, IF, 0, 1, 0, END, 0, 0, 0);
        due("true, empty: IF, END", p.steps(), 3);
        runLines(p, IF, 0, 1, 2, END, 0, 0, 0);
        due("false, empty: IF", p.steps(), 2);
        int[] nested = {IF, 0, 1, 0, IF, 0, 1, 0, DISPLAY, 0, 0, 0, ELSE, 0, 0, 0, STOP, 0, 0, 0, END, 0, 0, 0,
            DISPLAY, 1, 0, 0, ELSE, 0, 0, 0, IF, 0, 1, 1, DISPLAY, 0, 0, 0, END, 0, 0, 0, DISPLAY, 1, 0, 0,
            DISPLAY, 1, 0, 0, END, 0, 0, 0, DISPLAY, 0, 0, 0};
        runLines(p, nested);
        due("true and true", shown(p), "121");
        due("steps", p.steps(), 8);
        put(p, 0, "42");
        runLines(p, nested);
        due("false and false", shown(p), "224");
        due("steps", p.steps(), 7);
        put(p, 0, "22");
        runLines(p, nested);
        due("false and true", shown(p), "2222");
        due("steps", p.steps(), 9);
        int[] eight = new int[4 * 25];
        for (int i = 0; i < 8; i++) {
            int[] line = {IF, 0, 1, i == 7 ? 4 : 1};
            System.arraycopy(line, 0, eight, 4 * i, 4);
            eight[4 * (9 + 2 * i)] = ELSE;
            eight[4 * (10 + 2 * i)] = END;
        }
        eight[4 * 8] = STOP;
        runLines(p, eight);
        due("eight inside of each other, the last one false", p.steps(), 1 + 8 + 1 + 7);
    }

    private static LedgerProgram digits() {
        LedgerProgram p = new LedgerProgram();
        for (int item = 0; item < 9; item++) {
            p.number(item, item, 1, 0, false, 1);
        }
        put(p, 0, "123456789");
        return p;
    }

    // Terms: "With z below 1 nothing happens."
    private static void performTimes() {
        int[] times = {LEAST, -1, 0, 1, 2, 3};
        for (int op = PERFORM; op <= VARYING; op++) {
            for (int z : times) {
                LedgerProgram p = digits();
                int done = Math.max(z, 0);
                due("run", runAll(p, PARAGRAPH, 0, 0, 0, SET_INDEX, Z, 0, 77, op, 1, 1, z, DISPLAY, 0, 0, 0, STOP, 0, 0, 0,
                    PARAGRAPH, 0, 0, 0, DISPLAY, 1, 0, 0), OK);
                due("op " + op + ", " + z + " times", shown(p), "2".repeat(done) + "1");
                due("its steps", p.steps(), 5 + 2 * done);
                due("its INDEX", p.index(), op == VARYING && done > 0 ? done : 77);
            }
        }
    }

    // Terms: "when the end of paragraph y (before the next PARAGRAPH or the program's end) is reached".
    private static void endOfParagraphs() {
        LedgerProgram p = digits();
        runAll(p, PARAGRAPH, 0, 0, 0, PERFORM, 1, 1, 2, DISPLAY, 0, 0, 0, STOP, 0, 0, 0,
            PARAGRAPH, 0, 0, 0, DISPLAY, 1, 0, 0, PARAGRAPH, 0, 0, 0, DISPLAY, 2, 0, 0);
        due("before the next PARAGRAPH", shown(p), "221");
        runAll(p, PARAGRAPH, 0, 0, 0, PERFORM, 2, 2, 2, DISPLAY, 0, 0, 0, STOP, 0, 0, 0,
            PARAGRAPH, 0, 0, 0, DISPLAY, 1, 0, 0, PARAGRAPH, 0, 0, 0, DISPLAY, 2, 0, 0);
        due("at the program's end", shown(p), "331");
        runAll(p, PARAGRAPH, 0, 0, 0, PERFORM, 1, 2, 2, DISPLAY, 0, 0, 0, STOP, 0, 0, 0,
            PARAGRAPH, 0, 0, 0, DISPLAY, 1, 0, 0, PARAGRAPH, 0, 0, 0, DISPLAY, 2, 0, 0);
        due("x to y", shown(p), "23231");
        runAll(p, PARAGRAPH, 0, 0, 0, PERFORM, 1, 1, 3, STOP, 0, 0, 0, PARAGRAPH, 0, 0, 0, PARAGRAPH, 0, 0, 0);
        due("a paragraph of nothing", p.steps(), 2 + 3 + 1);
        runAll(p, PARAGRAPH, 0, 0, 0, DISPLAY, 0, 0, 0, PARAGRAPH, 0, 0, 0, DISPLAY, 1, 0, 0,
            PARAGRAPH, 0, 0, 0, DISPLAY, 2, 0, 0);
        due("without PERFORM each goes on with the next one", shown(p), "123");
        // The PERFORM is the last one of its program: behind it is the end.
        due("run", runAll(p, PARAGRAPH, 0, 0, 0, IF_SIZE, 0, 0, 0, STOP, 0, 0, 0, END, 0, 0, 0, GO_TO, 2, 0, 0,
            PARAGRAPH, 0, 0, 0, DISPLAY, 1, 0, 0, PARAGRAPH, 0, 0, 0, PERFORM, 1, 1, 2), OK);
        due("behind it is the end", shown(p), "22");
    }

    // Terms: "while this is the latest PERFORM or VARYING in progress, its next time begins or it is over; it goes on behind
    // it. A paragraph that ends otherwise goes on with the next one."
    private static void latestPerform() {
        LedgerProgram p = digits();
        for (int op = PERFORM; op <= VARYING; op++) {
            runAll(p, PARAGRAPH, 0, 0, 0, PERFORM, 1, 1, 1, DISPLAY, 0, 0, 0, STOP, 0, 0, 0,
                PARAGRAPH, 0, 0, 0, DISPLAY, 1, 0, 0, IF_SIZE, 0, 0, 0, ELSE, 0, 0, 0, DIVIDE, Z, 8, 0, op, 1, 2, 1,
                END, 0, 0, 0, DISPLAY, 3, 0, 0, PARAGRAPH, 0, 0, 0, DISPLAY, 2, 0, 0);
            due("the end of an earlier one is passed over", shown(p), "224341");
            runAll(p, PARAGRAPH, 0, 0, 0, op, 1, 2, 2, DISPLAY, 0, 0, 0, STOP, 0, 0, 0,
                PARAGRAPH, 0, 0, 0, PERFORM, 2, 2, 2, DISPLAY, 1, 0, 0, PARAGRAPH, 0, 0, 0, DISPLAY, 2, 0, 0);
            due("both wait for one end", shown(p), "332333231");
            runAll(p, PARAGRAPH, 0, 0, 0, op, 1, 1, 2, DISPLAY, 0, 0, 0, STOP, 0, 0, 0,
                PARAGRAPH, 0, 0, 0, op, 2, 2, 2, PARAGRAPH, 0, 0, 0, DISPLAY, 2, 0, 0);
            due("behind it is the end of the earlier one", shown(p), "33331");
        }
        runAll(p, PARAGRAPH, 0, 0, 0, PERFORM, 1, 1, 1, DISPLAY, 0, 0, 0, STOP, 0, 0, 0,
            PARAGRAPH, 0, 0, 0, PERFORM, 2, 2, 1, PARAGRAPH, 0, 0, 0, PERFORM, 3, 3, 1, PARAGRAPH, 0, 0, 0, PERFORM, 4, 4, 1,
            PARAGRAPH, 0, 0, 0, PERFORM, 5, 5, 1, PARAGRAPH, 0, 0, 0, PERFORM, 6, 6, 1, PARAGRAPH, 0, 0, 0, DISPLAY, 6, 0, 0);
        due("six are over at once", shown(p), "71");
        due("their steps", p.steps(), 2 + 5 * 2 + 2 + 2);
    }

    // Terms: "GO TO ends no PERFORM."
    private static void goToEndsNoPerform() {
        LedgerProgram p = digits();
        runAll(p, PARAGRAPH, 0, 0, 0, PERFORM, 1, 1, 2, DISPLAY, 0, 0, 0, STOP, 0, 0, 0,
            PARAGRAPH, 0, 0, 0, IF_SIZE, 0, 0, 0, DISPLAY, 1, 0, 0, ELSE, 0, 0, 0, GO_TO, 3, 0, 0, END, 0, 0, 0,
            PARAGRAPH, 0, 0, 0, DISPLAY, 2, 0, 0, PARAGRAPH, 0, 0, 0, DISPLAY, 3, 0, 0, DIVIDE, Z, 8, 0, GO_TO, 1, 0, 0);
        due("left and come back to", shown(p), "4221");
        due("left for good", runAll(p, PARAGRAPH, 0, 0, 0, PERFORM, 1, 1, 2, DISPLAY, 0, 0, 0, STOP, 0, 0, 0,
            PARAGRAPH, 0, 0, 0, DISPLAY, 1, 0, 0, GO_TO, 3, 0, 0, PARAGRAPH, 0, 0, 0, DISPLAY, 2, 0, 0,
            PARAGRAPH, 0, 0, 0, DISPLAY, 3, 0, 0), OK);
        due("its times do not come", shown(p), "24");
        due("out of each, and a PERFORM again", runAll(p, PARAGRAPH, 0, 0, 0, CHANGE_INDEX, 0, 0, 1, PERFORM, 1, 1, 1,
            PARAGRAPH, 0, 0, 0, GO_TO, 0, 0, 0), DEEP);
        due("six are still in progress", p.index(), 8);
        due("its steps", p.steps(), 6 * 5 + 3);
        due("to the paragraph it stands in", runAll(p, PARAGRAPH, 0, 0, 0, GO_TO, 0, 0, 0), LONG);
    }

    // Terms: "the OUTPUT, which keeps the first 96"; promises 16 and 17: "-1 if there is none", "How many characters the
    // latest run displayed."
    private static void outputKeeps96() {
        for (int last = 1; last <= 4; last++) {
            LedgerProgram p = new LedgerProgram();
            p.text(0, 0, 12, 1);
            p.text(1, 12, 10, 1);
            p.text(2, 30, last, 1);
            put(p, 0, "ABCDEFGHIJKL0123456789");
            put(p, 30, "-+.,");
            runLines(p, DISPLAY, 0, 0, 0, DISPLAY, 0, 0, 0, DISPLAY, 0, 0, 0, DISPLAY, 0, 0, 0, DISPLAY, 0, 0, 0,
                DISPLAY, 0, 0, 0, DISPLAY, 0, 0, 0, DISPLAY, 1, 0, 0, DISPLAY, 2, 0, 0);
            int all = 94 + last;
            due("displayed", p.displayed(), all);
            String want = "ABCDEFGHIJKL".repeat(7) + "0123456789" + "-+.,".substring(0, last);
            due("kept of " + all, shown(p), want.substring(0, Math.min(all, 96)));
            due("output 95", p.output(95), all > 95 ? 12 : -1);
            due("output 96", p.output(96), -1);
            due("output " + all, p.output(all), -1);
            due("output -1", p.output(-1), -1);
            due("output least", p.output(LEAST), -1);
            due("output greatest", p.output(GREATEST), -1);
        }
        LedgerProgram p = new LedgerProgram();
        p.text(0, 0, 12, 1);
        runAll(p, PARAGRAPH, 0, 0, 0, PERFORM, 1, 1, 200, STOP, 0, 0, 0, PARAGRAPH, 0, 0, 0, DISPLAY, 0, 0, 0);
        due("far more than 96", p.displayed(), 2400);
        due("output 95", p.output(95), 10);
        due("output 96", p.output(96), -1);
    }

    // Terms: "DISPLAY adds the characters of x (of 16 nothing)".
    private static void displayOfLiteral() {
        LedgerProgram p = new LedgerProgram();
        p.number(0, 0, 1, 0, true, 1);
        put(p, 0, "-5");
        runLines(p, DISPLAY, Z, 0, 7);
        due("nothing", p.displayed(), 0);
        due("no output", p.output(0), -1);
        runLines(p, DISPLAY, Z, 0, 7, DISPLAY, 0, 0, 7, DISPLAY, Z, 0, 7);
        due("an item with its sign", shown(p), "-5");
        due("two characters", p.displayed(), 2);
    }

    // Terms: "it begins at the first instruction, with INDEX 1, SIZE false, no OUTPUT and no PERFORM in progress; the storage
    // stays as it is".
    private static void runBeginsAnew() {
        int[][] ends = {{STOP, 0, 0, 0}, {GO_TO, 1, 0, 0}, {PERFORM, 1, 1, 1}, {DISPLAY, 9, 0, 0}};
        int[] answers = {OK, LONG, DEEP, RANGE};
        for (int i = 0; i < ends.length; i++) {
            LedgerProgram p = digits();
            p.number(9, 20, 1, 0, false, 2);
            p.add(PARAGRAPH, 0, 0, 0);
            write(p, IF_SIZE, 0, 0, 0, DISPLAY, 8, 0, 0, END, 0, 0, 0, ADD, Z, 0, 1, DISPLAY, 0, 0, 0, PERFORM, 1, 1, 1,
                PARAGRAPH, 0, 0, 0, SET_INDEX, Z, 0, 9, DIVIDE, Z, 1, 0);
            write(p, ends[i]);
            due("check", p.check(), true);
            int steps = 0;
            for (int time = 2; time <= 4; time++) {
                due("run " + time, p.run(), answers[i]);
                due("its output, of what the run before left", shown(p), "" + time);
                due("its INDEX", p.index(), 9);
                due("its SIZE", p.size(), true);
                steps = time == 2 ? p.steps() : steps;
                due("its steps", p.steps(), steps);
            }
            runLines(p, STOP, 0, 0, 0);
            due("INDEX of the next one", p.index(), 1);
            due("SIZE of the next one", p.size(), false);
            due("OUTPUT of the next one", p.displayed(), 0);
            due("no character of it", p.output(0), -1);
            due("its steps", p.steps(), 2);
            due("the storage", stored(p, 0, 9), "423456789");
        }
    }

    // Terms: "LONG if 500 steps are used up and another one is come to".
    private static void steps() {
        for (int more = 0; more <= 4; more++) {
            LedgerProgram p = digits();
            p.drop();
            p.add(PARAGRAPH, 0, 0, 0);
            p.add(PERFORM, 1, 1, 247);
            for (int i = 0; i < more; i++) {
                p.add(CHANGE_INDEX, 0, 0, 1);
            }
            p.add(PARAGRAPH, 0, 0, 0);
            p.add(DISPLAY, 0, 0, 0);
            due("check", p.check(), true);
            // 2 for the first paragraph, 247 times 2, what is more, and 2 for falling into the second one.
            int all = 2 + 494 + more + 2;
            due("run of " + all, p.run(), all <= 500 ? OK : LONG);
            due("steps", p.steps(), Math.min(all, 500));
            due("displayed", p.displayed(), 248 - Math.min(1, Math.max(0, all - 500)));
            due("INDEX", p.index(), 1 + more);
        }
        LedgerProgram p = digits();
        due("a STOP as step 500", runAll(p, PARAGRAPH, 0, 0, 0, PERFORM, 1, 1, 248, CHANGE_INDEX, 0, 0, 0, STOP, 0, 0, 0,
            PARAGRAPH, 0, 0, 0, DISPLAY, 0, 0, 0), OK);
        due("its steps", p.steps(), 500);
        due("a STOP as step 501", runAll(p, PARAGRAPH, 0, 0, 0, PERFORM, 1, 1, 248, CHANGE_INDEX, 0, 0, 0,
            CHANGE_INDEX, 0, 0, 0, STOP, 0, 0, 0, PARAGRAPH, 0, 0, 0, DISPLAY, 0, 0, 0), LONG);
        due("its steps", p.steps(), 500);
        due("the end as 501", runAll(p, PARAGRAPH, 0, 0, 0, GO_TO, 2, 0, 0, PARAGRAPH, 0, 0, 0, DISPLAY, 0, 0, 0,
            PARAGRAPH, 0, 0, 0, PERFORM, 1, 1, 248), OK);
        due("its steps", p.steps(), 500);
        due("for ever", runAll(p, PARAGRAPH, 0, 0, 0, PERFORM, 0, 0, 0, GO_TO, 0, 0, 0), LONG);
        due("its steps", p.steps(), 500);
        due("many times", runAll(p, PARAGRAPH, 0, 0, 0, PERFORM, 1, 1, GREATEST, PARAGRAPH, 0, 0, 0), LONG);
        due("its steps", p.steps(), 500);
        endsOfTheLastSteps();
    }

    // The 501st step is not come to by what RANGE and DEEP say of it.
    private static void endsOfTheLastSteps() {
        for (int more = 0; more <= 1; more++) {
            LedgerProgram p = digits();
            p.number(9, 20, 1, 0, false, 2);
            p.add(PARAGRAPH, 0, 0, 0);
            p.add(PERFORM, 1, 1, 248 - more);
            p.add(SET_INDEX, Z, 0, 3);
            write(p, CHANGE_INDEX, 0, 0, 0, CHANGE_INDEX, 0, 0, 0);
            p.add(DISPLAY, 9, 0, 0);
            write(p, PARAGRAPH, 0, 0, 0, PERFORM, 0, 0, 0);
            due("check", p.check(), true);
            due("a table missed, " + more, p.run(), more == 1 ? RANGE : LONG);
            due("its steps", p.steps(), 500);
        }
    }

    // Terms: "Each instruction that is come to costs a STEP (a PARAGRAPH, an END, an ELSE behind what was carried out too)."
    private static void stepsOfEach() {
        int[] plain = {PARAGRAPH, MOVE, ADD, SUBTRACT, MULTIPLY, DIVIDE, ADD_R, SUBTRACT_R, MULTIPLY_R, DIVIDE_R, DISPLAY,
            SET_INDEX, CHANGE_INDEX, TALLY, STOP};
        LedgerProgram p = digits();
        for (int op : plain) {
            runLines(p, op, 0, 0, 0);
            due("op " + op, p.steps(), 2);
        }
        runLines(p);
        due("a PARAGRAPH alone", p.steps(), 1);
        runLines(p, PERFORM, 0, 0, 0, VARYING, 0, 0, 0);
        due("a PERFORM and a VARYING of nothing", p.steps(), 3);
        runLines(p, IF_SIZE, 0, 0, 0, END, 0, 0, 0);
        due("a false IF SIZE", p.steps(), 2);
        runLines(p, IF_NUMERIC, 0, 0, 0, END, 0, 0, 0);
        due("a true NUMERIC and its END", p.steps(), 3);
        runLines(p, IF_NUMERIC, 0, 0, 0, ELSE, 0, 0, 0, END, 0, 0, 0);
        due("a true NUMERIC and its ELSE", p.steps(), 3);
        runAll(p, PARAGRAPH, 0, 0, 0, GO_TO, 1, 0, 0, STOP, 0, 0, 0, PARAGRAPH, 0, 0, 0);
        due("a GO TO", p.steps(), 3);
    }

    // Terms: "RANGE if an instruction has an operand in a table of more than one and INDEX is not one of them".
    private static void rangeOfIndex() {
        for (int times = 2; times <= 9; times++) {
            int[] indexes = {LEAST, -1, 0, 1, 2, times - 1, times, times + 1, 10, GREATEST};
            LedgerProgram p = new LedgerProgram();
            p.number(0, 0, 1, 0, false, times);
            p.text(1, 0, 1, times);
            p.edited(2, 0, 1, times);
            put(p, 0, "1234567890");
            for (int index : indexes) {
                boolean there = index >= 1 && index <= times;
                for (int item = 0; item < 3; item++) {
                    int answer = runLines(p, SET_INDEX, Z, 0, index, DISPLAY, item, 0, 0);
                    due("INDEX " + index + " of " + times, answer, there ? OK : RANGE);
                    due("shows", shown(p), there ? "" + index : "");
                    due("steps", p.steps(), 3);
                }
            }
        }
    }

    private static void rangeOfSecondOperand() {
        int[][] lines = {{MOVE, 0, 2, 0}, {MOVE, 2, 0, 0}, {MOVE, Z, 0, 1}, {IF, 0, 2, 1}, {IF, 2, 0, 1}, {IF_NUMERIC, 0, 0, 0},
            {SET_INDEX, 0, 0, 0}, {TALLY, 0, 2, 1}, {TALLY, 2, 0, 1}, {ADD, 0, 2, 0}, {ADD, 2, 0, 0}, {ADD, Z, 0, 1},
            {SUBTRACT, 0, 2, 0}, {SUBTRACT, 2, 0, 0}, {MULTIPLY, 0, 2, 0}, {MULTIPLY, 2, 0, 0}, {DIVIDE, 0, 2, 0},
            {DIVIDE, 2, 0, 0}, {ADD_R, 0, 2, 0}, {ADD_R, 2, 0, 0}, {SUBTRACT_R, 0, 2, 0}, {SUBTRACT_R, 2, 0, 0},
            {MULTIPLY_R, 0, 2, 0}, {MULTIPLY_R, 2, 0, 0}, {DIVIDE_R, 0, 2, 0}, {DIVIDE_R, 2, 0, 0}};
        for (int[] line : lines) {
            for (int index = 0; index <= 4; index++) {
                LedgerProgram p = new LedgerProgram();
                p.number(0, 0, 1, 0, false, 3);
                p.number(2, 10, 1, 0, false, 1);
                put(p, 0, "111");
                put(p, 10, "1");
                p.add(PARAGRAPH, 0, 0, 0);
                p.add(SET_INDEX, Z, 0, index);
                write(p, line);
                if (line[0] == IF || line[0] == IF_NUMERIC) {
                    p.add(END, 0, 0, 0);
                }
                due("check", p.check(), true);
                due("op " + line[0] + " with INDEX " + index, p.run(), index >= 1 && index <= 3 ? OK : RANGE);
            }
        }
    }

    // What an instruction does not name is no operand of it, so no INDEX misses it.
    private static void noRangeWithoutOperand() {
        int[][] lines = {{PARAGRAPH, 0, 0, 0}, {CHANGE_INDEX, 0, 0, 0}, {STOP, 0, 0, 0}, {PERFORM, 0, 0, 0}, {VARYING, 0, 0, 0},
            {GO_TO, 2, 0, 0}, {IF_NUMERIC, 1, 0, 0}, {DISPLAY, 1, 0, 0}, {DISPLAY, Z, 0, 0}, {SET_INDEX, 1, 0, 0},
            {SET_INDEX, Z, 0, 0}, {IF_SIZE, 0, 0, 0}};
        for (int[] line : lines) {
            LedgerProgram p = new LedgerProgram();
            p.number(0, 0, 1, 0, false, 3);
            p.number(1, 10, 1, 0, false, 1);
            p.number(2, 20, 1, 0, false, 2);
            write(p, PARAGRAPH, 0, 0, 0, SET_INDEX, Z, 0, 4);
            write(p, line);
            if (line[0] == IF_NUMERIC || line[0] == IF_SIZE) {
                write(p, ELSE, 0, 0, 0, END, 0, 0, 0);
            }
            write(p, PARAGRAPH, 0, 0, 0, PARAGRAPH, 0, 0, 0);
            due("check", p.check(), true);
            due("op " + line[0] + " without a table", p.run(), OK);
        }
    }

    // Terms: "it is then the one that INDEX (an int, 1 at first) says".
    private static void whatIndexSays() {
        for (int index = 1; index <= 3; index++) {
            LedgerProgram p = new LedgerProgram();
            p.number(0, 0, 2, 0, true, 3);
            p.text(1, 10, 3, 3);
            p.edited(2, 20, picture("7211"), 3);
            p.number(3, 40, 4, 0, true, 1);
            put(p, 0, "-11+22-33");
            put(p, 10, "A1BC2DE3F");
            put(p, 20, "+ 41- 42+ 43");
            runLines(p, SET_INDEX, Z, 0, index, DISPLAY, 0, 0, 0, DISPLAY, 1, 0, 0, DISPLAY, 2, 0, 0, MOVE, 2, 3, 0, ADD, 0, 3, 0);
            String numbers = "-11+22-33".substring(3 * index - 3, 3 * index);
            String texts = "A1BC2DE3F".substring(3 * index - 3, 3 * index);
            String edited = "+ 41- 42+ 43".substring(4 * index - 4, 4 * index);
            due("read with INDEX " + index, shown(p), numbers + texts + edited);
            due("reckoned with it", p.value(3, 1), new int[] {30, -20, 10}[index - 1]);
            runLines(p, SET_INDEX, Z, 0, index, MOVE, Z, 0, 95, MOVE, Z, 1, 96, MOVE, Z, 2, 97, ADD, Z, 0, 1);
            due("numbers", stored(p, 0, 9), "-11+22-33".replace(numbers, "+96"));
            due("texts", stored(p, 10, 9), "A1BC2DE3F".replace(texts, "96 "));
            due("edited", stored(p, 20, 12), "+ 41- 42+ 43".replace(edited, "+ 97"));
        }
    }

    // Terms: "(it does nothing then)".
    private static void rangeDoesNothing() {
        int[][] lines = {{MOVE, Z, 0, 7}, {MOVE, 0, 1, 0}, {ADD, Z, 0, 1}, {DIVIDE, Z, 0, 0}, {DIVIDE, 0, 1, 0}, {DISPLAY, 0, 0, 0},
            {SET_INDEX, 0, 0, 0}, {TALLY, 1, 0, 5}, {TALLY, 0, 1, 5}};
        for (int[] line : lines) {
            for (int index = 0; index <= 4; index += 4) {
                LedgerProgram p = new LedgerProgram();
                p.number(0, 3, 1, 0, false, 3);
                p.number(1, 10, 1, 0, false, 1);
                put(p, 0, "555555555 5");
                p.add(PARAGRAPH, 0, 0, 0);
                p.add(SET_INDEX, Z, 0, index);
                write(p, line);
                p.add(DISPLAY, 1, 0, 0);
                due("check", p.check(), true);
                due("op " + line[0] + " with INDEX " + index, p.run(), RANGE);
                due("the storage", stored(p, 0, 12), "555555555 5 ");
                due("the INDEX", p.index(), index);
                due("the SIZE", p.size(), false);
                due("the OUTPUT", p.displayed(), 0);
                due("the steps", p.steps(), 3);
            }
        }
    }

    // Terms: "in a table of more than one": a table of one has no INDEX to miss.
    private static void tableOfOne() {
        int[] indexes = {LEAST, -1, 0, 1, 2, 9, GREATEST};
        for (int index : indexes) {
            LedgerProgram p = digits();
            p.text(9, 10, 1, 1);
            p.edited(10, 11, 1, 1);
            due("INDEX " + index, runLines(p, SET_INDEX, Z, 0, index, DISPLAY, 4, 0, 0, MOVE, 4, 9, 0, MOVE, 4, 10, 0,
                ADD, Z, 4, 1, IF, 4, 9, 2, DISPLAY, 10, 0, 0, END, 0, 0, 0, TALLY, 9, 3, 5, SET_INDEX, 4, 0, 0), OK);
            due("shows", shown(p), "55");
            due("stored", stored(p, 3, 9), "166789 55");
            due("the 5 became a 6", p.index(), 6);
        }
    }

    /** A chain of paragraphs, each of which performs the next one; the last one has instructions of its own. */
    private static LedgerProgram chain(int performs, int op, int... last) {
        LedgerProgram p = digits();
        for (int i = 0; i < performs; i++) {
            write(p, PARAGRAPH, 0, 0, 0, i == 0 ? PERFORM : op, i + 1, i + 1, 1);
            if (i == 0) {
                write(p, DISPLAY, 0, 0, 0, STOP, 0, 0, 0);
            }
        }
        p.add(PARAGRAPH, 0, 0, 0);
        write(p, last);
        due("check", p.check(), true);
        return p;
    }

    // Terms: "DEEP if a PERFORM or VARYING (z above 0) is come to while 6 are in progress."
    private static void sixPerforms() {
        for (int op = PERFORM; op <= VARYING; op++) {
            for (int performs = 5; performs <= 8; performs++) {
                LedgerProgram p = chain(performs, op, DISPLAY, 7, 0, 0);
                due(performs + " performs", p.run(), performs <= 6 ? OK : DEEP);
                due("shows", shown(p), performs <= 6 ? "81" : "");
                due("steps", p.steps(), performs <= 6 ? 2 * performs + 4 : 14);
            }
            int[] times = {LEAST, -1, 0, 1, 2, GREATEST};
            for (int z : times) {
                LedgerProgram p = chain(6, op, PERFORM, 0, 0, z, DISPLAY, 7, 0, 0);
                due("a seventh PERFORM of " + z, p.run(), z < 1 ? OK : DEEP);
                p = chain(6, op, VARYING, 0, 0, z, DISPLAY, 7, 0, 0);
                due("a seventh VARYING of " + z, p.run(), z < 1 ? OK : DEEP);
                due("shows", shown(p), z < 1 ? "81" : "");
            }
        }
        // What is over is no more in progress: seven, one after the other, inside of five.
        LedgerProgram p = chain(5, PERFORM, PERFORM, 6, 6, 1, PERFORM, 6, 6, 2, VARYING, 6, 6, 3, VARYING, 6, 6, 1,
            PARAGRAPH, 0, 0, 0, DISPLAY, 7, 0, 0);
        due("one after the other", p.run(), OK);
        due("shows", shown(p), "88888881");
    }

    private static void deepDoesNothing() {
        LedgerProgram p = chain(6, PERFORM, SET_INDEX, Z, 0, 5, DIVIDE, Z, 0, 0, DISPLAY, 7, 0, 0, VARYING, 0, 0, 3);
        due("deep", p.run(), DEEP);
        due("INDEX", p.index(), 5);
        due("SIZE", p.size(), true);
        due("OUTPUT", shown(p), "8");
        due("steps", p.steps(), 6 * 2 + 5);
        due("the next run is not", runLines(p, DISPLAY, 0, 0, 0), OK);
    }

    // Terms: "VARYING makes INDEX 1, and for each further time 1 more than at the beginning of the one before."
    private static void varyingIndex() {
        int[] changes = {0, 1, -1, 7, GREATEST, LEAST};
        for (int change : changes) {
            for (int z = 1; z <= 4; z++) {
                LedgerProgram p = digits();
                p.number(9, 0, 1, 0, false, 9);
                due("run", runAll(p, PARAGRAPH, 0, 0, 0, SET_INDEX, Z, 0, -5, VARYING, 1, 1, z, STOP, 0, 0, 0,
                    PARAGRAPH, 0, 0, 0, DISPLAY, 9, 0, 0, CHANGE_INDEX, 0, 0, change), OK);
                due("1 to " + z, shown(p), "1234".substring(0, z));
                due("INDEX behind it", p.index(), z + change);
            }
        }
        LedgerProgram p = digits();
        p.number(9, 0, 1, 0, false, 9);
        due("past the table", runAll(p, PARAGRAPH, 0, 0, 0, VARYING, 1, 1, 10, PARAGRAPH, 0, 0, 0, DISPLAY, 9, 0, 0), RANGE);
        due("up to its end", shown(p), "123456789");
        due("INDEX", p.index(), 10);
    }

    // Terms: "20 INDEX becomes the whole part of the value of x, a number or 16".
    private static void indexWholePart() {
        String[] values = {"+0.99", "-0.99", "+1.00", "-1.00", "-1.99", "+1.99", "+.9", "-.9", "+999999999.", "-999999999.",
            "+99999999.9", "-.999999999", "+ Z.", "-00."};
        int[] due = {0, 0, 1, -1, -1, 1, 0, 0, 999999999, -999999999, 99999999, 0, 0, 0};
        for (int i = 0; i < values.length; i++) {
            LedgerProgram p = new LedgerProgram();
            number(p, 0, 0, values[i]);
            runLines(p, SET_INDEX, 0, 0, 77);
            due("the whole part of " + values[i], p.index(), due[i]);
        }
        int[] literals = {LEAST, -1, 0, 1, GREATEST};
        for (int z : literals) {
            LedgerProgram p = new LedgerProgram();
            runLines(p, SET_INDEX, Z, 0, z);
            due("INDEX of 16", p.index(), z);
        }
    }

    // Terms: "INDEX (an int, 1 at first)", "21 INDEX changes by z".
    private static void indexWrapsAround() {
        int[][] rows = {{1, 0, 1}, {1, -1, 0}, {1, 1, 2}, {GREATEST - 1, 1, GREATEST}, {GREATEST, 1, LEAST}, {LEAST, -1, GREATEST},
            {LEAST + 1, -1, LEAST}, {GREATEST, GREATEST, -2}, {LEAST, LEAST, 0}, {-1, LEAST, GREATEST}, {0, LEAST, LEAST}};
        for (int[] row : rows) {
            LedgerProgram p = new LedgerProgram();
            due("run", runLines(p, SET_INDEX, Z, 0, row[0], CHANGE_INDEX, 0, 0, row[1]), OK);
            due(row[0] + " changed by " + row[1], p.index(), row[2]);
        }
        LedgerProgram p = digits();
        p.number(9, 0, 1, 0, false, 9);
        runLines(p, DISPLAY, 9, 0, 0, CHANGE_INDEX, 0, 0, GREATEST, CHANGE_INDEX, 0, 0, GREATEST, CHANGE_INDEX, 0, 0, 3,
            DISPLAY, 9, 0, 0);
        due("1 at first, and around to 2", shown(p), "12");
    }

    // Terms: "22 TALLY x: how many characters of the item are z; that is stored in y, a number".
    private static void tallies() {
        LedgerProgram p = new LedgerProgram();
        p.text(0, 0, 12, 1);
        p.number(1, 20, 2, 0, true, 1);
        p.number(2, 30, 1, 0, false, 1);
        p.number(3, 40, 3, 2, false, 1);
        p.number(4, 50, 1, 1, false, 1);
        for (int found = 0; found <= 12; found += 3) {
            put(p, 0, "ZZZZZZZZZZZZ".substring(found) + "AAAAAAAAAAAA".substring(12 - found));
            runLines(p, TALLY, 0, 1, 16, TALLY, 0, 2, 16, TALLY, 0, 3, 16, TALLY, 0, 4, 16);
            due(found + " in two digits", stored(p, 20, 3), found < 10 ? "+0" + found : "+" + found);
            due(found + " in one", p.value(2, 1), found % 10);
            due(found + " with decimals", p.value(3, 1), found % 10 * 100);
            due(found + " in decimals alone", p.value(4, 1), 0);
        }
        int[] none = {LEAST, -1, 42, 16 - 256, GREATEST};
        for (int z : none) {
            runLines(p, TALLY, 0, 1, z);
            due("none is " + z, p.value(1, 1), 0);
        }
        put(p, 0, "0Z0Z0Z0Z0Z0 ");
        runLines(p, TALLY, 0, 1, 0, TALLY, 0, 2, 41, TALLY, 0, 3, 10);
        due("character 0", p.value(1, 1), 6);
        due("character 41", p.value(2, 1), 5);
        due("character 10", p.value(3, 1), 100);
    }
}
