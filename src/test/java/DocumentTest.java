import java.lang.reflect.Field;
import java.lang.reflect.Method;
import java.lang.reflect.Modifier;
import java.util.Set;
import java.util.TreeSet;

/**
 * Goes through the document from its first line on. Sentences that name a boundary are quoted and tried in the Boundary
 * tests; here stand, in the document's order, the others that say what a call answers or changes.
 */
public final class DocumentTest extends Bench {
    private static final int OK = LedgerProgram.OK, UNCHECKED = LedgerProgram.UNCHECKED;

    public static void main(String[] args) throws Exception {
        overEachOther();
        fiveHundredAndTwelveCalls();
        publicFace();
        constants();
        checkedAsAWhole();
        namesOfCharacters();
        kindsOfSigns();
        table();
        valueOfNumber();
        valueOfEdited();
        storedInNumber();
        signsCarriedOut();
        signDropped();
        moveToText();
        moveTheValue();
        operands();
        instructionsOfArithmetic();
        relations();
        ifSizeAndNumeric();
        performAndVarying();
        goToAndStop();
        display();
        arithmetic();
        sizeError();
        operandsOfIf();
        branches();
        runIsOver();
        itemBecomes();
        pictureIsAsSaid();
        pokePuts();
        addAppends();
        dropUnchecks();
        checkAnswers();
        runAnswers();
        answersAfterARun();
        peekAndValue();
        outputAndDisplayed();
        exampleOfReadme();
        finish();
    }

    // What it is: "decimal items that lie over each other in one storage".
    private static void overEachOther() {
        LedgerProgram p = new LedgerProgram();
        p.number(0, 0, 5, 2, true, 1);
        p.number(1, 1, 5, 0, false, 1);
        p.text(2, 0, 6, 1);
        p.number(3, 2, 1, 0, false, 3);
        due("run", runLines(p, MOVE, Z, 0, -123), OK);
        due("with a sign and decimals", p.value(0, 1), -12300);
        due("its digits as another number", p.value(1, 1), 12300);
        due("all of it as a text", p.value(2, 1), 12300);
        due("its second digit", p.value(3, 1), 2);
        due("its third digit", p.value(3, 2), 3);
        runLines(p, MOVE, Z, 3, 9);
        due("a digit put into all of them", p.value(0, 1), -19300);
        due("and into the number", p.value(1, 1), 19300);
    }

    // What it is: "An object is used for at most 512 calls after it has been made".
    private static void fiveHundredAndTwelveCalls() {
        LedgerProgram p = new LedgerProgram();
        p.number(0, 0, 3, 0, false, 1);
        p.add(PARAGRAPH, 0, 0, 0);
        p.add(ADD, Z, 0, 1);
        p.check();
        for (int run = 1; run <= 507; run++) {
            due("run " + run, p.run(), OK);
        }
        due("the 512th call", p.value(0, 1), 507);
    }

    private static final String[] FACE = {"boolean number(int, int, int, int, boolean, int)", "boolean text(int, int, int, int)",
        "boolean edited(int, int, int, int)", "boolean poke(int, int)", "int add(int, int, int, int)", "int drop()",
        "boolean check()", "int place()", "int run()", "int steps()", "int index()", "boolean size()", "int peek(int)",
        "long value(int, int)", "int output(int)", "int displayed()"};

    // "public final class LedgerProgram".
    private static void publicFace() {
        Set<String> found = new TreeSet<>();
        for (Method method : LedgerProgram.class.getDeclaredMethods()) {
            if (!Modifier.isPublic(method.getModifiers())) {
                continue;
            }
            StringBuilder s = new StringBuilder();
            for (Class<?> type : method.getParameterTypes()) {
                s.append(s.length() == 0 ? "" : ", ").append(type);
            }
            found.add(method.getReturnType() + " " + method.getName() + "(" + s + ")");
            due(method.getName() + " is static", Modifier.isStatic(method.getModifiers()), false);
        }
        due("the public methods", found.toString(), new TreeSet<>(Set.of(FACE)).toString());
        int is = LedgerProgram.class.getModifiers();
        due("public", Modifier.isPublic(is), true);
        due("final", Modifier.isFinal(is), true);
    }

    // "public static final int OK = 0, LONG = 1, RANGE = 2, DEEP = 3, UNCHECKED = -1;"
    private static void constants() throws Exception {
        String[] names = {"OK", "LONG", "RANGE", "DEEP", "UNCHECKED"};
        int[] values = {0, 1, 2, 3, -1};
        for (int i = 0; i < names.length; i++) {
            Field field = LedgerProgram.class.getField(names[i]);
            int is = field.getModifiers();
            due(names[i] + " is a constant", Modifier.isStatic(is) && Modifier.isFinal(is), true);
            due(names[i] + " is an int", field.getType() == int.class, true);
            due(names[i], field.getInt(null), values[i]);
        }
        due("no other public field", LedgerProgram.class.getFields().length, 5);
    }

    // Terms: "A program is checked as a whole and run."
    private static void checkedAsAWhole() {
        LedgerProgram p = new LedgerProgram();
        p.number(0, 0, 1, 0, false, 1);
        due("a fault that no run would come to", fault(p, PARAGRAPH, 0, 0, 0, ADD, Z, 0, 1, STOP, 0, 0, 0, ADD, Z, 1, 1), 3);
        due("nothing of it is run", p.value(0, 1), 0);
        due("a fault in what is not performed", fault(p, PARAGRAPH, 0, 0, 0, STOP, 0, 0, 0, PARAGRAPH, 0, 0, 0,
            GO_TO, 2, 0, 0), 3);
    }

    // Terms: "0..9 the digits, 10 space, 11 minus, 12 plus, 13 point, 14 comma, 15 star, 16 and above letters".
    private static void namesOfCharacters() {
        LedgerProgram p = new LedgerProgram();
        p.number(0, 0, 9, 0, true, 1);
        p.edited(1, 20, picture("73342151"), 1);
        p.edited(2, 30, picture("61411"), 1);
        runLines(p, MOVE, Z, 0, 123456789, MOVE, Z, 1, -5, MOVE, Z, 2, 108);
        int[] number = {12, 1, 2, 3, 4, 5, 6, 7, 8, 9};
        int[] starred = {11, 15, 15, 15, 10, 5, 13, 0};
        int[] comma = {10, 1, 14, 0, 8};
        characters(p, 0, number);
        characters(p, 20, starred);
        characters(p, 30, comma);
        p.text(3, 40, 1, 1);
        for (int c = 0; c <= 41; c++) {
            p.poke(40, c);
            due("character " + c + " is a digit", p.value(3, 1), c <= 9 ? c : 0);
        }
    }

    private static void characters(LedgerProgram p, int at, int[] want) {
        for (int i = 0; i < want.length; i++) {
            due("peek " + (at + i), p.peek(at + i), want[i]);
        }
    }

    // Terms: "1 digit, 2 and 3 digits that may be suppressed (to a space, to a star), 4 comma".
    private static void kindsOfSigns() {
        edits("1", 0, "0");
        edits("2", 0, " ");
        edits("3", 0, "*");
        edits("14", 7, "7,");
        edits("15", 7, "7.");
        edits("61", -7, "-7");
        edits("71", 7, "+7");
        edits("2422151", 1234, "1,234.0");
        edits("2422151", 34, "   34.0");
        edits("3433151", 34, "***34.0");
    }

    private static void edits(String signs, int v, String want) {
        LedgerProgram p = new LedgerProgram();
        due("picture " + signs, p.edited(0, 40, picture(signs), 1), true);
        due("run", runLines(p, MOVE, Z, 0, v), OK);
        due(signs + " of " + v, stored(p, 40, signs.length()), want);
    }

    // Terms: "An item can stand in a TABLE of 1 to 9, one behind the other without a gap; it is then the one that INDEX (an int,
    // 1 at first) says."
    private static void table() {
        LedgerProgram p = new LedgerProgram();
        p.number(0, 0, 2, 0, true, 3);
        p.text(1, 10, 2, 4);
        p.edited(2, 20, picture("6211"), 2);
        due("run", runLines(p, MOVE, Z, 0, 11, MOVE, Z, 1, 12, MOVE, Z, 2, 13, SET_INDEX, Z, 0, 2, MOVE, Z, 0, -21, MOVE, Z, 1, 22,
            MOVE, Z, 2, -23, SET_INDEX, Z, 0, 3, MOVE, Z, 0, 31, MOVE, Z, 1, 32, CHANGE_INDEX, 0, 0, 1, MOVE, Z, 1, 42), OK);
        due("the numbers", stored(p, 0, 10), "+11-21+31 ");
        due("the texts", stored(p, 10, 9), "12223242 ");
        due("the edited ones", stored(p, 20, 9), "  13- 23 ");
        due("the second number", p.value(0, 2), -21);
        due("the fourth text", p.value(1, 4), 42);
        due("the second edited one", p.value(2, 2), -23);
    }

    // Terms: "VALUE of a number: its digits (a character that is no digit counts as 0), below 0 if it is signed and the sign is
    // minus."
    private static void valueOfNumber() {
        LedgerProgram p = new LedgerProgram();
        p.number(0, 0, 4, 1, true, 1);
        p.number(1, 0, 5, 1, false, 1);
        p.number(2, 20, 6, 0, true, 1);
        String[] storages = {"-1234", "+1234", " 1234", "91234", "-1 3A", "-    "};
        int[] signed = {-1234, 1234, 1234, 1234, -1030, 0};
        int[] unsigned = {1234, 1234, 1234, 91234, 1030, 0};
        for (int i = 0; i < storages.length; i++) {
            put(p, 0, storages[i]);
            due("signed " + storages[i], p.value(0, 1), signed[i]);
            due("not signed " + storages[i], p.value(1, 1), unsigned[i]);
            runLines(p, MOVE, 0, 2, 0);
            due("moved, signed " + storages[i], p.value(2, 1), signed[i] / 10);
            runLines(p, MOVE, 1, 2, 0);
            due("moved, not signed " + storages[i], p.value(2, 1), unsigned[i] / 10);
        }
    }

    // Terms: "Of an edited item: its characters that are digits, in a row, its decimals counted as above, below 0 if one is
    // minus."
    private static void valueOfEdited() {
        LedgerProgram p = new LedgerProgram();
        p.edited(0, 0, picture("722151"), 1);
        p.number(1, 20, 6, 2, true, 1);
        String[] storages = {"+ 12.5", "- 12.5", "*12-5 ", "A1B2C ", "123456", "      ", "-0.  0", ".....7", "7....."};
        int[] values = {125, -125, -125, 12, 123456, 0, 0, 7, 7};
        for (int i = 0; i < storages.length; i++) {
            put(p, 0, storages[i]);
            due("value of " + storages[i], p.value(0, 1), values[i]);
            runLines(p, MOVE, 0, 1, 0);
            due("moved " + storages[i], p.value(1, 1), values[i] * 10 % 1000000);
        }
    }

    // Terms: "STORING a value in a number: digits that it has no room for are lost on both sides; a sign, if signed, is minus if
    // what is stored is below 0, else plus; if not signed, the value without its sign is stored."
    private static void storedInNumber() {
        LedgerProgram p = new LedgerProgram();
        p.number(0, 0, 6, 3, true, 1);
        p.number(1, 10, 3, 1, true, 1);
        p.number(2, 20, 3, 1, false, 1);
        String[] from = {"+012345", "-012345", "+512399", "-512399", "-000049", "-600000", "+      "};
        String[] signed = {"+123", "-123", "+123", "-123", "+000", "+000", "+000"};
        for (int i = 0; i < from.length; i++) {
            put(p, 0, from[i]);
            runLines(p, MOVE, 0, 1, 0, MOVE, 0, 2, 0);
            due("signed, from " + from[i], stored(p, 10, 4), signed[i]);
            due("not signed, from " + from[i], stored(p, 20, 3), signed[i].substring(1));
            due("the other stays", stored(p, 0, 7), from[i]);
        }
    }

    // Terms: "In an edited item likewise, then its signs are carried out".
    private static void signsCarriedOut() {
        LedgerProgram p = new LedgerProgram();
        p.number(0, 0, 7, 3, true, 1);
        p.edited(1, 20, picture("62422151"), 1);
        p.edited(2, 30, picture("73333511"), 1);
        String[] from = {"+1234567", "-1234567", "+0234567", "-0034567", "-0004567", "-0000567", "+0000007", "-0000007"};
        String[] spaced = {" 1,234.5", "-1,234.5", "   234.5", "-   34.5", "-    4.5", "-    0.5", "     0.0", "     0.0"};
        String[] starred = {"+1234.56", "-1234.56", "+*234.56", "-**34.56", "-***4.56", "-****.56", "+****.00", "+****.00"};
        for (int i = 0; i < from.length; i++) {
            put(p, 0, from[i]);
            runLines(p, MOVE, 0, 1, 0, MOVE, 0, 2, 0);
            due("62422151 of " + from[i], stored(p, 20, 8), spaced[i]);
            due("73333511 of " + from[i], stored(p, 30, 8), starred[i]);
        }
    }

    // Terms: "An edited item without 6 and 7 drops the sign."
    private static void signDropped() {
        edits("22", -7, " 7");
        edits("151", -7, "7.0");
        edits("4333", -7, " **7");
        LedgerProgram p = new LedgerProgram();
        p.edited(0, 0, picture("22"), 1);
        runLines(p, MOVE, Z, 0, -7);
        due("its value", p.value(0, 1), 7);
    }

    // Terms: "MOVE to a text: the characters that the other item had, from the left on, of a number without its sign (of 16 its
    // digits without zeros in front, 0 being one digit), the rest spaces."
    private static void moveToText() {
        LedgerProgram p = new LedgerProgram();
        p.text(0, 0, 5, 1);
        p.text(1, 10, 3, 1);
        p.text(2, 15, 7, 1);
        p.number(3, 30, 4, 2, true, 1);
        p.number(4, 40, 6, 0, false, 1);
        p.edited(5, 50, picture("622151"), 1);
        put(p, 10, "A,Z");
        put(p, 15, "B*-+.10");
        put(p, 30, "-0125");
        put(p, 40, "009876");
        put(p, 50, "- 12.5");
        String[] want = {"A,Z  ", "B*-+.", "0125 ", "00987", "- 12."};
        for (int x = 1; x <= 5; x++) {
            put(p, 0, "QQQQQ");
            runLines(p, MOVE, x, 0, 0);
            due("from item " + x, stored(p, 0, 6), want[x - 1] + " ");
        }
        int[] literals = {0, 7, -7, 100, -12345, 123456};
        String[] digits = {"0    ", "7    ", "7    ", "100  ", "12345", "12345"};
        for (int i = 0; i < literals.length; i++) {
            put(p, 0, "QQQQQ");
            runLines(p, MOVE, Z, 0, literals[i]);
            due("from " + literals[i], stored(p, 0, 6), digits[i] + " ");
        }
    }

    // Terms: "MOVE to a number or an edited item: the value of the other item is stored."
    private static void moveTheValue() {
        LedgerProgram p = new LedgerProgram();
        p.number(0, 0, 5, 2, true, 1);
        p.text(1, 10, 7, 1);
        p.edited(2, 20, picture("621511"), 1);
        p.number(3, 30, 4, 1, true, 1);
        p.edited(4, 40, picture("721541"), 1);
        put(p, 0, "-01234");
        put(p, 10, "A1-2.3B");
        put(p, 20, "- 4.56");
        int[] x = {0, 1, 2, Z};
        String[] number = {"-0123", "+1230", "-0045", "-0070"};
        String[] edited = {"-12.,3", "+23.,0", "- 4.,5", "- 7.,0"};
        for (int i = 0; i < x.length; i++) {
            runLines(p, MOVE, x[i], 3, -7, MOVE, x[i], 4, -7);
            due("item " + x[i] + " to a number", stored(p, 30, 5), number[i]);
            due("item " + x[i] + " to an edited one", stored(p, 40, 6), edited[i]);
        }
    }

    // Terms: "OPERANDS are items, or 16 for the number z (any int)."
    private static void operands() {
        LedgerProgram p = new LedgerProgram();
        p.number(0, 0, 2, 0, true, 1);
        p.number(1, 10, 2, 0, true, 1);
        put(p, 0, "+05");
        for (int op = MOVE; op <= MULTIPLY; op++) {
            put(p, 10, "+02");
            runLines(p, op, 0, 1, 9);
            due("op " + op + " with an item", p.value(1, 1), new int[] {5, 7, -3, 10}[op - MOVE]);
            put(p, 10, "+02");
            runLines(p, op, Z, 1, 9);
            due("op " + op + " with z", p.value(1, 1), new int[] {9, 11, -7, 18}[op - MOVE]);
        }
        runLines(p, SET_INDEX, 0, 0, 9);
        due("INDEX of an item", p.index(), 5);
        runLines(p, SET_INDEX, Z, 0, 9);
        due("INDEX of z", p.index(), 9);
    }

    // "1 MOVE x (an item or 16) to y 2 ADD x to y 3 SUBTRACT x from y 4 MULTIPLY y by x 5 DIVIDE y by x 6 to 9 the same as 2 to 5,
    // ROUNDED".
    private static void instructionsOfArithmetic() {
        String[] want = {"", "+0014", "+0978", "+0949", "+1397", "+0664", "+0979", "+0950", "+1398", "+0665"};
        for (int op = MOVE; op <= DIVIDE_R; op++) {
            LedgerProgram p = new LedgerProgram();
            p.number(0, 0, 4, 1, true, 1);
            p.number(1, 10, 4, 3, true, 1);
            put(p, 0, "+0964");
            put(p, 10, "+1450");
            due("run", runLines(p, op, 1, 0, 0), OK);
            due("96.4, op " + op + ", 1.450", stored(p, 0, 5), want[op]);
            due("x stays", stored(p, 10, 5), "+1450");
            due("steps", p.steps(), 2);
        }
    }

    /** Three digits to show where a run comes to: items 1 to 3 show 1 to 3, item 0 is a number to count with. */
    private static LedgerProgram marked() {
        LedgerProgram p = new LedgerProgram();
        p.number(0, 0, 2, 0, true, 1);
        p.text(1, 10, 1, 1);
        p.text(2, 11, 1, 1);
        p.text(3, 12, 1, 1);
        put(p, 0, "+00");
        put(p, 10, "123");
        return p;
    }

    // "10 IF x y: the relation z (0 less, 1 equal, 2 greater, 3 not greater, 4 not equal, 5 not less)".
    private static void relations() {
        String[] holds = {"ynnyyn", "nynyny", "nnynyy"};
        for (int x = 4; x <= 6; x++) {
            for (int z = 0; z <= 5; z++) {
                LedgerProgram p = marked();
                p.number(4, 20, 1, 0, false, 1);
                put(p, 20, String.valueOf(x));
                p.number(5, 30, 1, 0, false, 1);
                put(p, 30, "5");
                runLines(p, IF, 4, 5, z, DISPLAY, 1, 0, 0, END, 0, 0, 0);
                due(x + " to 5, relation " + z, p.displayed() == 1, holds[x - 4].charAt(z) == 'y');
            }
        }
    }

    // "11 IF SIZE 12 IF x NUMERIC 13 ELSE 14 END".
    private static void ifSizeAndNumeric() {
        for (int z = 0; z <= 1; z++) {
            LedgerProgram p = marked();
            runLines(p, DIVIDE, Z, 0, z, IF_SIZE, 0, 0, 0, DISPLAY, 1, 0, 0, ELSE, 0, 0, 0, DISPLAY, 2, 0, 0, END, 0, 0, 0,
                DISPLAY, 3, 0, 0);
            due("IF SIZE after a division by " + z, shown(p), z == 0 ? "13" : "23");
        }
        String[] storages = {"+12", "-00", "A12", "+1A", "+ 1"};
        for (int i = 0; i < storages.length; i++) {
            LedgerProgram p = marked();
            put(p, 0, storages[i]);
            runLines(p, IF_NUMERIC, 0, 0, 0, DISPLAY, 1, 0, 0, ELSE, 0, 0, 0, DISPLAY, 2, 0, 0, END, 0, 0, 0, DISPLAY, 3, 0, 0);
            due("IF " + storages[i] + " NUMERIC", shown(p), i <= 2 ? "13" : "23");
        }
    }

    // "15 PERFORM x THROUGH y: paragraphs x to y, z times 16 VARYING x y: the same for INDEX = 1, 2, .. z".
    private static void performAndVarying() {
        for (int op = PERFORM; op <= VARYING; op++) {
            for (int times = 1; times <= 3; times++) {
                LedgerProgram p = marked();
                p.number(4, 20, 1, 0, false, 9);
                put(p, 20, "987654321");
                due("run", runAll(p, PARAGRAPH, 0, 0, 0, SET_INDEX, Z, 0, 7, op, 1, 2, times, DISPLAY, 3, 0, 0, STOP, 0, 0, 0,
                    PARAGRAPH, 0, 0, 0, DISPLAY, 1, 0, 0, PARAGRAPH, 0, 0, 0, DISPLAY, 2, 0, 0, DISPLAY, 4, 0, 0,
                    PARAGRAPH, 0, 0, 0, DISPLAY, 3, 0, 0), OK);
                String want = op == PERFORM ? "123".repeat(times) : "129128127".substring(0, 3 * times);
                due("op " + op + ", " + times + " times", shown(p), want + "3");
                due("INDEX after it", p.index(), op == PERFORM ? 7 : times);
                due("steps", p.steps(), 5 + 5 * times);
            }
        }
    }

    // "17 GO TO paragraph x 18 STOP".
    private static void goToAndStop() {
        for (int x = 1; x <= 3; x++) {
            LedgerProgram p = marked();
            due("run", runAll(p, PARAGRAPH, 0, 0, 0, GO_TO, x, 0, 0, DISPLAY, 3, 0, 0, PARAGRAPH, 0, 0, 0, DISPLAY, 1, 0, 0,
                PARAGRAPH, 0, 0, 0, DISPLAY, 2, 0, 0, STOP, 0, 0, 0, DISPLAY, 3, 0, 0, PARAGRAPH, 0, 0, 0, DISPLAY, 3, 0, 0), OK);
            due("GO TO " + x, shown(p), x == 1 ? "12" : x == 2 ? "2" : "3");
            due("its steps", p.steps(), x == 1 ? 7 : x == 2 ? 5 : 4);
        }
    }

    // "19 DISPLAY x"; "DISPLAY adds the characters of x (of 16 nothing) to the OUTPUT, which keeps the first 96."
    private static void display() {
        LedgerProgram p = new LedgerProgram();
        p.number(0, 0, 3, 1, true, 1);
        p.number(1, 10, 2, 0, false, 1);
        p.text(2, 20, 4, 1);
        p.edited(3, 30, picture("622151"), 1);
        put(p, 0, "-123");
        put(p, 10, " 7");
        put(p, 20, "A,* ");
        put(p, 30, "- 12.3");
        runLines(p, DISPLAY, 0, 0, 0, DISPLAY, 1, 0, 0, DISPLAY, Z, 0, 5, DISPLAY, 2, 0, 0, DISPLAY, 3, 0, 0);
        due("the output", shown(p), "-123 7A,* - 12.3");
        due("the storage stays", stored(p, 0, 36), "-123       7        A,*       - 12.3");
    }

    // Terms: "ARITHMETIC: x and y are numbers, x also 16; the exact result is cut towards zero (ROUNDED: the nearest, halves away
    // from zero) to the decimals of y and stored there, and SIZE is false".
    private static void arithmetic() {
        int[][] rows = {{ADD, 5, 530}, {SUBTRACT, 5, -470}, {MULTIPLY, 5, 150}, {DIVIDE, 7, 4}, {DIVIDE_R, 7, 4}, {DIVIDE, 11, 2},
            {DIVIDE_R, 11, 3}, {DIVIDE, -11, -2}, {DIVIDE_R, -11, -3}, {DIVIDE, 20, 1}, {DIVIDE_R, 20, 2}, {DIVIDE, -20, -1},
            {DIVIDE_R, -20, -2}};
        for (int[] row : rows) {
            LedgerProgram p = new LedgerProgram();
            p.number(0, 0, 5, 2, true, 1);
            put(p, 0, "+00030");
            due("run", runLines(p, DIVIDE, Z, 0, 0, row[0], Z, 0, row[1]), OK);
            due("0.30, op " + row[0] + ", " + row[1], p.value(0, 1), row[2]);
            due("SIZE", p.size(), false);
        }
    }

    // Terms: "but if the digits of y before the point are too few for it, or x is 0 in DIVIDE, y stays and SIZE is true."
    private static void sizeError() {
        int[][] rows = {{ADD, 90, 1}, {ADD, 89, 0}, {SUBTRACT, 110, 1}, {SUBTRACT, 109, 0}, {MULTIPLY, 10, 1}, {MULTIPLY, 9, 0},
            {DIVIDE, 0, 1}, {DIVIDE, 1, 0}, {ADD_R, 90, 1}, {SUBTRACT_R, 110, 1}, {MULTIPLY_R, -10, 1}, {DIVIDE_R, 0, 1}};
        for (int[] row : rows) {
            LedgerProgram p = new LedgerProgram();
            p.number(0, 0, 3, 1, true, 1);
            put(p, 0, " 10Z");
            due("run", runLines(p, row[0], Z, 0, row[1]), OK);
            boolean size = row[2] == 1;
            due("10.0, op " + row[0] + ", " + row[1] + ", SIZE", p.size(), size);
            due("y stays", stored(p, 0, 4).equals(" 10Z"), size);
        }
    }

    // Terms: "IF compares values if neither is a text (16 only as x is not allowed; edited ones are no operands of it)".
    private static void operandsOfIf() {
        LedgerProgram p = marked();
        p.edited(4, 20, picture("21"), 1);
        due("16 as x", fault(p, PARAGRAPH, 0, 0, 0, IF, Z, 0, 1, END, 0, 0, 0), 1);
        due("edited as x", fault(p, PARAGRAPH, 0, 0, 0, IF, 4, 0, 1, END, 0, 0, 0), 1);
        due("edited as y", fault(p, PARAGRAPH, 0, 0, 0, IF, 0, 4, 1, END, 0, 0, 0), 1);
        due("a number and a text", fault(p, PARAGRAPH, 0, 0, 0, IF, 0, 1, 1, END, 0, 0, 0), -1);
    }

    // Terms: "What follows up to ELSE or END is carried out if it is true, else what is between ELSE and END".
    private static void branches() {
        for (int y = 0; y <= 1; y++) {
            LedgerProgram p = marked();
            int relation = y == 0 ? 1 : 4;
            runLines(p, IF, 0, 0, relation, DISPLAY, 1, 0, 0, END, 0, 0, 0, DISPLAY, 3, 0, 0);
            due("without ELSE", shown(p), y == 0 ? "13" : "3");
            due("its steps", p.steps(), y == 0 ? 5 : 3);
            runLines(p, IF, 0, 0, relation, DISPLAY, 1, 0, 0, ELSE, 0, 0, 0, DISPLAY, 2, 0, 0, END, 0, 0, 0, DISPLAY, 3, 0, 0);
            due("with ELSE", shown(p), y == 0 ? "13" : "23");
            due("its steps", p.steps(), 5);
            runLines(p, IF, 0, 0, relation, IF, 0, 0, 4, DISPLAY, 1, 0, 0, ELSE, 0, 0, 0, DISPLAY, 2, 0, 0, END, 0, 0, 0,
                ELSE, 0, 0, 0, IF, 0, 0, 1, DISPLAY, 1, 0, 0, ELSE, 0, 0, 0, DISPLAY, 2, 0, 0, END, 0, 0, 0, END, 0, 0, 0,
                DISPLAY, 3, 0, 0);
            due("one in another", shown(p), y == 0 ? "23" : "13");
        }
    }

    // Terms: "It is over (OK) at STOP or at the end of the program".
    private static void runIsOver() {
        LedgerProgram p = marked();
        due("at STOP", runLines(p, DISPLAY, 1, 0, 0, STOP, 0, 0, 0, DISPLAY, 2, 0, 0), OK);
        due("what was shown", shown(p), "1");
        due("its steps", p.steps(), 3);
        due("at the end", runLines(p, DISPLAY, 1, 0, 0, DISPLAY, 2, 0, 0), OK);
        due("what was shown", shown(p), "12");
        due("its steps", p.steps(), 3);
        due("at STOP in what is performed", runAll(p, PARAGRAPH, 0, 0, 0, PERFORM, 1, 1, 9, DISPLAY, 1, 0, 0, PARAGRAPH, 0, 0, 0,
            DISPLAY, 2, 0, 0, IF_SIZE, 0, 0, 0, ELSE, 0, 0, 0, STOP, 0, 0, 0, END, 0, 0, 0), OK);
        due("what was shown", shown(p), "2");
        due("at the end behind a jump", runLines(p, IF_SIZE, 0, 0, 0, DISPLAY, 1, 0, 0, END, 0, 0, 0), OK);
        due("its steps", p.steps(), 2);
    }

    // Promise 2: "Item becomes a NUMBER of that many digits and decimals at a place, times (1..9) one behind the other: true";
    // promise 3: "Item becomes a TEXT: true"; promise 4: "Item becomes EDITED".
    private static void itemBecomes() {
        LedgerProgram p = new LedgerProgram();
        put(p, 0, "-12+34-56 A7");
        due("number", p.number(5, 0, 2, 1, true, 3), true);
        due("its first", p.value(5, 1), -12);
        due("its third", p.value(5, 3), -56);
        due("text", p.text(5, 1, 4, 2), true);
        due("its first", p.value(5, 1), 123);
        due("its second", p.value(5, 2), 456);
        due("no third", p.value(5, 3), -1);
        due("edited", p.edited(5, 0, picture("611"), 3), true);
        due("its first", p.value(5, 1), -12);
        due("its second", p.value(5, 2), 34);
        due("its third", p.value(5, 3), -56);
        due("a number again", p.number(5, 9, 3, 0, false, 1), true);
        due("its only one", p.value(5, 1), 7);
        due("no second", p.value(5, 2), -1);
        due("the storage stays", stored(p, 0, 13), "-12+34-56 A7 ");
    }

    // Promise 4: "the signs of its picture being the digits base 8 of picture, the last one the lowest: true; false likewise, if
    // picture is not as said."
    private static void pictureIsAsSaid() {
        LedgerProgram p = new LedgerProgram();
        due("7, 2, 1, 5, 1", p.edited(0, 0, ((((7 * 8 + 2) * 8 + 1) * 8 + 5) * 8) + 1, 1), true);
        runLines(p, MOVE, Z, 0, 3);
        due("in that order", stored(p, 0, 6), "+ 3.0 ");
        due("5, 1, 7", p.edited(1, 0, (5 * 8 + 1) * 8 + 7, 1), false);
        due("not an item", p.value(1, 1), -1);
    }

    // Promise 5: "Puts a character into a place: true".
    private static void pokePuts() {
        LedgerProgram p = new LedgerProgram();
        for (int at = 0; at < 96; at++) {
            due("poke", p.poke(at, (at * 5 + 1) % 42), true);
        }
        for (int at = 0; at < 96; at++) {
            due("peek", p.peek(at), (at * 5 + 1) % 42);
        }
    }

    // Promise 6: "Appends an instruction; what was checked is no more. Answers its number".
    private static void addAppends() {
        LedgerProgram p = marked();
        due("the first", p.add(PARAGRAPH, 0, 0, 0), 0);
        due("the second", p.add(DISPLAY, 1, 0, 0), 1);
        due("check", p.check(), true);
        due("the third", p.add(DISPLAY, 2, 0, 0), 2);
        due("no more checked", p.run(), UNCHECKED);
        due("check", p.check(), true);
        due("run", p.run(), OK);
        due("in their order", shown(p), "12");
    }

    // Promise 7: "Takes all instructions away; answers how many there were. What was checked is no more."
    private static void dropUnchecks() {
        LedgerProgram p = marked();
        runLines(p, DISPLAY, 1, 0, 0, DISPLAY, 2, 0, 0);
        due("drop", p.drop(), 3);
        due("no more checked", p.run(), UNCHECKED);
        due("what was shown", shown(p), "12");
        p.add(PARAGRAPH, 0, 0, 0);
        p.check();
        due("run", p.run(), OK);
        due("nothing of the old ones", p.steps(), 1);
    }

    // Promise 8: "Checks the program: true, and it can be run, if there is no fault."
    private static void checkAnswers() {
        LedgerProgram p = marked();
        write(p, PARAGRAPH, 0, 0, 0, IF_SIZE, 0, 0, 0);
        due("with a fault", p.check(), false);
        due("cannot be run", p.run(), UNCHECKED);
        p.add(END, 0, 0, 0);
        due("not checked", p.run(), UNCHECKED);
        due("without a fault", p.check(), true);
        due("the storage stays", stored(p, 0, 13), "+00       123");
        due("can be run", p.run(), OK);
        due("and again", p.run(), OK);
    }

    // Promise 10: "Runs the program; UNCHECKED, and nothing changes, if it is not checked."
    private static void runAnswers() {
        LedgerProgram p = marked();
        p.number(4, 20, 1, 0, false, 2);
        due("OK", runLines(p, ADD, Z, 0, 1), OK);
        due("it was run", p.value(0, 1), 1);
        due("LONG", runLines(p, GO_TO, 0, 0, 0), LedgerProgram.LONG);
        due("RANGE", runLines(p, SET_INDEX, Z, 0, 3, DISPLAY, 4, 0, 0), LedgerProgram.RANGE);
        due("DEEP", runLines(p, PERFORM, 0, 0, 1), LedgerProgram.DEEP);
        p.add(ADD, Z, 0, 1);
        due("UNCHECKED", p.run(), UNCHECKED);
        due("nothing changes", p.value(0, 1), 1);
    }

    // Promise 11: "The steps of the latest run"; promise 12: "INDEX after it"; promise 13: "SIZE after it".
    private static void answersAfterARun() {
        LedgerProgram p = marked();
        runLines(p, CHANGE_INDEX, 0, 0, 41, DIVIDE, Z, 0, 0);
        due("steps", p.steps(), 3);
        due("index", p.index(), 42);
        due("size", p.size(), true);
        runLines(p, CHANGE_INDEX, 0, 0, -41);
        due("steps of the next", p.steps(), 2);
        due("index after it", p.index(), -40);
        due("size after it", p.size(), false);
    }

    // Promise 14: "The character at a place of the storage"; promise 15: "The value of number k (from 1 on) of an item's table,
    // without its point (as a whole number of its last decimals)".
    private static void peekAndValue() {
        LedgerProgram p = new LedgerProgram();
        p.number(0, 0, 3, 3, true, 3);
        p.number(1, 0, 3, 0, true, 3);
        p.edited(2, 0, picture("6151"), 3);
        p.text(3, 0, 4, 3);
        put(p, 0, "-1.2+345-678");
        long[][] values = {{-102, 345, -678}, {-102, 345, -678}, {-12, 345, -678}, {12, 345, 678}};
        for (int item = 0; item < 4; item++) {
            for (int k = 1; k <= 3; k++) {
                due("item " + item + ", " + k, p.value(item, k), values[item][k - 1]);
            }
        }
        for (int at = 0; at < 12; at++) {
            due("peek " + at, p.peek(at), CHARACTERS.indexOf("-1.2+345-678".charAt(at)));
        }
    }

    // Promise 16: "Character k (0 first) of the OUTPUT of the latest run"; promise 17: "How many characters the latest run
    // displayed."
    private static void outputAndDisplayed() {
        LedgerProgram p = marked();
        runLines(p, DISPLAY, 1, 0, 0, DISPLAY, 0, 0, 0, DISPLAY, Z, 0, 9, DISPLAY, 2, 0, 0);
        int[] want = {1, 12, 0, 0, 2};
        for (int k = 0; k < want.length; k++) {
            due("output " + k, p.output(k), want[k]);
        }
        due("displayed", p.displayed(), want.length);
        runLines(p, DISPLAY, 3, 0, 0);
        due("output of the next", p.output(0), 3);
        due("no more of the one before", p.output(1), -1);
        due("displayed by the next", p.displayed(), 1);
    }

    // The example that README.md gives.
    private static void exampleOfReadme() {
        LedgerProgram p = new LedgerProgram();
        p.number(0, 0, 5, 2, true, 1);
        p.edited(1, 10, 06221511, 1);
        p.add(0, 0, 0, 0);
        p.add(1, 16, 0, -123);
        p.add(9, 16, 0, 7);
        p.add(1, 0, 1, 0);
        p.add(19, 1, 0, 0);
        due("check", p.check(), true);
        due("run", p.run(), OK);
        due("the value", p.value(0, 1), -1757);
        due("the output", shown(p), "- 17.57");
    }
}
