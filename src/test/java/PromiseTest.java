/** Goes through the promises of the document, one method or more for each. */
public final class PromiseTest extends Bench {
    public static void main(String[] args) {
        newObject();
        numberItems();
        textItems();
        editedItems();
        poking();
        adding();
        dropping();
        checkingOperands();
        checkingParagraphs();
        checkingIfs();
        whatUnchecks();
        storingInNumbers();
        storingInEdited();
        editingByPicture();
        movingToText();
        movingOverlaps();
        valuesOfItems();
        addingAndSubtracting();
        multiplyingAndDividing();
        sizeErrors();
        exactAtTheEdges();
        comparingValues();
        comparingCharacters();
        numeric();
        branches();
        performing();
        performsInside();
        goingTo();
        varying();
        deep();
        longRuns();
        tables();
        indexes();
        displaying();
        tallying();
        runningAgain();
        finish();
    }

    // Promise 1

    private static void newObject() {
        LedgerProgram p = new LedgerProgram();
        for (int i = 0; i < 96; i++) {
            due("a new peek", p.peek(i), 10);
        }
        for (int i = 0; i < 12; i++) {
            due("a new value", p.value(i, 1), -1);
        }
        due("a new run", p.run(), LedgerProgram.UNCHECKED);
        due("a new steps", p.steps(), 0);
        due("a new index", p.index(), 1);
        due("a new size", p.size(), false);
        due("a new place", p.place(), -1);
        due("a new output", p.output(0), -1);
        due("a new displayed", p.displayed(), 0);
        due("a new drop", p.drop(), 0);
        due("a new check", p.check(), false);
        due("its place", p.place(), 0);
        LedgerProgram other = new LedgerProgram();
        p.poke(3, 3);
        p.number(0, 0, 4, 0, false, 1);
        due("another object's storage", other.peek(3), 10);
        due("another object's item", other.value(0, 1), -1);
    }

    // Promises 2 to 5

    private static void numberItems() {
        LedgerProgram p = new LedgerProgram();
        due("item 0", p.number(0, 0, 1, 0, false, 1), true);
        due("item 11", p.number(11, 0, 9, 9, true, 1), true);
        due("item -1", p.number(-1, 0, 1, 0, false, 1), false);
        due("item 12", p.number(12, 0, 1, 0, false, 1), false);
        due("item 16", p.number(16, 0, 1, 0, false, 1), false);
        due("item least", p.number(Integer.MIN_VALUE, 0, 1, 0, false, 1), false);
        due("digits 0", p.number(1, 0, 0, 0, false, 1), false);
        due("digits 10", p.number(1, 0, 10, 0, false, 1), false);
        due("digits greatest", p.number(1, 0, Integer.MAX_VALUE, 0, true, 1), false);
        due("decimals -1", p.number(1, 0, 3, -1, false, 1), false);
        due("decimals over", p.number(1, 0, 3, 4, false, 1), false);
        due("times 0", p.number(1, 0, 3, 0, false, 0), false);
        due("times 10", p.number(1, 0, 1, 0, false, 10), false);
        due("times greatest", p.number(1, 0, 9, 0, true, Integer.MAX_VALUE), false);
        due("at -1", p.number(1, -1, 3, 0, false, 1), false);
        due("at least", p.number(1, Integer.MIN_VALUE, 3, 0, false, 1), false);
        due("at greatest", p.number(1, Integer.MAX_VALUE, 3, 0, false, 1), false);
        due("at the end", p.number(1, 93, 3, 0, false, 1), true);
        due("over the end", p.number(2, 94, 3, 0, false, 1), false);
        due("the sign needs a place", p.number(2, 93, 3, 0, true, 1), false);
        due("a whole table", p.number(2, 6, 9, 0, true, 9), true);
        due("a table over the end", p.number(3, 7, 9, 0, true, 9), false);
        due("a refused item is not there", p.value(3, 1), -1);
        put(p, 0, "123456789");
        p.number(4, 0, 3, 2, false, 3);
        due("the third", p.value(4, 3), 789);
        due("a refusal keeps what was", p.number(4, 0, 10, 0, false, 1), false);
        due("the third still", p.value(4, 3), 789);
        due("the storage stays", stored(p, 0, 10), "123456789 ");
        p.number(4, 1, 2, 0, false, 1);
        due("laid anew", p.value(4, 1), 23);
        due("laid anew, no third", p.value(4, 3), -1);
    }

    private static void textItems() {
        LedgerProgram p = new LedgerProgram();
        due("length 12", p.text(0, 84, 12, 1), true);
        due("over the end", p.text(1, 85, 12, 1), false);
        due("length 13", p.text(1, 0, 13, 1), false);
        due("length 0", p.text(1, 0, 0, 1), false);
        due("item 12", p.text(12, 0, 1, 1), false);
        due("item -1", p.text(-1, 0, 1, 1), false);
        due("times 0", p.text(1, 0, 1, 0), false);
        due("times 10", p.text(1, 0, 1, 10), false);
        due("at -1", p.text(1, -1, 1, 1), false);
        due("eight of twelve", p.text(1, 0, 12, 8), true);
        due("nine of twelve", p.text(2, 0, 12, 9), false);
        due("refused", p.value(2, 1), -1);
        put(p, 0, "A1B2");
        p.number(3, 0, 2, 1, true, 1);
        p.text(3, 0, 4, 1);
        due("a text where a number was", p.value(3, 1), 12);
    }

    private static void editedItems() {
        LedgerProgram p = new LedgerProgram();
        String[] good = {"1", "2", "3", "61", "71", "41", "14", "15", "51", "2341", "32151", "74243151", "22222222",
            "11111111", "1541", "4451", "62", "23", "32", "2454"};
        String[] bad = {"4", "5", "6", "7", "45", "12", "13", "52", "53", "152", "1551", "515", "16", "17", "661", "671",
            "761", "101", "202", "10", "414243", "111111111", "622222222"};
        for (String signs : good) {
            due("picture " + signs, p.edited(0, 0, picture(signs), 1), true);
        }
        for (String signs : bad) {
            due("picture " + signs, p.edited(0, 0, picture(signs), 1), false);
        }
        due("picture 0", p.edited(0, 0, 0, 1), false);
        due("picture -1", p.edited(0, 0, -1, 1), false);
        due("picture least", p.edited(0, 0, Integer.MIN_VALUE, 1), false);
        due("picture greatest", p.edited(0, 0, Integer.MAX_VALUE, 1), false);
        due("item 12", p.edited(12, 0, 1, 1), false);
        due("item -1", p.edited(-1, 0, 1, 1), false);
        due("times 0", p.edited(1, 0, 1, 0), false);
        due("times 10", p.edited(1, 0, 1, 10), false);
        due("at -1", p.edited(1, -1, 1, 1), false);
        due("at the end", p.edited(1, 94, picture("21"), 1), true);
        due("over the end", p.edited(1, 95, picture("21"), 1), false);
        due("a table", p.edited(1, 24, picture("22222221"), 9), true);
        due("a table over the end", p.edited(1, 25, picture("22222221"), 9), false);
    }

    private static void poking() {
        LedgerProgram p = new LedgerProgram();
        due("poke 0 0", p.poke(0, 0), true);
        due("poke 95 41", p.poke(95, 41), true);
        due("poke -1", p.poke(-1, 5), false);
        due("poke 96", p.poke(96, 5), false);
        due("poke 42", p.poke(1, 42), false);
        due("poke character -1", p.poke(1, -1), false);
        due("peek 0", p.peek(0), 0);
        due("peek 95", p.peek(95), 41);
        due("peek 1", p.peek(1), 10);
        due("peek -1", p.peek(-1), -1);
        due("peek 96", p.peek(96), -1);
        due("peek greatest", p.peek(Integer.MAX_VALUE), -1);
        due("peek least", p.peek(Integer.MIN_VALUE), -1);
    }

    // Promises 6 and 7

    private static void adding() {
        LedgerProgram p = new LedgerProgram();
        due("op -1", p.add(-1, 0, 0, 0), -1);
        due("op 23", p.add(23, 0, 0, 0), -1);
        due("op greatest", p.add(Integer.MAX_VALUE, 0, 0, 0), -1);
        for (int i = 0; i < 48; i++) {
            due("add", p.add(i % 23, 99, -99, i), i);
        }
        due("the 49th", p.add(PARAGRAPH, 0, 0, 0), -1);
        due("drop", p.drop(), 48);
        for (int i = 0; i < 48; i++) {
            p.add(PARAGRAPH, 0, 0, 0);
        }
        due("48 paragraphs", p.check(), true);
        due("refused", p.add(PARAGRAPH, 0, 0, 0), -1);
        due("still checked", p.run(), LedgerProgram.OK);
        due("steps", p.steps(), 48);
    }

    private static void dropping() {
        LedgerProgram p = new LedgerProgram();
        p.number(0, 0, 2, 0, false, 1);
        runLines(p, MOVE, Z, 0, 42);
        due("drop", p.drop(), 2);
        due("run after drop", p.run(), LedgerProgram.UNCHECKED);
        due("steps after drop", p.steps(), 2);
        due("items stay", p.value(0, 1), 42);
        due("place stays", p.place(), -1);
        due("drop again", p.drop(), 0);
        due("numbers begin again", p.add(PARAGRAPH, 0, 0, 0), 0);
    }

    // Promises 8 to 10

    private static LedgerProgram sorts() {
        LedgerProgram p = new LedgerProgram();
        p.number(0, 0, 4, 2, true, 1);
        p.number(1, 5, 2, 0, false, 1);
        p.text(2, 10, 4, 1);
        p.edited(3, 20, picture("2151"), 1);
        return p;
    }

    /** Looks at one instruction with every operand: which of the sorts is good as x, with y good. */
    private static void operand(int op, boolean asY, int other, int z, String good) {
        LedgerProgram p = sorts();
        int[] tried = {0, 1, 2, 3, 4, 11, 12, 15, Z, 17, -1, Integer.MAX_VALUE, Integer.MIN_VALUE};
        String sorts = "nnte----z----";
        for (int i = 0; i < tried.length; i++) {
            int x = asY ? other : tried[i];
            int y = asY ? tried[i] : other;
            p.drop();
            write(p, PARAGRAPH, 0, 0, 0, op, x, y, z);
            if (op == IF || op == IF_NUMERIC) {
                p.add(END, 0, 0, 0);
            }
            boolean fine = good.indexOf(sorts.charAt(i)) >= 0;
            due("op " + op + " with " + x + " and " + y, p.check(), fine);
            due("its place", p.place(), fine ? -1 : 1);
        }
    }

    private static void checkingOperands() {
        operand(MOVE, false, 0, 0, "ntez");
        operand(MOVE, true, 0, 0, "nte");
        for (int op = ADD; op <= DIVIDE_R; op++) {
            operand(op, false, 0, 1, "nz");
            operand(op, true, 1, 1, "n");
        }
        operand(IF, false, 0, 5, "nt");
        operand(IF, true, 2, 0, "nt");
        operand(IF_NUMERIC, false, -5, 77, "nt");
        operand(DISPLAY, false, -5, 77, "ntez");
        operand(SET_INDEX, false, -5, 77, "nz");
        operand(TALLY, false, 1, 77, "nte");
        operand(TALLY, true, 3, -77, "n");
        LedgerProgram p = sorts();
        due("relation 6", fault(p, PARAGRAPH, 0, 0, 0, IF, 0, 1, 6, END, 0, 0, 0), 1);
        due("relation -1", fault(p, PARAGRAPH, 0, 0, 0, IF, 0, 1, -1, END, 0, 0, 0), 1);
        for (int relation = 0; relation <= 5; relation++) {
            due("relation", fault(p, PARAGRAPH, 0, 0, 0, IF, 0, 1, relation, END, 0, 0, 0), -1);
        }
        due("operands of no use", fault(p, PARAGRAPH, 99, 99, 99, IF_SIZE, 99, 99, 99, ELSE, 99, 99, 99,
            END, 99, 99, 99, CHANGE_INDEX, 99, 99, 99, STOP, 99, 99, 99), -1);
        due("the first of two", fault(p, PARAGRAPH, 0, 0, 0, STOP, 0, 0, 0, MOVE, 0, 9, 0, MOVE, 0, 9, 0), 2);
    }

    private static void checkingParagraphs() {
        LedgerProgram p = sorts();
        due("nothing", fault(p), 0);
        due("no paragraph first", fault(p, STOP, 0, 0, 0, PARAGRAPH, 0, 0, 0), 0);
        due("one paragraph", fault(p, PARAGRAPH, 0, 0, 0), -1);
        for (int op = PERFORM; op <= VARYING; op++) {
            due("x below", fault(p, PARAGRAPH, 0, 0, 0, op, -1, 0, 0), 1);
            due("y above", fault(p, PARAGRAPH, 0, 0, 0, op, 0, 1, 0), 1);
            due("y less", fault(p, PARAGRAPH, 0, 0, 0, PARAGRAPH, 0, 0, 0, op, 1, 0, 0), 2);
            due("a later one", fault(p, PARAGRAPH, 0, 0, 0, op, 0, 2, 0, PARAGRAPH, 0, 0, 0, PARAGRAPH, 0, 0, 0), -1);
            due("z below 1", fault(p, PARAGRAPH, 0, 0, 0, op, 0, 0, Integer.MIN_VALUE), -1);
            due("48 there", fault(p, PARAGRAPH, 0, 0, 0, op, 48, 48, 0), 1);
        }
        due("go to there", fault(p, PARAGRAPH, 0, 0, 0, GO_TO, 1, 9, 9, PARAGRAPH, 0, 0, 0), -1);
        due("go to beyond", fault(p, PARAGRAPH, 0, 0, 0, GO_TO, 2, 0, 0, PARAGRAPH, 0, 0, 0), 1);
        due("go to below", fault(p, PARAGRAPH, 0, 0, 0, GO_TO, -1, 0, 0), 1);
    }

    private static void checkingIfs() {
        LedgerProgram p = sorts();
        int[] ifs = {IF, IF_SIZE, IF_NUMERIC};
        for (int op : ifs) {
            due("closed", fault(p, PARAGRAPH, 0, 0, 0, op, 0, 1, 1, END, 0, 0, 0), -1);
            due("with else", fault(p, PARAGRAPH, 0, 0, 0, op, 0, 1, 1, ELSE, 0, 0, 0, END, 0, 0, 0), -1);
            due("open", fault(p, PARAGRAPH, 0, 0, 0, op, 0, 1, 1), 2);
            due("open else", fault(p, PARAGRAPH, 0, 0, 0, op, 0, 1, 1, ELSE, 0, 0, 0, STOP, 0, 0, 0), 4);
            due("paragraph", fault(p, PARAGRAPH, 0, 0, 0, op, 0, 1, 1, PARAGRAPH, 0, 0, 0, END, 0, 0, 0), 2);
            due("paragraph in else",
                fault(p, PARAGRAPH, 0, 0, 0, op, 0, 1, 1, ELSE, 0, 0, 0, PARAGRAPH, 0, 0, 0, END, 0, 0, 0), 3);
        }
        due("else outside", fault(p, PARAGRAPH, 0, 0, 0, ELSE, 0, 0, 0), 1);
        due("end outside", fault(p, PARAGRAPH, 0, 0, 0, END, 0, 0, 0), 1);
        due("else behind", fault(p, PARAGRAPH, 0, 0, 0, IF_SIZE, 0, 0, 0, END, 0, 0, 0, ELSE, 0, 0, 0), 3);
        due("second else", fault(p, PARAGRAPH, 0, 0, 0, IF_SIZE, 0, 0, 0, ELSE, 0, 0, 0, ELSE, 0, 0, 0, END, 0, 0, 0), 3);
        due("else inside and outside", fault(p, PARAGRAPH, 0, 0, 0, IF_SIZE, 0, 0, 0, IF_SIZE, 0, 0, 0, ELSE, 0, 0, 0,
            END, 0, 0, 0, ELSE, 0, 0, 0, IF_SIZE, 0, 0, 0, ELSE, 0, 0, 0, END, 0, 0, 0, END, 0, 0, 0), -1);
        for (int depth = 8; depth <= 9; depth++) {
            p.drop();
            p.add(PARAGRAPH, 0, 0, 0);
            for (int i = 0; i < depth; i++) {
                p.add(IF_SIZE, 0, 0, 0);
            }
            for (int i = 0; i < depth; i++) {
                p.add(END, 0, 0, 0);
            }
            due("nested " + depth, p.check(), depth == 8);
            due("place", p.place(), depth == 8 ? -1 : 9);
        }
        p.drop();
        p.add(PARAGRAPH, 0, 0, 0);
        for (int i = 0; i < 12; i++) {
            write(p, IF_SIZE, 0, 0, 0, END, 0, 0, 0);
        }
        due("twelve side by side", p.check(), true);
    }

    private static void whatUnchecks() {
        LedgerProgram p = sorts();
        write(p, PARAGRAPH, 0, 0, 0, MOVE, 0, 1, 0);
        due("not checked", p.run(), LedgerProgram.UNCHECKED);
        due("steps", p.steps(), 0);
        due("check", p.check(), true);
        p.poke(0, 5);
        due("a poke is no change", p.run(), LedgerProgram.OK);
        due("run again", p.run(), LedgerProgram.OK);
        due("refused", p.number(0, 0, 0, 0, false, 1) || p.text(0, 0, 0, 1) || p.edited(0, 0, 0, 1), false);
        due("refused, still checked", p.run(), LedgerProgram.OK);
        p.number(8, 0, 1, 0, false, 1);
        due("number unchecks", p.run(), LedgerProgram.UNCHECKED);
        p.check();
        p.text(8, 0, 1, 1);
        due("text unchecks", p.run(), LedgerProgram.UNCHECKED);
        p.check();
        p.edited(8, 0, 1, 1);
        due("edited unchecks", p.run(), LedgerProgram.UNCHECKED);
        p.check();
        p.add(MOVE, 0, 9, 0);
        due("add unchecks", p.run(), LedgerProgram.UNCHECKED);
        due("place of the check before", p.place(), -1);
        due("a fault", p.check(), false);
        due("run with a fault", p.run(), LedgerProgram.UNCHECKED);
        due("place", p.place(), 2);
        p.drop();
        due("place stays", p.place(), 2);
        due("what the latest run said stays", p.steps(), 2);
    }

    // Values, storing and moves (promises 10, 14 and 15)

    private static void storingInNumbers() {
        LedgerProgram p = new LedgerProgram();
        p.number(0, 0, 5, 2, true, 1);
        p.number(1, 10, 3, 0, false, 1);
        p.number(2, 20, 3, 3, true, 1);
        p.number(3, 30, 9, 9, false, 1);
        runLines(p, MOVE, Z, 0, 12345);
        due("lost on the left", stored(p, 0, 6), "+34500");
        runLines(p, MOVE, Z, 0, -12);
        due("below 0", stored(p, 0, 6), "-01200");
        runLines(p, MOVE, Z, 0, -5000);
        due("nothing left is not below 0", stored(p, 0, 6), "+00000");
        runLines(p, MOVE, Z, 1, -1234);
        due("without its sign", stored(p, 10, 3), "234");
        runLines(p, MOVE, Z, 2, -77);
        due("only decimals", stored(p, 20, 4), "+000");
        runLines(p, MOVE, Z, 3, Integer.MIN_VALUE);
        due("only decimals of the least", stored(p, 30, 9), "000000000");
        put(p, 0, "-98765");
        runLines(p, MOVE, 0, 1, 0);
        due("decimals lost", stored(p, 10, 3), "987");
        runLines(p, MOVE, 0, 2, 0);
        due("aligned", stored(p, 20, 4), "-650");
        put(p, 0, "-00065");
        runLines(p, MOVE, 0, 1, 0);
        due("all lost", stored(p, 10, 3), "000");
        p.number(4, 40, 9, 0, true, 1);
        runLines(p, MOVE, Z, 4, Integer.MIN_VALUE);
        due("the least", stored(p, 40, 10), "-147483648");
    }

    private static void storingInEdited() {
        LedgerProgram p = new LedgerProgram();
        p.number(0, 0, 6, 3, true, 1);
        p.edited(1, 10, picture("622151"), 1);
        p.edited(2, 20, picture("22151"), 1);
        put(p, 0, "-012987");
        runLines(p, MOVE, 0, 1, 0);
        due("minus, cut", stored(p, 10, 6), "- 12.9");
        due("its value", p.value(1, 1), -129);
        runLines(p, MOVE, 0, 2, 0);
        due("drops the sign", stored(p, 20, 5), " 12.9");
        due("its value", p.value(2, 1), 129);
        put(p, 0, "-000087");
        runLines(p, MOVE, 0, 1, 0);
        due("what is stored is 0", stored(p, 10, 6), "   0.0");
        runLines(p, MOVE, Z, 1, -7000);
        due("lost on the left", stored(p, 10, 6), "   0.0");
        runLines(p, MOVE, Z, 1, 12345);
        due("lost on the left too", stored(p, 10, 6), " 345.0");
    }

    private static void edits(String signs, int v, String want) {
        LedgerProgram p = new LedgerProgram();
        due("picture", p.edited(0, 40, picture(signs), 1), true);
        runLines(p, MOVE, Z, 0, v);
        due(signs + " of " + v, stored(p, 40, signs.length()), want);
    }

    private static void editingByPicture() {
        edits("111", 5, "005");
        edits("222", 0, "   ");
        edits("222", 5, "  5");
        edits("222", 50, " 50");
        edits("333", 7, "**7");
        edits("333", 0, "***");
        edits("233", 0, " **");
        edits("323", 0, "* *");
        edits("221", 0, "  0");
        edits("2422", 1234, "2,34");
        edits("2422", 34, "  34");
        edits("3433", 4, "***4");
        edits("2433", 4, "  *4");
        edits("3422", 4, "** 4");
        edits("4222", 123, " 123");
        edits("1411", 0, "0,00");
        edits("2141", 0, " 0,0");
        edits("44211", 0, "   00");
        edits("21454", 3, " 3,.,");
        edits("2454", 0, "  . ");
        edits("3454", 0, "**.*");
        edits("2454", 6, "6,.,");
        edits("25411", 0, " . 00");
        edits("35411", 0, "*.*00");
        edits("51", 7, ".0");
        edits("622", -5, "- 5");
        edits("622", 5, "  5");
        edits("722", -5, "- 5");
        edits("722", 5, "+ 5");
        edits("722", 0, "+  ");
        edits("7422", -5, "-  5");
        edits("7422", -100, "+   ");
        edits("64333151", -1234, "- 1234.0");
        edits("64333151", -34, "- **34.0");
    }

    private static void movingToText() {
        LedgerProgram p = new LedgerProgram();
        p.text(0, 0, 4, 1);
        p.text(1, 10, 12, 1);
        p.number(2, 30, 3, 1, true, 1);
        p.edited(3, 40, picture("7211"), 1);
        p.text(4, 50, 2, 1);
        put(p, 0, "AB C");
        runLines(p, MOVE, 0, 1, 0);
        due("text to text", stored(p, 10, 12), "AB C        ");
        runLines(p, MOVE, 0, 4, 0);
        due("from the left on", stored(p, 50, 2), "AB");
        put(p, 30, "-123");
        runLines(p, MOVE, 2, 0, 0);
        due("a number without its sign", stored(p, 0, 4), "123 ");
        put(p, 30, "-1Z ");
        runLines(p, MOVE, 2, 0, 0);
        due("its characters as they are", stored(p, 0, 4), "1Z  ");
        put(p, 40, "-  7");
        runLines(p, MOVE, 3, 0, 0);
        due("an edited one with its sign", stored(p, 0, 4), "-  7");
        runLines(p, MOVE, Z, 0, 0);
        due("0 is one digit", stored(p, 0, 4), "0   ");
        runLines(p, MOVE, Z, 0, -98);
        due("16 without its sign", stored(p, 0, 4), "98  ");
        runLines(p, MOVE, Z, 0, 123456);
        due("16 from the left on", stored(p, 0, 4), "1234");
        runLines(p, MOVE, Z, 1, Integer.MIN_VALUE);
        due("the least", stored(p, 10, 12), "2147483648  ");
        runLines(p, MOVE, Z, 1, Integer.MAX_VALUE);
        due("the greatest", stored(p, 10, 12), "2147483647  ");
        runLines(p, MOVE, Z, 1, 1000);
        due("zeros behind", stored(p, 10, 12), "1000        ");
    }

    private static void movingOverlaps() {
        LedgerProgram p = new LedgerProgram();
        p.text(0, 0, 6, 1);
        p.text(1, 2, 6, 1);
        p.number(2, 0, 4, 0, true, 1);
        p.number(3, 2, 4, 1, true, 1);
        put(p, 0, "ABCDEFGH");
        runLines(p, MOVE, 0, 1, 0);
        due("to the right over itself", stored(p, 0, 8), "ABABCDEF");
        put(p, 0, "ABCDEFGH");
        runLines(p, MOVE, 1, 0, 0);
        due("to the left over itself", stored(p, 0, 8), "CDEFGHGH");
        put(p, 0, "-1234   ");
        runLines(p, MOVE, 2, 3, 0);
        due("a number over itself", stored(p, 0, 8), "-1-2340 ");
        put(p, 0, "-1234   ");
        runLines(p, MOVE, 2, 0, 0);
        due("a number to the text over it", stored(p, 0, 8), "1234    ");
        put(p, 0, "-12A4");
        runLines(p, MOVE, 2, 2, 0);
        due("to itself", stored(p, 0, 5), "-1204");
    }

    private static void valuesOfItems() {
        LedgerProgram p = new LedgerProgram();
        p.number(0, 0, 4, 2, true, 2);
        p.number(1, 0, 5, 0, false, 1);
        p.text(2, 0, 12, 1);
        p.edited(3, 0, picture("622151"), 1);
        due("spaces", p.value(0, 1), 0);
        put(p, 0, "-1 3A+00209Z");
        due("no digit counts as 0", p.value(0, 1), -1030);
        due("the second", p.value(0, 2), 20);
        due("k 0", p.value(0, 0), -1);
        due("k 3", p.value(0, 3), -1);
        due("k least", p.value(0, Integer.MIN_VALUE), -1);
        due("item -1", p.value(-1, 1), -1);
        due("item 12", p.value(12, 1), -1);
        due("an item that is not there", p.value(4, 1), -1);
        due("not signed", p.value(1, 1), 1030);
        due("digits of a text", p.value(2, 1), 1300209);
        due("digits of an edited one", p.value(3, 1), -13);
        put(p, 0, "  1-23");
        due("minus anywhere", p.value(3, 1), -123);
        put(p, 0, "+00-12");
        due("minus is no sign of a number there", p.value(0, 1), 1);
        put(p, 0, "123456789012");
        due("the last nine", p.value(2, 1), 456789012);
        p.number(5, 20, 4, 1, true, 1);
        put(p, 0, "  2.1-");
        runLines(p, MOVE, 3, 5, 0);
        due("an edited value moved", stored(p, 20, 5), "-0021");
        put(p, 0, "A1234567890Z");
        p.number(6, 30, 9, 0, true, 1);
        runLines(p, MOVE, 2, 6, 0);
        due("a text value moved", stored(p, 30, 10), "+234567890");
        runLines(p, MOVE, 2, 5, 0);
        due("a text has no decimals", stored(p, 20, 5), "+8900");
        put(p, 20, "Z0012");
        due("a sign that is none", p.value(5, 1), 12);
    }

    // Arithmetic (promises 10 and 13)

    private static void arith(int op, String left, int leftDecimals, String right, int rightDecimals, String want) {
        LedgerProgram p = new LedgerProgram();
        p.number(0, 0, left.length() - 1, leftDecimals, true, 1);
        p.number(1, 20, right.length() - 1, rightDecimals, true, 1);
        put(p, 0, left);
        put(p, 20, right);
        due("run", runLines(p, op, 1, 0, 0), LedgerProgram.OK);
        String what = "op " + op + " of " + left + "/" + leftDecimals + " and " + right + "/" + rightDecimals;
        due(what, stored(p, 0, left.length()), want.equals("size") ? left : want);
        due(what + " size", p.size(), want.equals("size"));
        due(what + " keeps x", stored(p, 20, right.length()), right);
    }

    private static void addingAndSubtracting() {
        arith(ADD, "+0100", 2, "+0025", 2, "+0125");
        arith(ADD, "+0100", 2, "+0025", 0, "+2600");
        arith(ADD, "+0100", 2, "+0019", 3, "+0101");
        arith(ADD_R, "+0100", 2, "+0015", 3, "+0102");
        arith(ADD_R, "+0100", 2, "+0014", 3, "+0101");
        arith(ADD, "-0100", 2, "-0019", 3, "-0101");
        arith(ADD_R, "-0100", 2, "-0015", 3, "-0102");
        arith(ADD, "-0001", 2, "+0005", 3, "+0000");
        arith(ADD_R, "-0001", 2, "+0005", 3, "-0001");
        arith(SUBTRACT, "+0100", 2, "+0150", 2, "-0050");
        arith(SUBTRACT, "+0100", 2, "-0150", 2, "+0250");
        arith(SUBTRACT_R, "+0000", 0, "+0005", 1, "-0001");
        arith(SUBTRACT, "+0000", 0, "+0009", 1, "+0000");
        arith(ADD, "+9999", 2, "+0009", 3, "+9999");
        arith(ADD_R, "+9999", 2, "+0005", 3, "size");
        arith(ADD, "+9999", 2, "+0001", 2, "size");
        arith(SUBTRACT, "-9999", 2, "+0001", 2, "size");
        arith(ADD, "+999999999", 9, "+999999999", 0, "size");
        arith(ADD, "+999999999", 0, "+999999999", 9, "+999999999");
        arith(ADD_R, "+999999998", 0, "+999999999", 9, "+999999999");
        LedgerProgram p = new LedgerProgram();
        p.number(0, 0, 3, 0, false, 1);
        runLines(p, MOVE, Z, 0, 3, SUBTRACT, Z, 0, 5);
        due("not signed: without its sign", stored(p, 0, 3), "002");
        due("no size error", p.size(), false);
        runLines(p, MOVE, Z, 0, 3, ADD, 0, 0, 0);
        due("to itself", p.value(0, 1), 6);
    }

    private static void multiplyingAndDividing() {
        arith(MULTIPLY, "+0150", 2, "+0015", 1, "+0225");
        arith(MULTIPLY, "+0333", 2, "-0005", 1, "-0166");
        arith(MULTIPLY_R, "+0333", 2, "-0005", 1, "-0167");
        arith(MULTIPLY, "+0333", 2, "+0000", 1, "+0000");
        arith(MULTIPLY, "-0001", 2, "+0001", 2, "+0000");
        arith(MULTIPLY_R, "-0001", 2, "+0050", 2, "-0001");
        arith(MULTIPLY_R, "-0001", 2, "+0049", 2, "+0000");
        arith(MULTIPLY, "+0100", 0, "+0100", 0, "size");
        arith(MULTIPLY, "+999999999", 9, "+999999999", 9, "+999999998");
        arith(MULTIPLY_R, "+999999999", 9, "+999999999", 9, "+999999998");
        arith(MULTIPLY, "+999999999", 0, "-999999999", 9, "-999999998");
        arith(DIVIDE, "+0100", 2, "+0003", 0, "+0033");
        arith(DIVIDE, "+0200", 2, "+0003", 0, "+0066");
        arith(DIVIDE_R, "+0200", 2, "+0003", 0, "+0067");
        arith(DIVIDE_R, "-0100", 2, "+0003", 0, "-0033");
        arith(DIVIDE, "-0200", 2, "-0003", 0, "+0066");
        arith(DIVIDE_R, "-0200", 2, "+0003", 0, "-0067");
        arith(DIVIDE_R, "+0001", 0, "+0002", 0, "+0001");
        arith(DIVIDE_R, "-0001", 0, "+0002", 0, "-0001");
        arith(DIVIDE, "-0001", 0, "+0002", 0, "+0000");
        arith(DIVIDE, "+0100", 2, "+0025", 2, "+0400");
        arith(DIVIDE, "+0100", 2, "+0025", 3, "+4000");
        arith(DIVIDE, "+0100", 2, "+0025", 4, "size");
        arith(DIVIDE, "+0100", 2, "+0000", 2, "size");
        arith(DIVIDE_R, "+0100", 2, "-0000", 2, "size");
        arith(DIVIDE, "+999999999", 0, "+000000001", 9, "size");
        arith(DIVIDE, "+999999999", 0, "+999999999", 9, "size");
        arith(DIVIDE, "+999999998", 9, "+999999999", 9, "+999999998");
        arith(DIVIDE_R, "+999999998", 9, "+999999999", 9, "+999999999");
        arith(DIVIDE_R, "+999999999", 9, "+999999999", 9, "size");
    }

    private static void sizeErrors() {
        LedgerProgram p = new LedgerProgram();
        p.number(0, 0, 2, 0, true, 1);
        p.text(1, 10, 3, 1);
        runLines(p, MOVE, Z, 0, 99, ADD, Z, 0, 1);
        due("size", p.size(), true);
        due("y stays", p.value(0, 1), 99);
        runLines(p, MOVE, Z, 0, 99, ADD, Z, 0, 1, ADD, Z, 0, 0);
        due("size no more", p.size(), false);
        runLines(p, MOVE, Z, 0, 99, ADD, Z, 0, 1, MOVE, Z, 0, 12345, TALLY, 1, 0, 10);
        due("a move keeps size", p.size(), true);
        due("tally", p.value(0, 1), 3);
        runLines(p, DIVIDE, Z, 0, 0, IF_SIZE, 0, 0, 0, MOVE, Z, 0, 7, ELSE, 0, 0, 0, MOVE, Z, 0, 8, END, 0, 0, 0);
        due("if size", p.value(0, 1), 7);
        runLines(p, DIVIDE, Z, 0, 1, IF_SIZE, 0, 0, 0, MOVE, Z, 0, 7, ELSE, 0, 0, 0, MOVE, Z, 0, 8, END, 0, 0, 0);
        due("if not size", p.value(0, 1), 8);
        put(p, 0, "-A5");
        runLines(p, ADD, Z, 0, 1000);
        due("what stays is not even tidied", stored(p, 0, 3), "-A5");
        runLines(p, ADD, Z, 0, 0);
        due("what is stored is tidied", stored(p, 0, 3), "-05");
    }

    private static void exactAtTheEdges() {
        LedgerProgram p = new LedgerProgram();
        p.number(0, 0, 9, 9, true, 1);
        p.number(1, 20, 9, 0, true, 1);
        put(p, 0, "+999999999");
        runLines(p, ADD, Z, 0, Integer.MIN_VALUE);
        due("the least does not fit", p.size(), true);
        runLines(p, MULTIPLY, Z, 0, Integer.MIN_VALUE);
        due("the least times", p.size(), true);
        put(p, 0, "+000000001");
        runLines(p, MULTIPLY, Z, 0, 999999999);
        due("exact", stored(p, 0, 10), "+999999999");
        put(p, 20, "-999999999");
        runLines(p, DIVIDE, Z, 1, Integer.MIN_VALUE);
        due("by the least", stored(p, 20, 10), "+000000000");
        put(p, 20, "-999999999");
        runLines(p, DIVIDE_R, Z, 1, 1999999998);
        due("a half, away from zero", stored(p, 20, 10), "-000000001");
        put(p, 20, "-999999999");
        runLines(p, DIVIDE_R, Z, 1, 1999999999);
        due("less than a half", stored(p, 20, 10), "+000000000");
        put(p, 0, "-999999999");
        runLines(p, SUBTRACT, Z, 0, Integer.MIN_VALUE);
        due("minus the least", p.size(), true);
        put(p, 20, "+000000000");
        runLines(p, SUBTRACT, Z, 1, Integer.MIN_VALUE);
        due("minus the least, ten digits", p.size(), true);
    }

    // Conditions (promise 10)

    private static String relations(LedgerProgram p, int x, int y) {
        StringBuilder s = new StringBuilder();
        for (int z = 0; z <= 5; z++) {
            runLines(p, IF, x, y, z, STOP, 0, 0, 0, END, 0, 0, 0);
            s.append(p.steps() == 3 ? 'y' : 'n');
        }
        return s.toString();
    }

    private static void comparingValues() {
        LedgerProgram p = new LedgerProgram();
        p.number(0, 0, 4, 2, true, 1);
        p.number(1, 10, 4, 0, false, 1);
        p.number(2, 20, 9, 9, true, 1);
        p.number(3, 30, 9, 0, true, 1);
        put(p, 0, "+0500");
        put(p, 10, "0005");
        due("equal", relations(p, 0, 1), "nynyny");
        put(p, 0, "-0500");
        due("less", relations(p, 0, 1), "ynnyyn");
        due("greater", relations(p, 1, 0), "nnynyy");
        put(p, 0, "+0501");
        due("greater by a decimal", relations(p, 0, 1), "nnynyy");
        put(p, 20, "+999999999");
        put(p, 30, "+000000001");
        due("a little less", relations(p, 2, 3), "ynnyyn");
        put(p, 30, "-999999999");
        due("far apart", relations(p, 2, 3), "nnynyy");
        put(p, 0, "-0000");
        put(p, 10, "0000");
        due("minus 0", relations(p, 0, 1), "nynyny");
    }

    private static void comparingCharacters() {
        LedgerProgram p = new LedgerProgram();
        p.text(0, 0, 3, 1);
        p.text(1, 10, 5, 1);
        p.number(2, 20, 3, 1, true, 1);
        p.number(3, 30, 3, 1, false, 1);
        put(p, 0, "ABC");
        put(p, 10, "ABC  ");
        due("lengthened with spaces", relations(p, 0, 1), "nynyny");
        put(p, 10, "ABC 9");
        due("a digit is less than a space", relations(p, 0, 1), "nnynyy");
        put(p, 10, "ABC A");
        due("a letter is greater", relations(p, 0, 1), "ynnyyn");
        put(p, 10, "AB9ZZ");
        due("the first difference", relations(p, 0, 1), "nnynyy");
        put(p, 0, "123");
        put(p, 20, "-123");
        due("a number without its sign", relations(p, 0, 2), "nynyny");
        due("a number first", relations(p, 2, 0), "nynyny");
        put(p, 0, "12 ");
        due("characters, not values", relations(p, 0, 2), "nnynyy");
        put(p, 30, "01 ");
        put(p, 0, "01 ");
        due("not signed", relations(p, 3, 0), "nynyny");
    }

    private static boolean isNumeric(LedgerProgram p, int x) {
        runLines(p, IF_NUMERIC, x, 0, 0, STOP, 0, 0, 0, END, 0, 0, 0);
        return p.steps() == 3;
    }

    private static void numeric() {
        LedgerProgram p = new LedgerProgram();
        p.text(0, 0, 3, 1);
        p.number(1, 0, 3, 1, false, 1);
        p.number(2, 0, 2, 1, true, 1);
        due("spaces, text", isNumeric(p, 0), false);
        due("spaces, number", isNumeric(p, 1), false);
        due("spaces, signed", isNumeric(p, 2), false);
        put(p, 0, "012");
        due("digits, text", isNumeric(p, 0), true);
        due("digits, number", isNumeric(p, 1), true);
        due("digits, signed", isNumeric(p, 2), true);
        put(p, 0, "-12");
        due("minus, text", isNumeric(p, 0), false);
        due("minus, not signed", isNumeric(p, 1), false);
        due("minus, signed", isNumeric(p, 2), true);
        put(p, 0, "-1A");
        due("a letter, signed", isNumeric(p, 2), false);
        put(p, 0, "12 ");
        due("a space behind, text", isNumeric(p, 0), false);
    }

    // Steps and the way through the program (promises 10 and 11)

    private static void branches() {
        LedgerProgram p = new LedgerProgram();
        p.number(0, 0, 1, 0, false, 1);
        p.number(1, 1, 1, 0, false, 1);
        int[] lines = {IF, 0, 1, 1, DISPLAY, 0, 0, 0, IF_SIZE, 0, 0, 0, DISPLAY, 1, 0, 0, END, 0, 0, 0,
            ELSE, 0, 0, 0, DISPLAY, 1, 0, 0, DISPLAY, 1, 0, 0, END, 0, 0, 0, DISPLAY, 0, 0, 0};
        put(p, 0, "44");
        due("true", runLines(p, lines), LedgerProgram.OK);
        due("true shows", shown(p), "44");
        // PARAGRAPH, IF, DISPLAY, IF SIZE (false), ELSE, DISPLAY
        due("true steps", p.steps(), 6);
        put(p, 0, "45");
        runLines(p, lines);
        due("false shows", shown(p), "554");
        // PARAGRAPH, IF, DISPLAY, DISPLAY, END, DISPLAY
        due("false steps", p.steps(), 6);
        runLines(p, IF, 0, 1, 1, DISPLAY, 0, 0, 0, END, 0, 0, 0);
        due("false without else", p.steps(), 2);
        runLines(p, IF, 0, 1, 4, DISPLAY, 0, 0, 0, END, 0, 0, 0);
        due("true without else", p.steps(), 4);
        runLines(p, IF, 0, 1, 4, ELSE, 0, 0, 0, DISPLAY, 0, 0, 0, END, 0, 0, 0);
        due("an empty branch", p.steps(), 3);
        due("stop", runLines(p, STOP, 0, 0, 0, DISPLAY, 0, 0, 0), LedgerProgram.OK);
        due("stop steps", p.steps(), 2);
        due("stop shows", p.displayed(), 0);
    }

    private static LedgerProgram counter() {
        LedgerProgram p = new LedgerProgram();
        p.number(0, 0, 1, 0, false, 1);
        p.number(1, 1, 1, 0, false, 1);
        p.number(2, 2, 1, 0, false, 1);
        p.number(3, 3, 1, 0, false, 1);
        put(p, 0, "1234");
        return p;
    }

    private static void performing() {
        LedgerProgram p = counter();
        due("run", runAll(p, PARAGRAPH, 0, 0, 0, PERFORM, 1, 2, 3, DISPLAY, 0, 0, 0, STOP, 0, 0, 0,
            PARAGRAPH, 0, 0, 0, DISPLAY, 1, 0, 0, PARAGRAPH, 0, 0, 0, DISPLAY, 2, 0, 0,
            PARAGRAPH, 0, 0, 0, DISPLAY, 3, 0, 0), LedgerProgram.OK);
        due("through", shown(p), "2323231");
        due("steps", p.steps(), 2 + 3 * 4 + 2);
        runAll(p, PARAGRAPH, 0, 0, 0, PERFORM, 1, 1, 2, DISPLAY, 0, 0, 0, PARAGRAPH, 0, 0, 0, DISPLAY, 1, 0, 0);
        due("falls into the next", shown(p), "2212");
        for (int z = -1; z <= 0; z++) {
            runAll(p, PARAGRAPH, 0, 0, 0, PERFORM, 1, 1, z, VARYING, 1, 1, z, PARAGRAPH, 0, 0, 0, DISPLAY, 1, 0, 0);
            due("nothing happens", shown(p), "2");
            due("steps", p.steps(), 5);
            due("index stays", p.index(), 1);
        }
        runAll(p, PARAGRAPH, 0, 0, 0, PERFORM, 1, 1, 2, STOP, 0, 0, 0, PARAGRAPH, 0, 0, 0);
        due("an empty paragraph at the end", p.steps(), 5);
        runAll(p, PARAGRAPH, 0, 0, 0, PERFORM, 1, 1, 2, STOP, 0, 0, 0, PARAGRAPH, 0, 0, 0,
            IF_SIZE, 0, 0, 0, DISPLAY, 0, 0, 0, END, 0, 0, 0, PARAGRAPH, 0, 0, 0, DISPLAY, 3, 0, 0);
        due("an if that is false at the end", p.steps(), 2 + 4 + 1);
        runAll(p, PARAGRAPH, 0, 0, 0, PERFORM, 1, 1, 2, STOP, 0, 0, 0, PARAGRAPH, 0, 0, 0,
            IF, 0, 0, 1, DISPLAY, 0, 0, 0, ELSE, 0, 0, 0, END, 0, 0, 0, PARAGRAPH, 0, 0, 0, DISPLAY, 3, 0, 0);
        due("an else at the end", shown(p), "11");
        due("a run that stops inside", runAll(p, PARAGRAPH, 0, 0, 0, PERFORM, 1, 1, 2, DISPLAY, 0, 0, 0,
            PARAGRAPH, 0, 0, 0, DISPLAY, 1, 0, 0, STOP, 0, 0, 0), LedgerProgram.OK);
        due("shows", shown(p), "2");
        due("again, with none in progress", p.run(), LedgerProgram.OK);
        due("shows", shown(p), "2");
    }

    private static void performsInside() {
        LedgerProgram p = counter();
        runAll(p, PARAGRAPH, 0, 0, 0, PERFORM, 1, 1, 2, DISPLAY, 0, 0, 0, STOP, 0, 0, 0,
            PARAGRAPH, 0, 0, 0, DISPLAY, 1, 0, 0, PERFORM, 2, 2, 2,
            PARAGRAPH, 0, 0, 0, DISPLAY, 2, 0, 0);
        due("the end behind a perform", shown(p), "2332331");
        runAll(p, PARAGRAPH, 0, 0, 0, PERFORM, 1, 1, 1, DISPLAY, 0, 0, 0, STOP, 0, 0, 0,
            PARAGRAPH, 0, 0, 0, PERFORM, 2, 2, 1,
            PARAGRAPH, 0, 0, 0, PERFORM, 3, 3, 1,
            PARAGRAPH, 0, 0, 0, DISPLAY, 3, 0, 0);
        due("several ends at once", shown(p), "41");
        due("steps", p.steps(), 2 + 2 + 2 + 2 + 2);
        // The inner one ends the paragraph that the outer one waits for, but only the latest looks at it.
        runAll(p, PARAGRAPH, 0, 0, 0, PERFORM, 1, 2, 1, DISPLAY, 0, 0, 0, STOP, 0, 0, 0,
            PARAGRAPH, 0, 0, 0, PERFORM, 2, 2, 1, DISPLAY, 1, 0, 0,
            PARAGRAPH, 0, 0, 0, DISPLAY, 2, 0, 0);
        due("the same end", shown(p), "3231");
        // The outer end is passed over while an inner one that ends later is in progress.
        runAll(p, PARAGRAPH, 0, 0, 0, PERFORM, 1, 1, 1, DISPLAY, 0, 0, 0, STOP, 0, 0, 0,
            PARAGRAPH, 0, 0, 0, DISPLAY, 1, 0, 0, IF_SIZE, 0, 0, 0, ELSE, 0, 0, 0, DIVIDE, Z, 0, 0, PERFORM, 1, 2, 1,
            END, 0, 0, 0, PARAGRAPH, 0, 0, 0, DISPLAY, 2, 0, 0);
        due("passed over", shown(p), "2231");
    }

    private static void goingTo() {
        LedgerProgram p = counter();
        runAll(p, PARAGRAPH, 0, 0, 0, GO_TO, 2, 0, 0, PARAGRAPH, 0, 0, 0, DISPLAY, 1, 0, 0,
            PARAGRAPH, 0, 0, 0, DISPLAY, 2, 0, 0);
        due("go to", shown(p), "3");
        due("steps", p.steps(), 4);
        // Paragraph 1 leaves for paragraph 2, the one behind it: that is no end of paragraph 1.
        due("run", runAll(p, PARAGRAPH, 0, 0, 0, PERFORM, 1, 1, 5, DISPLAY, 0, 0, 0, STOP, 0, 0, 0,
            PARAGRAPH, 0, 0, 0, DISPLAY, 1, 0, 0, GO_TO, 2, 0, 0,
            PARAGRAPH, 0, 0, 0, DISPLAY, 2, 0, 0), LedgerProgram.OK);
        due("go to ends no perform", shown(p), "23");
        // It is still in progress, so coming back to paragraph 1's end goes on with it.
        runAll(p, PARAGRAPH, 0, 0, 0, PERFORM, 1, 1, 1, DISPLAY, 0, 0, 0, STOP, 0, 0, 0,
            PARAGRAPH, 0, 0, 0, IF_SIZE, 0, 0, 0, ELSE, 0, 0, 0, GO_TO, 2, 0, 0, END, 0, 0, 0, DISPLAY, 1, 0, 0,
            PARAGRAPH, 0, 0, 0, DISPLAY, 2, 0, 0, DIVIDE, Z, 0, 0, GO_TO, 1, 0, 0);
        due("back into it", shown(p), "321");
        due("to itself", runAll(p, PARAGRAPH, 0, 0, 0, GO_TO, 0, 0, 0), LedgerProgram.LONG);
        due("steps", p.steps(), 500);
    }

    private static void varying() {
        LedgerProgram p = new LedgerProgram();
        p.number(0, 0, 1, 0, false, 9);
        p.number(1, 10, 1, 0, false, 1);
        put(p, 0, "987654321");
        due("run", runAll(p, PARAGRAPH, 0, 0, 0, VARYING, 1, 1, 4, STOP, 0, 0, 0,
            PARAGRAPH, 0, 0, 0, DISPLAY, 0, 0, 0), LedgerProgram.OK);
        due("1 to 4", shown(p), "9876");
        due("index", p.index(), 4);
        runAll(p, PARAGRAPH, 0, 0, 0, CHANGE_INDEX, 0, 0, 7, VARYING, 1, 1, 3, STOP, 0, 0, 0,
            PARAGRAPH, 0, 0, 0, DISPLAY, 0, 0, 0, CHANGE_INDEX, 0, 0, 5);
        due("1 more than at the beginning", shown(p), "987");
        due("index", p.index(), 8);
        runAll(p, PARAGRAPH, 0, 0, 0, VARYING, 1, 1, 2, STOP, 0, 0, 0,
            PARAGRAPH, 0, 0, 0, DISPLAY, 0, 0, 0, VARYING, 2, 2, 3, DISPLAY, 0, 0, 0,
            PARAGRAPH, 0, 0, 0, DISPLAY, 0, 0, 0);
        due("one in another", shown(p), "9987789877");
        runAll(p, PARAGRAPH, 0, 0, 0, SET_INDEX, Z, 0, 5, VARYING, 1, 1, 0, PERFORM, 1, 1, 2, STOP, 0, 0, 0,
            PARAGRAPH, 0, 0, 0, DISPLAY, 0, 0, 0);
        due("a perform keeps index", shown(p), "55");
        due("index", p.index(), 5);
    }

    private static void deep() {
        LedgerProgram p = counter();
        for (int op = PERFORM; op <= VARYING; op++) {
            due("deep", runAll(p, PARAGRAPH, 0, 0, 0, CHANGE_INDEX, 0, 0, 3, op, 0, 0, 1), LedgerProgram.DEEP);
            // Seven times three: the seventh PERFORM is come to, and costs a step.
            due("steps", p.steps(), 21);
            due("index", p.index(), op == PERFORM ? 22 : 4);
        }
        due("six are not too many", runAll(p, PARAGRAPH, 0, 0, 0, PERFORM, 1, 1, 1, STOP, 0, 0, 0,
            PARAGRAPH, 0, 0, 0, ADD, Z, 0, 1, IF, 0, 1, 0, PERFORM, 1, 1, 1, END, 0, 0, 0), LedgerProgram.OK);
        put(p, 0, "06");
        due("six in progress", runAll(p, PARAGRAPH, 0, 0, 0, PERFORM, 1, 1, 1, STOP, 0, 0, 0,
            PARAGRAPH, 0, 0, 0, ADD, Z, 0, 1, IF, 0, 1, 0, PERFORM, 1, 1, 1, END, 0, 0, 0), LedgerProgram.OK);
        put(p, 0, "07");
        due("seven", runAll(p, PARAGRAPH, 0, 0, 0, PERFORM, 1, 1, 1, STOP, 0, 0, 0,
            PARAGRAPH, 0, 0, 0, ADD, Z, 0, 1, IF, 0, 1, 0, PERFORM, 1, 1, 1, END, 0, 0, 0), LedgerProgram.DEEP);
        due("with z below 1", runAll(p, PARAGRAPH, 0, 0, 0, PERFORM, 1, 1, 1, STOP, 0, 0, 0,
            PARAGRAPH, 0, 0, 0, PERFORM, 2, 2, 1, PARAGRAPH, 0, 0, 0, PERFORM, 3, 3, 1,
            PARAGRAPH, 0, 0, 0, PERFORM, 4, 4, 1, PARAGRAPH, 0, 0, 0, PERFORM, 5, 5, 1,
            PARAGRAPH, 0, 0, 0, PERFORM, 6, 6, 1, PARAGRAPH, 0, 0, 0, PERFORM, 0, 0, 0, VARYING, 0, 0, -1),
            LedgerProgram.OK);
    }

    private static void longRuns() {
        LedgerProgram p = counter();
        // PARAGRAPH and VARYING, 248 times the next paragraph, and falling into it once more.
        due("500 steps", runAll(p, PARAGRAPH, 0, 0, 0, VARYING, 1, 1, 248, PARAGRAPH, 0, 0, 0, DISPLAY, 0, 0, 0),
            LedgerProgram.OK);
        due("steps", p.steps(), 500);
        due("displayed", p.displayed(), 249);
        due("501 steps", runAll(p, PARAGRAPH, 0, 0, 0, VARYING, 1, 1, 248, CHANGE_INDEX, 0, 0, 0,
            PARAGRAPH, 0, 0, 0, DISPLAY, 0, 0, 0), LedgerProgram.LONG);
        due("steps", p.steps(), 500);
        due("displayed", p.displayed(), 248);
        due("a stop as the 500th", runAll(p, PARAGRAPH, 0, 0, 0, VARYING, 1, 1, 248, CHANGE_INDEX, 0, 0, 0,
            STOP, 0, 0, 0, PARAGRAPH, 0, 0, 0, DISPLAY, 0, 0, 0), LedgerProgram.OK);
        due("steps", p.steps(), 500);
        due("a stop as the 501st", runAll(p, PARAGRAPH, 0, 0, 0, VARYING, 1, 1, 248, CHANGE_INDEX, 0, 0, 0,
            CHANGE_INDEX, 0, 0, 0, STOP, 0, 0, 0, PARAGRAPH, 0, 0, 0, DISPLAY, 0, 0, 0), LedgerProgram.LONG);
        due("very many times", runAll(p, PARAGRAPH, 0, 0, 0, VARYING, 1, 1, Integer.MAX_VALUE, PARAGRAPH, 0, 0, 0),
            LedgerProgram.LONG);
        // The 499th time has begun, but its PARAGRAPH would be the 501st step.
        due("index", p.index(), 499);
    }

    // Tables, INDEX, DISPLAY and TALLY (promises 10, 12, 16 and 17)

    private static void ranges(String what, int op, int x, int y, int z, boolean table) {
        LedgerProgram p = new LedgerProgram();
        p.number(0, 0, 1, 0, false, 3);
        p.number(1, 10, 1, 0, false, 1);
        put(p, 0, "123");
        put(p, 10, "5");
        int[] tried = {Integer.MIN_VALUE, -1, 0, 1, 3, 4, Integer.MAX_VALUE};
        for (int index : tried) {
            boolean bad = table && (index < 1 || index > 3);
            p.drop();
            write(p, PARAGRAPH, 0, 0, 0, SET_INDEX, Z, 0, index, op, x, y, z);
            if (op == IF || op == IF_NUMERIC) {
                p.add(END, 0, 0, 0);
            }
            due("check", p.check(), true);
            due(what + " at " + index, p.run(), bad ? LedgerProgram.RANGE : LedgerProgram.OK);
            if (bad) {
                due("steps", p.steps(), 3);
                due("index", p.index(), index);
                due("nothing done", stored(p, 0, 11), "123       5");
                due("nothing shown", p.displayed(), 0);
                due("size", p.size(), false);
            }
            put(p, 0, "123");
            put(p, 10, "5");
        }
    }

    private static void tables() {
        ranges("move from", MOVE, 0, 1, 0, true);
        ranges("move to", MOVE, 1, 0, 0, true);
        ranges("move 16", MOVE, Z, 0, 7, true);
        ranges("move without", MOVE, 1, 1, 0, false);
        for (int op = ADD; op <= DIVIDE_R; op++) {
            ranges("arithmetic x", op, 0, 1, 0, true);
            ranges("arithmetic y", op, 1, 0, 0, true);
            ranges("arithmetic 16", op, Z, 0, 0, true);
            ranges("arithmetic without", op, 1, 1, 0, false);
        }
        ranges("if x", IF, 0, 1, 0, true);
        ranges("if y", IF, 1, 0, 0, true);
        ranges("numeric", IF_NUMERIC, 0, 0, 0, true);
        ranges("numeric without", IF_NUMERIC, 1, 0, 0, false);
        ranges("display", DISPLAY, 0, 0, 0, true);
        ranges("display without", DISPLAY, 1, 0, 0, false);
        ranges("index", SET_INDEX, 0, 0, 0, true);
        ranges("index without", SET_INDEX, 1, 0, 0, false);
        ranges("tally x", TALLY, 0, 1, 0, true);
        ranges("tally y", TALLY, 1, 0, 0, true);
        ranges("change", CHANGE_INDEX, 0, 0, 1, false);
        ranges("stop", STOP, 0, 0, 0, false);
        LedgerProgram p = new LedgerProgram();
        p.number(0, 0, 2, 0, true, 3);
        p.text(1, 10, 2, 3);
        p.edited(2, 20, picture("711"), 3);
        runLines(p, SET_INDEX, Z, 0, 2, MOVE, Z, 0, -12, MOVE, 0, 1, 0, MOVE, 0, 2, 0, ADD, Z, 0, 2,
            CHANGE_INDEX, 0, 0, 1, MOVE, Z, 0, 7, ADD, 0, 0, 0, MOVE, Z, 1, 5, MOVE, Z, 2, 5);
        due("numbers", stored(p, 0, 9), "   -10+14");
        due("texts", stored(p, 10, 6), "  125 ");
        due("edited", stored(p, 20, 9), "   -12+05");
    }

    private static void indexes() {
        LedgerProgram p = new LedgerProgram();
        p.number(0, 0, 4, 2, true, 1);
        put(p, 0, "-0399");
        runLines(p, SET_INDEX, 0, 0, 77);
        due("the whole part", p.index(), -3);
        runLines(p, SET_INDEX, Z, 0, Integer.MIN_VALUE);
        due("the least", p.index(), Integer.MIN_VALUE);
        runLines(p, SET_INDEX, Z, 0, Integer.MAX_VALUE);
        due("the greatest", p.index(), Integer.MAX_VALUE);
        runLines(p, CHANGE_INDEX, 0, 0, -5);
        due("changed", p.index(), -4);
        runLines(p, CHANGE_INDEX, 0, 0, 5, CHANGE_INDEX, 0, 0, 6);
        due("changed twice", p.index(), 12);
        runLines(p, STOP, 0, 0, 0);
        due("1 at first", p.index(), 1);
    }

    private static void displaying() {
        LedgerProgram p = new LedgerProgram();
        p.number(0, 0, 2, 1, true, 1);
        p.text(1, 0, 12, 1);
        p.edited(2, 3, picture("22"), 1);
        put(p, 0, "-12 5ABCDEFG");
        runLines(p, DISPLAY, 0, 0, 0, DISPLAY, Z, 0, 55, DISPLAY, 2, 0, 0);
        due("with its sign", shown(p), "-12 5");
        due("displayed", p.displayed(), 5);
        due("output -1", p.output(-1), -1);
        due("output 5", p.output(5), -1);
        due("output least", p.output(Integer.MIN_VALUE), -1);
        due("output greatest", p.output(Integer.MAX_VALUE), -1);
        p.poke(0, 7);
        due("what was shown stays", shown(p), "-12 5");
        p.drop();
        due("drop keeps it", shown(p), "-12 5");
        p.run();
        due("an unchecked run keeps it", shown(p), "-12 5");
        int[] lines = new int[4 * 9];
        for (int i = 0; i < 9; i++) {
            lines[4 * i] = DISPLAY;
            lines[4 * i + 1] = i == 0 ? 0 : 1;
        }
        runLines(p, lines);
        due("the first 96", shown(p), "712" + "712 5ABCDEFG".repeat(7) + "712 5ABCD");
        due("output 95", p.output(95), CHARACTERS.indexOf('D'));
        due("output 96", p.output(96), -1);
        due("all that was displayed", p.displayed(), 99);
        runLines(p, STOP, 0, 0, 0);
        due("a run without display", p.displayed(), 0);
        due("its output", p.output(0), -1);
    }

    private static void tallying() {
        LedgerProgram p = new LedgerProgram();
        p.text(0, 0, 5, 1);
        p.number(1, 10, 3, 1, true, 1);
        p.edited(2, 20, picture("7151"), 1);
        p.number(3, 30, 1, 1, false, 1);
        put(p, 0, "ABABA");
        runLines(p, TALLY, 0, 1, 16);
        due("aligned", stored(p, 10, 4), "+030");
        runLines(p, TALLY, 0, 1, 17);
        due("another", stored(p, 10, 4), "+020");
        runLines(p, TALLY, 0, 1, 99);
        due("no character", stored(p, 10, 4), "+000");
        runLines(p, TALLY, 0, 1, -1);
        due("no character either", stored(p, 10, 4), "+000");
        runLines(p, TALLY, 0, 3, 16);
        due("no room", stored(p, 30, 1), "0");
        put(p, 10, "-000");
        runLines(p, TALLY, 1, 1, 11);
        due("the sign is a character of it", stored(p, 10, 4), "+010");
        put(p, 20, "+1.1");
        runLines(p, TALLY, 2, 1, 1);
        due("of an edited one", stored(p, 10, 4), "+020");
    }

    private static void runningAgain() {
        LedgerProgram p = new LedgerProgram();
        p.number(0, 0, 1, 0, false, 1);
        runLines(p, ADD, Z, 0, 4, DISPLAY, 0, 0, 0, CHANGE_INDEX, 0, 0, 1);
        due("first", shown(p), "4");
        p.run();
        due("the storage stays", shown(p), "8");
        due("index begins anew", p.index(), 2);
        due("size", p.size(), false);
        p.run();
        due("size error", p.size(), true);
        due("shows", shown(p), "8");
        due("steps", p.steps(), 4);
        p.poke(0, 0);
        p.run();
        due("size begins anew", p.size(), false);
        due("shows", shown(p), "4");
        due("constants", LedgerProgram.OK, 0);
        due("constants", LedgerProgram.LONG, 1);
        due("constants", LedgerProgram.RANGE, 2);
        due("constants", LedgerProgram.DEEP, 3);
        due("constants", LedgerProgram.UNCHECKED, -1);
    }
}
