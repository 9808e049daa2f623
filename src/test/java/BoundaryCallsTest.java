import java.util.Arrays;
import java.util.LinkedHashMap;
import java.util.Map;
import java.util.function.Supplier;

/**
 * The boundary cases that the document names for the calls themselves: what a new object answers, what is refused, what
 * check finds, and what the latest check and run tell. Before each method stands the sentence.
 */
public final class BoundaryCallsTest extends Bench {
    private static final int UNCHECKED = LedgerProgram.UNCHECKED, OK = LedgerProgram.OK;

    public static void main(String[] args) {
        newObject();
        ops();
        fortyEight();
        drops();
        firstInstruction();
        emptyProgram();
        operandsOfItems();
        operandsOfSorts();
        unusedOperands();
        relations();
        paragraphs();
        paragraphNumbersUpTo48();
        elses();
        ends();
        ninthIf();
        paragraphInside();
        endsInside();
        firstOfFaults();
        placeOfLatestCheck();
        checkedNoMore();
        checkedStill();
        answersBeforeAnyRun();
        answersOfLatestRun();
        refusedItems();
        refusedPokes();
        refusedAdds();
        refusedRuns();
        questionsChangeNothing();
        objectsApart();
        finish();
    }

    // Promise 1: "No items, spaces everywhere, no instructions, nothing checked or run."
    private static void newObject() {
        LedgerProgram p = new LedgerProgram();
        due("spaces", stored(p, 0, 96), " ".repeat(96));
        for (int item = 0; item < 12; item++) {
            due("no item " + item, p.value(item, 1), -1);
        }
        due("nothing checked", p.place(), -1);
        due("nothing to run", p.run(), UNCHECKED);
        due("no instructions", p.drop(), 0);
        due("the first number", p.add(PARAGRAPH, 0, 0, 0), 0);
        due("not checked", p.run(), UNCHECKED);
        due("an item of a new object", fault(new LedgerProgram(), PARAGRAPH, 0, 0, 0, DISPLAY, 0, 0, 0), 1);
    }

    // Promise 6: "-1, and nothing changes, if op is none of those named".
    private static void ops() {
        LedgerProgram p = new LedgerProgram();
        int added = 0;
        for (int op = -3; op <= 26; op++) {
            boolean good = op >= 0 && op <= 22;
            due("op " + op, p.add(op, LEAST, GREATEST, op), good ? added : -1);
            added += good ? 1 : 0;
        }
        int[] far = {LEAST, LEAST + 1, -256, 256, 1 << 16, GREATEST - 1, GREATEST};
        for (int op : far) {
            due("op " + op, p.add(op, 0, 0, 0), -1);
        }
        due("all that were added", p.drop(), 23);
    }

    // Terms: "INSTRUCTIONS (op, x, y, z), at most 48"; promise 6: "or there are 48".
    private static void fortyEight() {
        LedgerProgram p = new LedgerProgram();
        for (int i = 0; i < 48; i++) {
            due("instruction " + i, p.add(i == 0 ? PARAGRAPH : CHANGE_INDEX, 0, 0, i), i);
        }
        due("the 49th", p.add(STOP, 0, 0, 0), -1);
        due("the 49th again", p.add(PARAGRAPH, 0, 0, 0), -1);
        due("check of 48", p.check(), true);
        due("run of 48", p.run(), OK);
        due("steps of 48", p.steps(), 48);
        due("all were carried out", p.index(), 1 + 47 * 48 / 2);
        due("drop of 48", p.drop(), 48);
        due("room again", p.add(PARAGRAPH, 0, 0, 0), 0);
        due("drop of 1", p.drop(), 1);
    }

    // Promise 7: "Takes all instructions away; answers how many there were."
    private static void drops() {
        for (int many = 0; many <= 48; many++) {
            LedgerProgram p = new LedgerProgram();
            for (int i = 0; i < many; i++) {
                p.add(PARAGRAPH, 0, 0, 0);
            }
            due("drop", p.drop(), many);
            due("drop again", p.drop(), 0);
            due("check of nothing", p.check(), false);
            due("its place", p.place(), 0);
        }
    }

    private static LedgerProgram sorts() {
        LedgerProgram p = new LedgerProgram();
        p.number(0, 0, 4, 2, true, 1);
        p.number(1, 5, 2, 0, false, 1);
        p.text(2, 10, 4, 1);
        p.edited(3, 20, picture("2151"), 1);
        p.number(11, 30, 2, 0, false, 1);
        return p;
    }

    // Promise 8: "a first instruction other than PARAGRAPH".
    private static void firstInstruction() {
        for (int op = 0; op <= 22; op++) {
            LedgerProgram p = sorts();
            p.add(op, 0, 0, 0);
            p.add(PARAGRAPH, 0, 0, 0);
            due("op " + op + " first", p.check(), op == PARAGRAPH);
            due("its place", p.place(), op == PARAGRAPH ? -1 : 0);
            due("its run", p.run(), op == PARAGRAPH ? OK : UNCHECKED);
        }
    }

    // Promise 8: "or without instructions (0)".
    private static void emptyProgram() {
        LedgerProgram p = sorts();
        due("check of nothing", p.check(), false);
        due("its place", p.place(), 0);
        due("its run", p.run(), UNCHECKED);
        due("with a PARAGRAPH", fault(p, PARAGRAPH, 0, 0, 0), -1);
        p.drop();
        due("dropped again", p.check(), false);
        due("its place", p.place(), 0);
    }

    /** Whether one instruction, closed if it is an IF, is without a fault behind a PARAGRAPH. */
    private static void faulty(LedgerProgram p, int op, int x, int y, int z, boolean good) {
        p.drop();
        write(p, PARAGRAPH, 0, 0, 0, op, x, y, z);
        if (op == IF || op == IF_NUMERIC) {
            p.add(END, 0, 0, 0);
        }
        due("op " + op + " with " + x + ", " + y + ", " + z, p.check(), good);
        due("its place", p.place(), good ? -1 : 1);
    }

    // Promise 8: "an operand that is no item (or 16 where that is not said)".
    private static void operandsOfItems() {
        int[] operands = {LEAST, -1, 0, 4, 10, 11, 12, 15, 16, 17, GREATEST};
        int[] withX = {MOVE, ADD, SUBTRACT, MULTIPLY, DIVIDE, ADD_R, SUBTRACT_R, MULTIPLY_R, DIVIDE_R, IF, IF_NUMERIC, DISPLAY,
            SET_INDEX, TALLY};
        int[] withoutLiteral = {IF, IF_NUMERIC, TALLY};
        int[] withoutY = {IF_NUMERIC, DISPLAY, SET_INDEX};
        for (int op : withX) {
            LedgerProgram p = sorts();
            for (int x : operands) {
                boolean literal = x == Z && Arrays.stream(withoutLiteral).noneMatch(o -> o == op);
                faulty(p, op, x, 0, 1, x == 0 || x == 11 || literal);
            }
            p = sorts();
            boolean noY = Arrays.stream(withoutY).anyMatch(o -> o == op);
            for (int y : operands) {
                faulty(p, op, 0, y, 1, noY || y == 0 || y == 11);
            }
        }
    }

    // Promise 8: "or not of a sort that is said": 0 and 1 are numbers, 2 a text, 3 an edited item.
    private static void operandsOfSorts() {
        for (int x = 0; x <= 3; x++) {
            for (int y = 0; y <= 3; y++) {
                LedgerProgram p = sorts();
                faulty(p, MOVE, x, y, 0, true);
                for (int op = ADD; op <= DIVIDE_R; op++) {
                    faulty(p, op, x, y, 0, x <= 1 && y <= 1);
                }
                faulty(p, IF, x, y, 0, x != 3 && y != 3);
                faulty(p, IF_NUMERIC, x, y, 0, x != 3);
                faulty(p, DISPLAY, x, y, 0, true);
                faulty(p, SET_INDEX, x, y, 0, x <= 1);
                faulty(p, TALLY, x, y, 0, y <= 1);
            }
        }
    }

    // What an instruction does not name is no operand of it, and no fault.
    private static void unusedOperands() {
        int[] any = {LEAST, -1, 12, 16, GREATEST};
        LedgerProgram p = sorts();
        for (int a : any) {
            faulty(p, PARAGRAPH, a, a, a, true);
            faulty(p, STOP, a, a, a, true);
            faulty(p, CHANGE_INDEX, a, a, a, true);
            faulty(p, GO_TO, 0, a, a, true);
            faulty(p, IF_NUMERIC, 0, a, a, true);
            faulty(p, DISPLAY, 0, a, a, true);
            faulty(p, SET_INDEX, 0, a, a, true);
            faulty(p, TALLY, 0, 0, a, true);
            faulty(p, MOVE, Z, 0, a, true);
            faulty(p, PERFORM, 0, 0, a, true);
            faulty(p, VARYING, 0, 0, a, true);
            due("IF SIZE, ELSE and END", fault(p, PARAGRAPH, a, a, a, IF_SIZE, a, a, a, ELSE, a, a, a, END, a, a, a), -1);
        }
    }

    // Promise 8: "a relation other than 0 to 5".
    private static void relations() {
        LedgerProgram p = sorts();
        int[] tried = {LEAST, -2, -1, 0, 1, 2, 3, 4, 5, 6, 7, 16, GREATEST};
        for (int z : tried) {
            faulty(p, IF, 0, 1, z, z >= 0 && z <= 5);
            faulty(p, IF, 2, 0, z, z >= 0 && z <= 5);
        }
    }

    // Promise 8: "a paragraph that is not there, or y less than x".
    private static void paragraphs() {
        int[] tried = {LEAST, -1, 0, 1, 2, 3, 4, 16, GREATEST};
        for (int x : tried) {
            LedgerProgram p = new LedgerProgram();
            boolean xThere = x >= 0 && x <= 2;
            for (int y : tried) {
                boolean good = xThere && y >= x && y <= 2;
                for (int op = PERFORM; op <= VARYING; op++) {
                    due("op " + op + " " + x + " to " + y, fault(p, PARAGRAPH, 0, 0, 0, PARAGRAPH, 0, 0, 0, op, x, y, 0,
                        PARAGRAPH, 0, 0, 0), good ? -1 : 2);
                }
            }
            due("GO TO " + x, fault(p, PARAGRAPH, 0, 0, 0, STOP, 0, 0, 0, PARAGRAPH, 0, 0, 0, GO_TO, x, 0, 0,
                PARAGRAPH, 0, 0, 0), xThere ? -1 : 3);
        }
    }

    // Terms: "PARAGRAPH begins one; they are numbered 0, 1, .."
    private static void paragraphNumbersUpTo48() {
        for (int last = 45; last <= 48; last++) {
            LedgerProgram p = new LedgerProgram();
            p.add(PARAGRAPH, 0, 0, 0);
            p.add(GO_TO, last, 0, 0);
            for (int i = 2; i < 48; i++) {
                p.add(PARAGRAPH, 0, 0, 0);
            }
            due("GO TO " + last + " of 0 to 46", p.check(), last <= 46);
            due("its place", p.place(), last <= 46 ? -1 : 1);
            due("its run", p.run(), last <= 46 ? OK : UNCHECKED);
            due("its steps", p.steps(), last <= 46 ? 2 + 46 - last + 1 : 0);
        }
        LedgerProgram p = new LedgerProgram();
        p.add(PARAGRAPH, 0, 0, 0);
        p.add(PERFORM, 1, 46, 2);
        for (int i = 2; i < 48; i++) {
            p.add(PARAGRAPH, 0, 0, 0);
        }
        due("PERFORM 1 through 46", p.check(), true);
        due("its run", p.run(), OK);
        due("its steps", p.steps(), 2 + 3 * 46);
        p.drop();
        for (int i = 0; i < 48; i++) {
            p.add(PARAGRAPH, 0, 0, 0);
        }
        due("48 paragraphs", p.check(), true);
        due("their run", p.run(), OK);
        due("their steps", p.steps(), 48);
    }

    private static final int[] IFS = {IF, IF_SIZE, IF_NUMERIC};

    // Promise 8: "an ELSE outside of an IF or the second one in it".
    private static void elses() {
        LedgerProgram p = sorts();
        due("outside", fault(p, PARAGRAPH, 0, 0, 0, ELSE, 0, 0, 0), 1);
        for (int op : IFS) {
            due("inside", fault(p, PARAGRAPH, 0, 0, 0, op, 0, 0, 0, ELSE, 0, 0, 0, END, 0, 0, 0), -1);
            due("the second", fault(p, PARAGRAPH, 0, 0, 0, op, 0, 0, 0, ELSE, 0, 0, 0, STOP, 0, 0, 0, ELSE, 0, 0, 0,
                END, 0, 0, 0), 4);
            due("behind", fault(p, PARAGRAPH, 0, 0, 0, op, 0, 0, 0, END, 0, 0, 0, ELSE, 0, 0, 0), 3);
            due("one in each", fault(p, PARAGRAPH, 0, 0, 0, op, 0, 0, 0, op, 0, 0, 0, ELSE, 0, 0, 0, END, 0, 0, 0,
                ELSE, 0, 0, 0, END, 0, 0, 0), -1);
            due("one in each, the inner one in the ELSE", fault(p, PARAGRAPH, 0, 0, 0, op, 0, 0, 0, ELSE, 0, 0, 0, op, 0, 0, 0,
                ELSE, 0, 0, 0, END, 0, 0, 0, END, 0, 0, 0), -1);
            due("a second behind an inner one", fault(p, PARAGRAPH, 0, 0, 0, op, 0, 0, 0, ELSE, 0, 0, 0, op, 0, 0, 0,
                END, 0, 0, 0, ELSE, 0, 0, 0, END, 0, 0, 0), 5);
            due("one after the other", fault(p, PARAGRAPH, 0, 0, 0, op, 0, 0, 0, ELSE, 0, 0, 0, END, 0, 0, 0, op, 0, 0, 0,
                ELSE, 0, 0, 0, END, 0, 0, 0), -1);
        }
    }

    // Promise 8: "an END outside".
    private static void ends() {
        LedgerProgram p = sorts();
        due("outside", fault(p, PARAGRAPH, 0, 0, 0, END, 0, 0, 0), 1);
        for (int op : IFS) {
            due("inside", fault(p, PARAGRAPH, 0, 0, 0, op, 0, 0, 0, END, 0, 0, 0), -1);
            due("one more", fault(p, PARAGRAPH, 0, 0, 0, op, 0, 0, 0, END, 0, 0, 0, END, 0, 0, 0), 3);
            due("one more in the next paragraph", fault(p, PARAGRAPH, 0, 0, 0, op, 0, 0, 0, END, 0, 0, 0,
                PARAGRAPH, 0, 0, 0, END, 0, 0, 0), 4);
        }
    }

    // Promise 8: "a ninth IF inside of others".
    private static void ninthIf() {
        for (int op : IFS) {
            for (int depth = 7; depth <= 10; depth++) {
                LedgerProgram p = sorts();
                p.add(PARAGRAPH, 0, 0, 0);
                for (int i = 0; i < depth; i++) {
                    p.add(op, 0, 0, 1);
                }
                for (int i = 0; i < depth; i++) {
                    p.add(END, 0, 0, 0);
                }
                due(depth + " inside of each other", p.check(), depth <= 8);
                due("their place", p.place(), depth <= 8 ? -1 : 9);
                due("their run", p.run(), depth <= 8 ? OK : UNCHECKED);
            }
            LedgerProgram p = sorts();
            p.add(PARAGRAPH, 0, 0, 0);
            for (int i = 0; i < 8; i++) {
                p.add(op, 0, 0, 1);
            }
            write(p, END, 0, 0, 0, op, 0, 0, 1, ELSE, 0, 0, 0, END, 0, 0, 0, ELSE, 0, 0, 0, op, 0, 0, 1);
            for (int i = 0; i < 8; i++) {
                p.add(END, 0, 0, 0);
            }
            due("never more than eight at a time", p.check(), true);
            p.drop();
            p.add(PARAGRAPH, 0, 0, 0);
            for (int i = 0; i < 23; i++) {
                write(p, op, 0, 0, 1, END, 0, 0, 0);
            }
            due("23 side by side", p.check(), true);
            due("run of them", p.run(), OK);
        }
        LedgerProgram p = sorts();
        p.add(PARAGRAPH, 0, 0, 0);
        for (int i = 0; i < 8; i++) {
            write(p, IF_SIZE, 0, 0, 0, ELSE, 0, 0, 0);
        }
        p.add(IF_SIZE, 0, 0, 0);
        due("a ninth in the eighth's ELSE", p.check(), false);
        due("its place", p.place(), 17);
    }

    // Promise 8: "a PARAGRAPH inside of one".
    private static void paragraphInside() {
        LedgerProgram p = sorts();
        for (int op : IFS) {
            due("inside", fault(p, PARAGRAPH, 0, 0, 0, op, 0, 0, 0, PARAGRAPH, 0, 0, 0, END, 0, 0, 0), 2);
            due("inside the ELSE", fault(p, PARAGRAPH, 0, 0, 0, op, 0, 0, 0, ELSE, 0, 0, 0, PARAGRAPH, 0, 0, 0,
                END, 0, 0, 0), 3);
            due("inside the outer one", fault(p, PARAGRAPH, 0, 0, 0, op, 0, 0, 0, op, 0, 0, 0, END, 0, 0, 0,
                PARAGRAPH, 0, 0, 0, END, 0, 0, 0), 4);
            due("behind", fault(p, PARAGRAPH, 0, 0, 0, op, 0, 0, 0, END, 0, 0, 0, PARAGRAPH, 0, 0, 0), -1);
        }
    }

    // Promise 8: "a program that ends inside of one (its number of instructions)".
    private static void endsInside() {
        LedgerProgram p = sorts();
        for (int op : IFS) {
            due("behind the IF", fault(p, PARAGRAPH, 0, 0, 0, op, 0, 0, 0), 2);
            due("behind the ELSE", fault(p, PARAGRAPH, 0, 0, 0, op, 0, 0, 0, ELSE, 0, 0, 0), 3);
            due("behind the inner END", fault(p, PARAGRAPH, 0, 0, 0, op, 0, 0, 0, op, 0, 0, 0, END, 0, 0, 0), 4);
            due("behind both", fault(p, PARAGRAPH, 0, 0, 0, op, 0, 0, 0, op, 0, 0, 0, END, 0, 0, 0, END, 0, 0, 0), -1);
        }
        p = new LedgerProgram();
        for (int i = 0; i < 47; i++) {
            p.add(i == 0 ? PARAGRAPH : CHANGE_INDEX, 0, 0, 0);
        }
        p.add(IF_SIZE, 0, 0, 0);
        due("48, the last one an IF", p.check(), false);
        due("its place", p.place(), 48);
    }

    // Promise 8: "FAULTS, the first of which is the PLACE".
    private static void firstOfFaults() {
        LedgerProgram p = sorts();
        due("two operands", fault(p, PARAGRAPH, 0, 0, 0, MOVE, 0, 0, 0, MOVE, 9, 0, 0, MOVE, 9, 9, 0), 2);
        due("0 and a later one", fault(p, STOP, 0, 0, 0, MOVE, 9, 9, 0), 0);
        due("an operand, then an ELSE", fault(p, PARAGRAPH, 0, 0, 0, MOVE, 9, 0, 0, ELSE, 0, 0, 0), 1);
        due("an ELSE, then an operand", fault(p, PARAGRAPH, 0, 0, 0, ELSE, 0, 0, 0, MOVE, 9, 0, 0), 1);
        due("an operand inside of an open IF", fault(p, PARAGRAPH, 0, 0, 0, IF_SIZE, 0, 0, 0, GO_TO, 1, 0, 0), 2);
        due("an open IF, then a good one", fault(p, PARAGRAPH, 0, 0, 0, IF_SIZE, 0, 0, 0, GO_TO, 0, 0, 0), 3);
    }

    // Promise 9: "The place of the fault of the latest check; -1 if it had none or there was none."
    private static void placeOfLatestCheck() {
        LedgerProgram p = sorts();
        due("there was none", p.place(), -1);
        write(p, PARAGRAPH, 0, 0, 0, END, 0, 0, 0);
        due("still none", p.place(), -1);
        p.check();
        due("a fault", p.place(), 1);
        p.add(STOP, 0, 0, 0);
        due("add is no check", p.place(), 1);
        p.number(0, 0, 1, 0, false, 1);
        p.text(1, 0, 1, 1);
        p.edited(2, 0, 1, 1);
        p.poke(0, 0);
        p.run();
        due("nor is anything else", p.place(), 1);
        p.drop();
        due("nor is drop", p.place(), 1);
        p.check();
        due("the latest", p.place(), 0);
        p.add(PARAGRAPH, 0, 0, 0);
        p.check();
        due("it had none", p.place(), -1);
        p.add(ELSE, 0, 0, 0);
        p.run();
        due("it had none still", p.place(), -1);
        p.check();
        due("and again a fault", p.place(), 1);
    }

    private static LedgerProgram checked() {
        LedgerProgram p = sorts();
        write(p, PARAGRAPH, 0, 0, 0, ADD, Z, 1, 1);
        due("check", p.check(), true);
        return p;
    }

    // Promises 2 to 4, 6 and 7: "what was checked is no more"; promise 10: "UNCHECKED ... if it is not checked".
    private static void checkedNoMore() {
        LedgerProgram p = checked();
        due("checked", p.run(), OK);
        p.number(5, 50, 1, 0, false, 1);
        due("number", p.run(), UNCHECKED);
        p = checked();
        p.number(1, 5, 2, 0, false, 1);
        due("the same number again", p.run(), UNCHECKED);
        p = checked();
        p.text(5, 50, 1, 1);
        due("text", p.run(), UNCHECKED);
        p = checked();
        p.edited(5, 50, 1, 1);
        due("edited", p.run(), UNCHECKED);
        p = checked();
        p.add(STOP, 0, 0, 0);
        due("add", p.run(), UNCHECKED);
        due("and checked again", p.check(), true);
        due("its run", p.run(), OK);
        p = checked();
        p.drop();
        due("drop", p.run(), UNCHECKED);
        p.drop();
        due("drop of nothing", p.run(), UNCHECKED);
        p = checked();
        p.text(1, 5, 2, 1);
        due("an operand of another sort", p.check(), false);
        due("its place", p.place(), 1);
        due("its run", p.run(), UNCHECKED);
        p.number(1, 5, 2, 0, false, 1);
        due("a number again", p.check(), true);
        due("its run", p.run(), OK);
    }

    // What promise 2 says of items and promises 6 and 7 of instructions is said of no other call.
    private static void checkedStill() {
        LedgerProgram p = checked();
        p.poke(5, 7);
        due("poke", p.run(), OK);
        p.check();
        due("check twice", p.run(), OK);
        due("run twice", p.run(), OK);
        state(p);
        due("questions", p.run(), OK);
    }

    // Promises 11 to 13, 16 and 17: "0 if there was none", "1 if there was none", "false if there was none".
    private static void answersBeforeAnyRun() {
        LedgerProgram p = new LedgerProgram();
        for (int time = 0; time < 3; time++) {
            due("steps", p.steps(), 0);
            due("index", p.index(), 1);
            due("size", p.size(), false);
            due("output", p.output(0), -1);
            due("displayed", p.displayed(), 0);
            if (time == 0) {
                p.run();
            } else {
                p.number(0, 0, 1, 0, false, 1);
                write(p, PARAGRAPH, 0, 0, 0, DIVIDE, Z, 0, 0, SET_INDEX, Z, 0, 5, DISPLAY, 0, 0, 0);
                p.check();
            }
        }
        p.add(STOP, 0, 0, 0);
        due("run", p.run(), UNCHECKED);
        due("a run that was none", p.steps(), 0);
    }

    // "of the latest run": an UNCHECKED one is none, and what comes after a run changes nothing of what it tells.
    private static void answersOfLatestRun() {
        LedgerProgram p = new LedgerProgram();
        p.number(0, 0, 1, 0, false, 1);
        put(p, 0, "8");
        runLines(p, DIVIDE, Z, 0, 0, SET_INDEX, Z, 0, 5, DISPLAY, 0, 0, 0);
        for (int time = 0; time < 5; time++) {
            due("steps", p.steps(), 4);
            due("index", p.index(), 5);
            due("size", p.size(), true);
            due("output", p.output(0), 8);
            due("output 1", p.output(1), -1);
            due("displayed", p.displayed(), 1);
            if (time == 0) {
                p.poke(0, 3);
            } else if (time == 1) {
                p.text(0, 0, 1, 1);
            } else if (time == 2) {
                p.drop();
                p.check();
            } else {
                due("run", p.run(), UNCHECKED);
            }
        }
    }

    /** All items, a program that was checked and run, with INDEX, SIZE and OUTPUT other than at first. */
    private static LedgerProgram busy() {
        LedgerProgram p = sorts();
        p.number(4, 40, 2, 1, true, 3);
        p.text(5, 50, 3, 2);
        p.edited(6, 60, picture("7221"), 2);
        put(p, 0, "-12345678");
        put(p, 40, "+11-22+33");
        write(p, PARAGRAPH, 0, 0, 0, ADD, Z, 1, 1, SET_INDEX, Z, 0, 2, MOVE, 4, 5, 0, MOVE, 4, 6, 0, MULTIPLY, Z, 0, 999,
            DISPLAY, 1, 0, 0, DISPLAY, 6, 0, 0);
        p.check();
        p.run();
        return p;
    }

    /** The same, with a fault that was found behind it. */
    private static LedgerProgram faulted() {
        LedgerProgram p = busy();
        p.add(ELSE, 0, 0, 0);
        p.check();
        return p;
    }

    /** The same, with an instruction more that was not checked. */
    private static LedgerProgram unchecked() {
        LedgerProgram p = busy();
        p.add(DISPLAY, 0, 0, 0);
        return p;
    }

    private static LedgerProgram full() {
        LedgerProgram p = busy();
        for (int i = 8; i < 48; i++) {
            p.add(CHANGE_INDEX, 0, 0, i);
        }
        p.check();
        p.run();
        return p;
    }

    private static Map<String, Supplier<LedgerProgram>> makers() {
        Map<String, Supplier<LedgerProgram>> makers = new LinkedHashMap<>();
        makers.put("new", LedgerProgram::new);
        makers.put("busy", BoundaryCallsTest::busy);
        makers.put("faulted", BoundaryCallsTest::faulted);
        makers.put("unchecked", BoundaryCallsTest::unchecked);
        makers.put("full", BoundaryCallsTest::full);
        return makers;
    }

    private static void refusedByAll(String what, Refused call) {
        makers().forEach((name, maker) -> refused(name + ": " + what, maker, call));
    }

    // Promises 2 to 4: "false, and nothing changes".
    private static void refusedItems() {
        int[][] numbers = {{-1, 0, 3, 1, 1}, {12, 0, 3, 1, 1}, {0, -1, 3, 1, 1}, {0, 94, 3, 1, 1}, {0, 96, 1, 0, 1}, {0, 0, 0, 0, 1},
            {0, 0, 10, 1, 1}, {0, 0, 3, -1, 1}, {0, 0, 3, 4, 1}, {0, 0, 3, 1, 0}, {0, 0, 1, 1, 10}, {0, 70, 9, 1, 3},
            {1, LEAST, 3, 1, 1}, {1, GREATEST, 3, 1, 1}, {LEAST, 0, 3, 1, 1}, {GREATEST, 0, 3, 1, 1}, {4, 0, 3, 1, GREATEST}};
        for (int[] row : numbers) {
            refusedByAll("number" + Arrays.toString(row),
                p -> !p.number(row[0], row[1], row[2], row[3], false, row[4]));
        }
        refusedByAll("a sign without a place", p -> !p.number(0, 93, 3, 0, true, 1));
        int[][] texts = {{-1, 0, 3, 1}, {12, 0, 3, 1}, {5, -1, 3, 1}, {5, 94, 3, 1}, {5, 0, 0, 1}, {5, 0, 13, 1}, {5, 0, 3, 0},
            {5, 0, 3, 10}, {0, 0, 12, 9}, {1, GREATEST, 12, 9}, {4, 0, GREATEST, 1}, {4, 0, LEAST, 1}};
        for (int[] row : texts) {
            refusedByAll("text" + Arrays.toString(row), p -> !p.text(row[0], row[1], row[2], row[3]));
        }
        int[][] edited = {{-1, 0, 1, 1}, {12, 0, 1, 1}, {6, -1, 1, 1}, {6, 96, 1, 1}, {6, 95, 9, 1}, {6, 0, 1, 0}, {6, 0, 1, 10},
            {6, 0, 0, 1}, {6, 0, -1, 1}, {6, 0, 4, 1}, {6, 0, 6, 1}, {0, 0, 8, 1}, {0, 0, 10, 1}, {1, 0, 1 << 24, 1},
            {4, 0, GREATEST, 1}, {4, 0, LEAST, 1}};
        for (int[] row : edited) {
            refusedByAll("edited" + Arrays.toString(row), p -> !p.edited(row[0], row[1], row[2], row[3]));
        }
    }

    // Promise 5: "false, and nothing changes, if one is out of range".
    private static void refusedPokes() {
        int[][] pokes = {{-1, 0}, {96, 0}, {0, -1}, {0, 42}, {-1, -1}, {96, 42}, {LEAST, 1}, {GREATEST, 1}, {95, LEAST}, {95, GREATEST}};
        for (int[] row : pokes) {
            refusedByAll("poke" + Arrays.toString(row), p -> !p.poke(row[0], row[1]));
        }
    }

    // Promise 6: "-1, and nothing changes, if op is none of those named or there are 48".
    private static void refusedAdds() {
        int[] ops = {-1, 23, LEAST, GREATEST};
        for (int op : ops) {
            refusedByAll("add of op " + op, p -> p.add(op, 0, 0, 0) == -1);
        }
        for (int op = 0; op <= 22; op++) {
            int given = op;
            refused("full: add of op " + op, BoundaryCallsTest::full, p -> p.add(given, 0, 0, 0) == -1);
        }
    }

    // Promise 10: "UNCHECKED, and nothing changes, if it is not checked".
    private static void refusedRuns() {
        refused("new: run", LedgerProgram::new, p -> p.run() == UNCHECKED);
        refused("faulted: run", BoundaryCallsTest::faulted, p -> p.run() == UNCHECKED);
        refused("unchecked: run", BoundaryCallsTest::unchecked, p -> p.run() == UNCHECKED);
    }

    // Promises 9 and 11 to 17 tell and change nothing, also where they answer -1.
    private static void questionsChangeNothing() {
        refusedByAll("peek", p -> p.peek(-1) == -1 && p.peek(96) == -1 && p.peek(0) >= 0);
        refusedByAll("value", p -> p.value(-1, 1) == -1 && p.value(12, 1) == -1 && p.value(0, 0) == -1 && p.value(0, 2) == -1);
        refusedByAll("output", p -> p.output(-1) == -1 && p.output(96) == -1);
        refusedByAll("the rest", p -> p.place() >= -1 && p.steps() >= 0 && p.index() != 0 && p.displayed() >= 0
            && (p.size() || !p.size()));
    }

    private static void objectsApart() {
        LedgerProgram p = busy();
        LedgerProgram other = new LedgerProgram();
        String before = state(other);
        p.poke(0, 1);
        p.run();
        due("another object", state(other), before);
        due("its run", other.run(), UNCHECKED);
    }
}
