import java.util.function.Supplier;

/** What the tests share: names for the instructions, and short ways to fill, run and read a program. */
abstract class Bench {
    static final int PARAGRAPH = 0, MOVE = 1, ADD = 2, SUBTRACT = 3, MULTIPLY = 4, DIVIDE = 5;
    static final int ADD_R = 6, SUBTRACT_R = 7, MULTIPLY_R = 8, DIVIDE_R = 9;
    static final int IF = 10, IF_SIZE = 11, IF_NUMERIC = 12, ELSE = 13, END = 14;
    static final int PERFORM = 15, VARYING = 16, GO_TO = 17, STOP = 18, DISPLAY = 19;
    static final int SET_INDEX = 20, CHANGE_INDEX = 21, TALLY = 22;
    /** The operand for the number z. */
    static final int Z = 16;
    static final int LEAST = Integer.MIN_VALUE, GREATEST = Integer.MAX_VALUE;
    static final String CHARACTERS = "0123456789 -+.,*ABCDEFGHIJKLMNOPQRSTUVWXYZ";

    private static int wrong = 0;
    private static int looked = 0;

    static void finish() {
        System.out.println(looked + " answers looked at, " + wrong + " wrong");
        if (wrong != 0) {
            System.exit(1);
        }
    }

    static void due(String what, long got, long want) {
        looked++;
        if (got != want) {
            wrong++;
            System.out.println(what + " answered " + got + ", due is " + want);
        }
    }

    static void due(String what, boolean got, boolean want) {
        due(what, got ? 1 : 0, want ? 1 : 0);
    }

    static void due(String what, String got, String want) {
        looked++;
        if (!got.equals(want)) {
            wrong++;
            System.out.println(what + " answered '" + got + "', due is '" + want + "'");
        }
    }

    static void put(LedgerProgram p, int at, String characters) {
        for (int i = 0; i < characters.length(); i++) {
            due("poke", p.poke(at + i, CHARACTERS.indexOf(characters.charAt(i))), true);
        }
    }

    static String stored(LedgerProgram p, int at, int length) {
        StringBuilder s = new StringBuilder();
        for (int i = at; i < at + length; i++) {
            s.append(CHARACTERS.charAt(p.peek(i)));
        }
        return s.toString();
    }

    static String shown(LedgerProgram p) {
        StringBuilder s = new StringBuilder();
        for (int k = 0; p.output(k) >= 0; k++) {
            s.append(CHARACTERS.charAt(p.output(k)));
        }
        return s.toString();
    }

    /** Appends instructions, each given as op, x, y, z. */
    static void write(LedgerProgram p, int... parts) {
        for (int i = 0; i < parts.length; i += 4) {
            p.add(parts[i], parts[i + 1], parts[i + 2], parts[i + 3]);
        }
    }

    /** A new program in place of the old one, run. */
    static int runAll(LedgerProgram p, int... parts) {
        p.drop();
        write(p, parts);
        due("check", p.check(), true);
        return p.run();
    }

    /** The same for a program of one paragraph, whose PARAGRAPH need not be given. */
    static int runLines(LedgerProgram p, int... parts) {
        p.drop();
        p.add(PARAGRAPH, 0, 0, 0);
        write(p, parts);
        due("check", p.check(), true);
        return p.run();
    }

    /** Where the fault of a program is. */
    static int fault(LedgerProgram p, int... parts) {
        p.drop();
        write(p, parts);
        boolean good = p.check();
        due("check and place", good, p.place() == -1);
        due("run follows check", p.run() == LedgerProgram.UNCHECKED, !good);
        return p.place();
    }

    /** Octal digits as the signs of a picture. */
    static int picture(String signs) {
        return Integer.parseInt(signs, 8);
    }

    /** All that an object tells without being changed. */
    static String state(LedgerProgram p) {
        StringBuilder s = new StringBuilder(stored(p, 0, 96));
        for (int item = 0; item < 12; item++) {
            s.append(' ').append(p.value(item, 1)).append(' ').append(p.value(item, 2));
        }
        s.append("; place ").append(p.place()).append(", steps ").append(p.steps());
        s.append(", index ").append(p.index()).append(", size ").append(p.size());
        s.append(", displayed ").append(p.displayed()).append(": ").append(shown(p));
        return s.toString();
    }

    /** A call that is refused leaves the object as one made likewise without that call, for every later call too. */
    static void refused(String what, Supplier<LedgerProgram> maker, Refused call) {
        LedgerProgram p = maker.get();
        LedgerProgram twin = maker.get();
        due(what + " is refused", call.isRefused(p), true);
        due(what + " changes nothing", state(p), state(twin));
        due(what + ", run after it", p.run(), twin.run());
        due(what + ", check after it", p.check(), twin.check());
        due(what + ", run after that", p.run(), twin.run());
        due(what + ", all after that", state(p), state(twin));
        due(what + ", drop after that", p.drop(), twin.drop());
    }

    interface Refused {
        boolean isRefused(LedgerProgram p);
    }
}
