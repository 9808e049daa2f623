import java.math.BigDecimal;
import java.math.MathContext;
import java.math.RoundingMode;
import java.util.ArrayDeque;
import java.util.ArrayList;
import java.util.Arrays;
import java.util.Deque;
import java.util.List;
import java.util.Random;

/** Random calls, the same ones every time, on the program and on a second model written with the Java library. */
public final class ModelTest {
    private static int wrong = 0;
    private static long looked = 0;
    private static final int[] outcomes = new int[5];

    public static void main(String[] args) {
        for (int seed = 0; seed < 6000 && wrong < 20; seed++) {
            new Session(seed).play();
        }
        System.out.println(looked + " answers compared, " + wrong + " differ; runs UNCHECKED, OK, LONG, RANGE, DEEP: "
            + Arrays.toString(outcomes));
        for (int number : outcomes) {
            if (number < 100) {
                System.out.println("an outcome is hardly tried");
                wrong++;
            }
        }
        if (wrong != 0) {
            System.exit(1);
        }
    }

    private static final class Item {
        char sort;
        int at;
        int length;
        int digits;
        int decimals;
        boolean signed;
        int times;
        String picture = "";
    }

    private static final class Frame {
        final int performer;
        int time;

        Frame(int performer) {
            this.performer = performer;
        }
    }

    /** The document once more, in the plainest form that the Java library allows. */
    private static final class Model {
        final int[] storage = new int[96];
        final Item[] items = new Item[12];
        final List<int[]> code = new ArrayList<>();
        boolean checked = false;
        int place = -1;
        int steps = 0;
        int index = 1;
        boolean size = false;
        final List<Integer> output = new ArrayList<>();

        Model() {
            Arrays.fill(storage, 10);
        }

        boolean lay(int item, Item made) {
            boolean good = item >= 0 && item < 12 && made.times >= 1 && made.times <= 9 && made.at >= 0
                && (long) made.at + (long) made.length * made.times <= 96;
            if (good) {
                items[item] = made;
                checked = false;
            }
            return good;
        }

        boolean number(int item, int at, int digits, int decimals, boolean signed, int times) {
            Item made = new Item();
            made.sort = 'n';
            made.at = at;
            made.digits = digits;
            made.decimals = decimals;
            made.signed = signed;
            made.times = times;
            made.length = digits + (signed ? 1 : 0);
            return digits >= 1 && digits <= 9 && decimals >= 0 && decimals <= digits && lay(item, made);
        }

        boolean text(int item, int at, int length, int times) {
            Item made = new Item();
            made.sort = 't';
            made.at = at;
            made.length = length;
            made.times = times;
            return length >= 1 && length <= 12 && lay(item, made);
        }

        boolean edited(int item, int at, int picture, int times) {
            if (picture <= 0) {
                return false;
            }
            Item made = new Item();
            made.sort = 'e';
            made.at = at;
            made.times = times;
            made.picture = Integer.toString(picture, 8);
            made.length = made.picture.length();
            made.digits = made.picture.replaceAll("[^123]", "").length();
            int point = made.picture.indexOf('5');
            made.decimals = point < 0 ? 0 : made.picture.substring(point).replaceAll("[^123]", "").length();
            boolean good = made.length <= 8 && made.picture.matches("[67]?[234]*[14]*(5[14]*)?") && made.digits > 0;
            return good && lay(item, made);
        }

        int from(Item item) {
            return item.at + (item.times > 1 ? (index - 1) * item.length : 0);
        }

        int[] characters(Item item, int from, boolean withSign) {
            return Arrays.copyOfRange(storage, from + (item.signed && !withSign ? 1 : 0), from + item.length);
        }

        BigDecimal value(Item item, int from) {
            StringBuilder digits = new StringBuilder("0");
            boolean minus = item.signed && storage[from] == 11;
            for (int c : characters(item, from, false)) {
                if (c < 10) {
                    digits.append(c);
                } else if (item.sort == 'n') {
                    digits.append('0');
                } else if (item.sort == 'e' && c == 11) {
                    minus = true;
                }
            }
            String all = digits.toString();
            if (item.sort == 't' && all.length() > 9) {
                all = all.substring(all.length() - 9);
            }
            BigDecimal v = new BigDecimal(all).movePointLeft(item.decimals);
            return minus ? v.negate() : v;
        }

        BigDecimal operand(int x, int z) {
            return x == 16 ? BigDecimal.valueOf(z) : value(items[x], from(items[x]));
        }

        void store(Item item, BigDecimal v) {
            String all = "0".repeat(20) + v.abs().setScale(item.decimals, RoundingMode.DOWN).unscaledValue();
            String kept = all.substring(all.length() - item.digits);
            boolean below = v.signum() < 0 && kept.matches(".*[1-9].*");
            int from = from(item);
            if (item.sort == 'n') {
                String s = (item.signed ? below ? "-" : "+" : "") + kept;
                put(from, s);
                return;
            }
            StringBuilder s = new StringBuilder();
            int next = 0;
            for (int i = 0; i < item.picture.length(); i++) {
                char sign = item.picture.charAt(i);
                String before = s.toString().replaceAll("[-+. ,*]", "");
                if (sign == '1') {
                    s.append(kept.charAt(next++));
                } else if (sign == '2' || sign == '3') {
                    boolean zeros = kept.substring(0, next + 1).matches("0*");
                    s.append(zeros ? sign == '2' ? ' ' : '*' : kept.charAt(next));
                    next++;
                } else if (sign == '4') {
                    String digitSigns = item.picture.substring(0, i).replaceAll("[4567]", "");
                    boolean star = digitSigns.endsWith("3");
                    s.append(!before.isEmpty() ? ',' : star ? '*' : ' ');
                } else if (sign == '5') {
                    s.append('.');
                } else {
                    s.append(below ? '-' : sign == '7' ? '+' : ' ');
                }
            }
            put(from, s.toString());
        }

        void put(int from, String s) {
            for (int i = 0; i < s.length(); i++) {
                storage[from + i] = "0123456789 -+.,*".indexOf(s.charAt(i));
            }
        }

        int paragraphs() {
            int number = 0;
            for (int[] line : code) {
                number += line[0] == 0 ? 1 : 0;
            }
            return number;
        }

        boolean isSort(int x, String sorts) {
            return x == 16 ? sorts.indexOf('z') >= 0
                : x >= 0 && x < 12 && items[x] != null && sorts.indexOf(items[x].sort) >= 0;
        }

        boolean isFault(int[] line) {
            int x = line[1];
            int y = line[2];
            switch (line[0]) {
                case 1: return !isSort(x, "ntez") || !isSort(y, "nte");
                case 2: case 3: case 4: case 5: case 6: case 7: case 8: case 9:
                    return !isSort(x, "nz") || !isSort(y, "n");
                case 10: return !isSort(x, "nt") || !isSort(y, "nt") || line[3] < 0 || line[3] > 5;
                case 12: return !isSort(x, "nt");
                case 15: case 16: return x < 0 || y < x || y >= paragraphs();
                case 17: return x < 0 || x >= paragraphs();
                case 19: return !isSort(x, "ntez");
                case 20: return !isSort(x, "nz");
                case 22: return !isSort(x, "nte") || !isSort(y, "n");
                default: return false;
            }
        }

        boolean check() {
            place = findFault();
            checked = place < 0;
            return checked;
        }

        int findFault() {
            if (code.isEmpty()) {
                return 0;
            }
            Deque<Boolean> hasElse = new ArrayDeque<>();
            for (int i = 0; i < code.size(); i++) {
                int op = code.get(i)[0];
                if ((i == 0 && op != 0) || isFault(code.get(i)) || (op == 0 && !hasElse.isEmpty())) {
                    return i;
                }
                if (op >= 10 && op <= 12) {
                    hasElse.push(false);
                    if (hasElse.size() > 8) {
                        return i;
                    }
                } else if (op == 13) {
                    if (hasElse.isEmpty() || hasElse.pop()) {
                        return i;
                    }
                    hasElse.push(true);
                } else if (op == 14) {
                    if (hasElse.isEmpty()) {
                        return i;
                    }
                    hasElse.pop();
                }
            }
            return hasElse.isEmpty() ? -1 : code.size();
        }

        /** Behind the ELSE (if wanted) or the END of what instruction i stands in or begins. */
        int behind(int i, boolean elseToo) {
            int inside = 0;
            for (int j = i + 1; ; j++) {
                int op = code.get(j)[0];
                if (inside == 0 && (op == 14 || (op == 13 && elseToo))) {
                    return j + 1;
                }
                inside += op >= 10 && op <= 12 ? 1 : op == 14 ? -1 : 0;
            }
        }

        int start(int paragraph) {
            int left = paragraph;
            for (int i = 0; ; i++) {
                if (code.get(i)[0] == 0 && left-- == 0) {
                    return i;
                }
            }
        }

        int paragraphOf(int i) {
            int number = -1;
            for (int j = 0; j <= i; j++) {
                number += code.get(j)[0] == 0 ? 1 : 0;
            }
            return number;
        }

        boolean misses(int x) {
            return x != 16 && items[x].times > 1 && (index < 1 || index > items[x].times);
        }

        int run() {
            if (!checked) {
                return -1;
            }
            steps = 0;
            index = 1;
            size = false;
            output.clear();
            Deque<Frame> frames = new ArrayDeque<>();
            int at = 0;
            while (true) {
                if (at == code.size()) {
                    return 0;
                }
                if (steps == 500) {
                    return 1;
                }
                steps++;
                int[] line = code.get(at);
                int op = line[0];
                int x = line[1];
                int y = line[2];
                int z = line[3];
                List<Integer> used = List.of();
                if ((op >= 1 && op <= 10) || op == 22) {
                    used = List.of(x, y);
                } else if (op == 12 || op == 19 || op == 20) {
                    used = List.of(x);
                }
                for (int operand : used) {
                    if (misses(operand)) {
                        return 2;
                    }
                }
                if (op == 18) {
                    return 0;
                }
                if (op == 17) {
                    at = start(x);
                    continue;
                }
                if ((op == 15 || op == 16) && z > 0) {
                    if (frames.size() == 6) {
                        return 3;
                    }
                    frames.push(new Frame(at));
                    at = begin(frames.peek());
                    continue;
                }
                int next = at + 1;
                if (op >= 10 && op <= 12 && !holds(op, x, y, z)) {
                    next = behind(at, true);
                } else if (op == 13) {
                    next = behind(at, false);
                } else {
                    carryOut(op, x, y, z);
                }
                while (!frames.isEmpty() && (next == code.size() || code.get(next)[0] == 0)
                    && code.get(frames.peek().performer)[2] == paragraphOf(next - 1)) {
                    Frame latest = frames.peek();
                    if (latest.time < code.get(latest.performer)[3]) {
                        next = begin(latest);
                        break;
                    }
                    frames.pop();
                    next = latest.performer + 1;
                }
                at = next;
            }
        }

        int begin(Frame frame) {
            frame.time++;
            if (code.get(frame.performer)[0] == 16) {
                index = frame.time;
            }
            return start(code.get(frame.performer)[1]);
        }

        boolean holds(int op, int x, int y, int z) {
            if (op == 11) {
                return size;
            }
            Item left = items[x];
            if (op == 12) {
                return Arrays.stream(characters(left, from(left), false)).allMatch(c -> c < 10);
            }
            Item right = items[y];
            int order;
            if (left.sort == 't' || right.sort == 't') {
                order = Arrays.compare(padded(left), padded(right));
            } else {
                order = operand(x, 0).compareTo(operand(y, 0));
            }
            boolean[] answers = {order < 0, order == 0, order > 0, order <= 0, order != 0, order >= 0};
            return answers[z];
        }

        int[] padded(Item item) {
            int[] own = characters(item, from(item), false);
            int[] all = Arrays.copyOf(own, 12);
            Arrays.fill(all, own.length, 12, 10);
            return all;
        }

        void carryOut(int op, int x, int y, int z) {
            if (op == 1 && items[y].sort != 't') {
                store(items[y], operand(x, z));
            } else if (op == 1) {
                int[] moved;
                if (x == 16) {
                    moved = BigDecimal.valueOf(z).abs().toPlainString().chars().map(c -> c - '0').toArray();
                } else {
                    moved = characters(items[x], from(items[x]), false);
                }
                int to = from(items[y]);
                for (int i = 0; i < items[y].length; i++) {
                    storage[to + i] = i < moved.length ? moved[i] : 10;
                }
            } else if (op >= 2 && op <= 9) {
                compute(op, x, y, z);
            } else if (op == 19 && x != 16) {
                for (int c : characters(items[x], from(items[x]), true)) {
                    output.add(c);
                }
            } else if (op == 20) {
                index = operand(x, z).intValue();
            } else if (op == 21) {
                index += z;
            } else if (op == 22) {
                int[] all = characters(items[x], from(items[x]), true);
                store(items[y], BigDecimal.valueOf(Arrays.stream(all).filter(c -> c == z).count()));
            }
        }

        void compute(int op, int x, int y, int z) {
            Item to = items[y];
            BigDecimal left = operand(y, 0);
            BigDecimal right = operand(x, z);
            RoundingMode mode = op >= 6 ? RoundingMode.HALF_UP : RoundingMode.DOWN;
            int plain = op >= 6 ? op - 4 : op;
            if (plain == 5 && right.signum() == 0) {
                size = true;
                return;
            }
            BigDecimal result;
            if (plain == 5) {
                result = left.divide(right, to.decimals, mode);
            } else {
                MathContext exact = MathContext.UNLIMITED;
                result = plain == 2 ? left.add(right, exact)
                    : plain == 3 ? left.subtract(right, exact) : left.multiply(right, exact);
                result = result.setScale(to.decimals, mode);
            }
            size = result.abs().compareTo(BigDecimal.TEN.pow(to.digits - to.decimals)) >= 0;
            if (!size) {
                store(to, result);
            }
        }
    }

    /** One object and one model with the same calls, fewer than 512 of them. */
    private static final class Session {
        final Random random;
        final int seed;
        final LedgerProgram program = new LedgerProgram();
        final Model model = new Model();
        int calls = 0;

        Session(int seed) {
            this.seed = seed;
            this.random = new Random(seed);
        }

        int upTo(int bound) {
            return random.nextInt(bound);
        }

        void same(String what, long got, long want) {
            looked++;
            calls++;
            if (got != want) {
                wrong++;
                System.out.println("seed " + seed + ": " + what + " answered " + got + ", the model " + want);
            }
        }

        void same(String what, boolean got, boolean want) {
            same(what, got ? 1 : 0, want ? 1 : 0);
        }

        void play() {
            for (int i = 0; i < 12; i++) {
                layItem(i);
            }
            int pokes = upTo(60);
            for (int i = 0; i < pokes; i++) {
                poke();
            }
            for (int round = 0; round < 3; round++) {
                if (round > 0) {
                    same("drop", program.drop(), model.code.size());
                    model.code.clear();
                    model.checked = false;
                    layItem(upTo(12));
                }
                write();
                same("check", program.check(), model.check());
                same("place", program.place(), model.place);
                int outcome = model.run();
                outcomes[outcome + 1]++;
                same("run", program.run(), outcome);
                lookAtRun();
                if (upTo(4) == 0) {
                    poke();
                    same("run", program.run(), model.run());
                    lookAtRun();
                }
            }
            for (int at = 0; at < 96; at++) {
                same("peek " + at, program.peek(at), model.storage[at]);
            }
            if (calls > 512) {
                wrong++;
                System.out.println("too many calls: " + calls);
            }
        }

        void lookAtRun() {
            same("steps", program.steps(), model.steps);
            same("index", program.index(), model.index);
            same("size", program.size(), model.size);
            same("displayed", program.displayed(), model.output.size());
            for (int i = 0; i < 12; i++) {
                int k = upTo(11) - (upTo(2) == 0 ? 5 : 0);
                Item item = model.items[i];
                boolean there = item != null && k >= 1 && k <= item.times;
                long due = there ? model.value(item, item.at + (k - 1) * item.length).unscaledValue().longValue() : -1;
                same("value " + i + " " + k, program.value(i, k), due);
            }
            for (int i = 0; i < 10; i++) {
                int k = upTo(1 + Math.min(100, model.output.size() + 2)) - 1;
                boolean there = k >= 0 && k < 96 && k < model.output.size();
                same("output " + k, program.output(k), there ? model.output.get(k) : -1);
            }
        }

        void poke() {
            int at = upTo(98) - 1;
            int c = upTo(3) > 0 ? upTo(16) : upTo(44) - 1;
            boolean good = at >= 0 && at < 96 && c >= 0 && c < 42;
            if (good) {
                model.storage[at] = c;
            }
            same("poke", program.poke(at, c), good);
        }

        void layItem(int i) {
            int at = upTo(20) == 0 ? upTo(100) - 2 : upTo(60);
            int times = upTo(3) > 0 ? 1 : upTo(10);
            int sort = upTo(4);
            if (sort == 0) {
                int length = upTo(14);
                same("text", program.text(i, at, length, times), model.text(i, at, length, times));
            } else if (sort == 1) {
                int picture = picture();
                same("edited " + Integer.toString(picture, 8), program.edited(i, at, picture, times),
                    model.edited(i, at, picture, times));
            } else {
                int digits = upTo(12) == 0 ? upTo(12) : 1 + upTo(9);
                int decimals = upTo(12) == 0 ? upTo(12) - 1 : upTo(digits + 1);
                boolean signed = upTo(3) > 0;
                same("number", program.number(i, at, digits, decimals, signed, times),
                    model.number(i, at, digits, decimals, signed, times));
            }
        }

        int picture() {
            int kind = upTo(8);
            if (kind == 0) {
                return upTo(1 << 25);
            }
            if (kind == 1) {
                return random.nextInt();
            }
            StringBuilder s = new StringBuilder();
            if (upTo(2) == 0) {
                s.append(6 + upTo(2));
            }
            for (int i = upTo(5); i > 0; i--) {
                s.append(2 + upTo(3));
            }
            for (int i = upTo(4); i > 0; i--) {
                s.append(upTo(4) == 0 ? 4 : 1);
            }
            if (upTo(2) == 0) {
                s.append(5);
                for (int i = upTo(3); i > 0; i--) {
                    s.append(upTo(6) == 0 ? 4 : 1);
                }
            }
            return s.length() == 0 ? 0 : Integer.parseInt(s.substring(0, Math.min(9, s.length())), 8);
        }

        int literal() {
            switch (upTo(7)) {
                case 0: return random.nextInt();
                case 1: return upTo(2) == 0 ? Integer.MIN_VALUE : Integer.MAX_VALUE;
                case 2: return upTo(200000) - 100000;
                default: return upTo(30) - 10;
            }
        }

        /** An item of one of these sorts if there is one, or 16 if that is among them; now and then anything. */
        int operand(String sorts) {
            if (upTo(150) == 0) {
                return upTo(20) - 2;
            }
            for (int i = 0; i < 40; i++) {
                int x = upTo(15);
                x = x >= 12 ? 16 : x;
                if (model.isSort(x, sorts)) {
                    return x;
                }
            }
            return 0;
        }

        void append(int op, int x, int y, int z) {
            int due = op < 0 || op > 22 || model.code.size() >= 48 ? -1 : model.code.size();
            same("add", program.add(op, x, y, z), due);
            if (due >= 0) {
                model.code.add(new int[] {op, x, y, z});
                model.checked = false;
            }
        }

        void write() {
            int paragraphs = 1 + upTo(6);
            int length = 4 + upTo(46);
            int open = 0;
            int begun = 0;
            for (int i = 0; i < length; i++) {
                if (i == 0 || (open == 0 && begun < paragraphs && upTo(length) < 2 * paragraphs)) {
                    append(upTo(100) == 0 ? 18 : 0, 0, 0, 0);
                    begun++;
                } else if (open > 0 && upTo(3) == 0) {
                    append(14, 0, 0, 0);
                    open--;
                } else if (open > 0 && upTo(8) == 0) {
                    append(13, 0, 0, 0);
                    if (upTo(5) > 0) {
                        line(paragraphs);
                        append(14, 0, 0, 0);
                        open--;
                    }
                } else {
                    open += line(paragraphs);
                }
            }
            for (; open > 0 && upTo(60) > 0; open--) {
                append(14, 0, 0, 0);
            }
            for (; begun < paragraphs && upTo(60) > 0; begun++) {
                append(0, 0, 0, 0);
                line(paragraphs);
            }
        }

        /** Appends one instruction; answers whether it opened an IF. */
        int line(int paragraphs) {
            int kind = upTo(20);
            int op = kind < 4 ? 1 : kind < 9 ? 2 + upTo(8) : kind < 12 ? 10 + upTo(3) : 15 + upTo(8);
            int x = upTo(paragraphs);
            int y = Math.min(paragraphs - 1, x + upTo(2));
            if (op == 18 && upTo(3) > 0) {
                op = 19;
            }
            if (op == 17 && upTo(2) > 0) {
                op = 21;
            }
            switch (op) {
                case 1: append(op, operand("ntez"), operand("nte"), literal()); break;
                case 10: append(op, operand("nt"), operand("nt"), upTo(100) == 0 ? upTo(9) - 1 : upTo(6)); break;
                case 11: append(op, upTo(20), upTo(20), upTo(20)); break;
                case 12: append(op, operand("nt"), 0, 0); break;
                case 15: case 16: append(op, x, y, upTo(20) == 0 ? literal() : upTo(5)); break;
                case 17: append(op, x, 0, 0); break;
                case 19: append(op, operand("ntez"), 0, 0); break;
                case 20: append(op, operand("nz"), 0, upTo(6) == 0 ? literal() : 1 + upTo(3)); break;
                case 21: append(op, 0, 0, upTo(9) == 0 ? literal() : upTo(3) - 1); break;
                case 22: append(op, operand("nte"), operand("n"), upTo(14)); break;
                default: append(op, operand("nz"), operand("n"), literal());
            }
            return op >= 10 && op <= 12 ? 1 : 0;
        }
    }
}
