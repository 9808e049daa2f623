/** A small business language over decimal items in one storage, as the project's document promises it. */
public final class LedgerProgram {
    public static final int OK = 0, LONG = 1, RANGE = 2, DEEP = 3, UNCHECKED = -1;

    private static final int PLACES = 96, CHARACTERS = 42, ITEMS = 12, INSTRUCTIONS = 48, BOUNDARIES = 49;
    private static final int MOST_DIGITS = 9, MOST_TEXT = 12, MOST_SIGNS = 8, MOST_TIMES = 9;
    private static final int MOST_STEPS = 500, MOST_PERFORMS = 6, MOST_IFS = 8;
    private static final long NINE_DIGITS = 1000000000L;

    private static final int SPACE = 10, MINUS = 11, PLUS = 12, POINT = 13, COMMA = 14, STAR = 15;

    private static final int NO_ITEM = 0, NUMBER = 1, TEXT = 2, EDITED = 3;

    /** The operand that stands for the number z. */
    private static final int LITERAL = 16;

    private static final int SIGN_DIGIT = 1, SIGN_SPACE = 2, SIGN_STAR = 3, SIGN_COMMA = 4;
    private static final int SIGN_POINT = 5, SIGN_MINUS = 6, SIGN_PLUS = 7;

    private static final int PARAGRAPH = 0, MOVE = 1, ADD = 2, SUBTRACT = 3, MULTIPLY = 4, DIVIDE = 5;
    private static final int ADD_ROUNDED = 6, DIVIDE_ROUNDED = 9;
    private static final int IF = 10, IF_SIZE = 11, IF_NUMERIC = 12, ELSE = 13, END = 14;
    private static final int PERFORM = 15, VARYING = 16, GO_TO = 17, STOP = 18, DISPLAY = 19;
    private static final int SET_INDEX = 20, CHANGE_INDEX = 21, TALLY = 22;

    /** What a step answers while the run is not over. */
    private static final int GOING = -2;
    private static final int NO_FAULT = -1;

    private final int[] storage = new int[PLACES];

    private final int[] itemSort = new int[ITEMS];
    private final int[] itemAt = new int[ITEMS];
    private final int[] itemLength = new int[ITEMS];
    private final int[] itemTimes = new int[ITEMS];
    private final int[] itemDigits = new int[ITEMS];
    private final int[] itemDecimals = new int[ITEMS];
    /** 1 for the sign that stands before a number's digits, else 0. */
    private final int[] itemSignPlaces = new int[ITEMS];
    private final int[] itemPicture = new int[ITEMS];

    private final int[] opOf = new int[INSTRUCTIONS];
    private final int[] xOf = new int[INSTRUCTIONS];
    private final int[] yOf = new int[INSTRUCTIONS];
    private final int[] zOf = new int[INSTRUCTIONS];
    private int count = 0;

    private boolean checked = false;
    private int faultPlace = NO_FAULT;
    /** Where each paragraph begins; behind the last one stands the program's end. */
    private final int[] paragraphStart = new int[BOUNDARIES];
    private int paragraphs = 0;
    /** Where a false IF, or an ELSE that is come to, goes on. */
    private final int[] jump = new int[INSTRUCTIONS];
    /** The IFs that are open while checking, each given by its IF or, once there is one, by its ELSE. */
    private final int[] openIf = new int[MOST_IFS];
    private int open = 0;

    private int here = 0;
    private int stepsUsed = 0;
    private int indexNow = 1;
    private boolean sizeNow = false;
    private final int[] performAt = new int[MOST_PERFORMS];
    private final int[] performTime = new int[MOST_PERFORMS];
    private int performs = 0;
    private final int[] shown = new int[PLACES];
    private int shownCount = 0;

    private final int[] leftCharacters = new int[MOST_TEXT];
    private final int[] rightCharacters = new int[MOST_TEXT];
    private final int[] digitRow = new int[MOST_SIGNS];

    public LedgerProgram() {
        for (int i = 0; i < PLACES; i++) {
            storage[i] = SPACE;
        }
    }

    public boolean number(int item, int at, int digits, int decimals, boolean signed, int times) {
        if (digits < 1 || digits > MOST_DIGITS || decimals < 0 || decimals > digits) {
            return false;
        }
        int signPlaces = signed ? 1 : 0;
        int length = signPlaces + digits;
        if (!canLie(item, at, length, times)) {
            return false;
        }
        lay(item, NUMBER, at, length, times);
        itemDigits[item] = digits;
        itemDecimals[item] = decimals;
        itemSignPlaces[item] = signPlaces;
        return true;
    }

    public boolean text(int item, int at, int length, int times) {
        if (length < 1 || length > MOST_TEXT || !canLie(item, at, length, times)) {
            return false;
        }
        lay(item, TEXT, at, length, times);
        return true;
    }

    public boolean edited(int item, int at, int picture, int times) {
        int length = signCount(picture);
        if (!isPicture(picture, length) || !canLie(item, at, length, times)) {
            return false;
        }
        lay(item, EDITED, at, length, times);
        itemPicture[item] = picture;
        itemDigits[item] = pictureDigits(picture, length, false);
        itemDecimals[item] = pictureDigits(picture, length, true);
        return true;
    }

    public boolean poke(int at, int c) {
        if (at < 0 || at >= PLACES || c < 0 || c >= CHARACTERS) {
            return false;
        }
        storage[at] = c;
        return true;
    }

    public int add(int op, int x, int y, int z) {
        if (op < PARAGRAPH || op > TALLY || count >= INSTRUCTIONS) {
            return -1;
        }
        int added = count;
        opOf[added] = op;
        xOf[added] = x;
        yOf[added] = y;
        zOf[added] = z;
        count = added + 1;
        checked = false;
        return added;
    }

    public int drop() {
        int dropped = count;
        count = 0;
        checked = false;
        return dropped;
    }

    public boolean check() {
        faultPlace = firstFault();
        checked = faultPlace == NO_FAULT;
        return checked;
    }

    public int place() {
        return faultPlace;
    }

    public int run() {
        if (!checked) {
            return UNCHECKED;
        }
        here = 0;
        stepsUsed = 0;
        indexNow = 1;
        sizeNow = false;
        performs = 0;
        shownCount = 0;
        int outcome = GOING;
        // One turn more than there are steps: the last one finds out whether another instruction is come to.
        for (int turn = 0; turn <= MOST_STEPS && outcome == GOING; turn++) {
            outcome = takeStep();
        }
        return outcome;
    }

    public int steps() {
        return stepsUsed;
    }

    public int index() {
        return indexNow;
    }

    public boolean size() {
        return sizeNow;
    }

    public int peek(int at) {
        return at < 0 || at >= PLACES ? -1 : storage[at];
    }

    public long value(int item, int k) {
        if (!isItem(item) || k < 1 || k > itemTimes[item]) {
            return -1;
        }
        return valueAt(item, itemAt[item] + (k - 1) * itemLength[item]);
    }

    public int output(int k) {
        return k < 0 || k >= PLACES || k >= shownCount ? -1 : shown[k];
    }

    public int displayed() {
        return shownCount;
    }

    // Items

    private boolean canLie(int item, int at, int length, int times) {
        if (item < 0 || item >= ITEMS || times < 1 || times > MOST_TIMES) {
            return false;
        }
        // Comparing with what is left over keeps a huge place from wrapping around.
        return at >= 0 && at <= PLACES - length * times;
    }

    private void lay(int item, int sort, int at, int length, int times) {
        itemSort[item] = sort;
        itemAt[item] = at;
        itemLength[item] = length;
        itemTimes[item] = times;
        itemDigits[item] = 0;
        itemDecimals[item] = 0;
        itemSignPlaces[item] = 0;
        itemPicture[item] = 0;
        checked = false;
    }

    /** How many signs a picture has; 0 if it is below 1 or has too many. */
    private static int signCount(int picture) {
        int rest = picture;
        int length = 0;
        for (int i = 0; i < MOST_SIGNS && rest > 0; i++) {
            rest >>= 3;
            length++;
        }
        return rest == 0 ? length : 0;
    }

    private static int signAt(int picture, int length, int i) {
        return (picture >> (3 * (length - 1 - i))) & 7;
    }

    private static boolean isDigitSign(int sign) {
        return sign >= SIGN_DIGIT && sign <= SIGN_STAR;
    }

    private static boolean isPicture(int picture, int length) {
        int digits = 0;
        boolean point = false;
        boolean mayBeSuppressed = true;
        for (int i = 0; i < length; i++) {
            int sign = signAt(picture, length, i);
            if (sign == 0 || (sign >= SIGN_MINUS && i > 0) || (sign == SIGN_POINT && point)) {
                return false;
            }
            if ((sign == SIGN_SPACE || sign == SIGN_STAR) && !mayBeSuppressed) {
                return false;
            }
            if (sign == SIGN_DIGIT || sign == SIGN_POINT) {
                mayBeSuppressed = false;
            }
            if (sign == SIGN_POINT) {
                point = true;
            }
            if (isDigitSign(sign)) {
                digits++;
            }
        }
        return digits > 0;
    }

    private static int pictureDigits(int picture, int length, boolean onlyBehindPoint) {
        int digits = 0;
        boolean counting = !onlyBehindPoint;
        for (int i = 0; i < length; i++) {
            int sign = signAt(picture, length, i);
            if (sign == SIGN_POINT) {
                counting = true;
            }
            if (counting && isDigitSign(sign)) {
                digits++;
            }
        }
        return digits;
    }

    // Checking

    private int firstFault() {
        if (count == 0 || opOf[0] != PARAGRAPH) {
            return 0;
        }
        findParagraphs();
        open = 0;
        for (int i = 0; i < count; i++) {
            if (!hasGoodOperands(i) || !nests(i)) {
                return i;
            }
        }
        return open > 0 ? count : NO_FAULT;
    }

    private void findParagraphs() {
        paragraphs = 0;
        for (int i = 0; i < count; i++) {
            if (opOf[i] == PARAGRAPH) {
                paragraphStart[paragraphs] = i;
                paragraphs++;
            }
        }
        paragraphStart[paragraphs] = count;
    }

    private boolean hasGoodOperands(int i) {
        int op = opOf[i];
        int x = xOf[i];
        int y = yOf[i];
        if (op >= ADD && op <= DIVIDE_ROUNDED) {
            return (x == LITERAL || isSort(x, NUMBER)) && isSort(y, NUMBER);
        }
        switch (op) {
            case MOVE:
                return (x == LITERAL || isItem(x)) && isItem(y);
            case IF:
                return isComparable(x) && isComparable(y) && zOf[i] >= 0 && zOf[i] <= 5;
            case IF_NUMERIC:
                return isComparable(x);
            case PERFORM:
            case VARYING:
                return isParagraph(x) && isParagraph(y) && x <= y;
            case GO_TO:
                return isParagraph(x);
            case DISPLAY:
                return x == LITERAL || isItem(x);
            case SET_INDEX:
                return x == LITERAL || isSort(x, NUMBER);
            case TALLY:
                return isItem(x) && isSort(y, NUMBER);
            default:
                return true;
        }
    }

    private boolean isItem(int operand) {
        return operand >= 0 && operand < ITEMS && itemSort[operand] != NO_ITEM;
    }

    private boolean isSort(int operand, int sort) {
        return operand >= 0 && operand < ITEMS && itemSort[operand] == sort;
    }

    private boolean isComparable(int operand) {
        return isSort(operand, NUMBER) || isSort(operand, TEXT);
    }

    private boolean isParagraph(int number) {
        return number >= 0 && number < paragraphs;
    }

    /** Follows the IFs up to instruction i and notes where they jump; false if i does not fit into them. */
    private boolean nests(int i) {
        int op = opOf[i];
        if (op == PARAGRAPH) {
            return open == 0;
        }
        if (op == IF || op == IF_SIZE || op == IF_NUMERIC) {
            if (open >= MOST_IFS) {
                return false;
            }
            openIf[open] = i;
            open++;
            return true;
        }
        if (op != ELSE && op != END) {
            return true;
        }
        if (open < 1) {
            return false;
        }
        int begun = openIf[open - 1];
        if (op == ELSE && opOf[begun] == ELSE) {
            return false;
        }
        jump[begun] = i + 1;
        if (op == ELSE) {
            openIf[open - 1] = i;
        } else {
            open--;
        }
        return true;
    }

    // Running

    private int takeStep() {
        if (here >= count) {
            return OK;
        }
        if (stepsUsed >= MOST_STEPS) {
            return LONG;
        }
        stepsUsed++;
        int op = opOf[here];
        int x = xOf[here];
        int y = yOf[here];
        int z = zOf[here];
        if (isOutOfTable(op, x, y)) {
            return RANGE;
        }
        int next = here + 1;
        switch (op) {
            case MOVE:
                move(x, y, z);
                break;
            case IF:
            case IF_SIZE:
            case IF_NUMERIC:
                next = holds(op, x, y, z) ? next : jump[here];
                break;
            case ELSE:
                next = jump[here];
                break;
            case PERFORM:
            case VARYING:
                if (z > 0) {
                    return beginPerform();
                }
                break;
            case GO_TO:
                // Not by way of goOn: a GO TO reaches no paragraph's end, even if it leads to the next paragraph.
                here = paragraphStart[x];
                return GOING;
            case STOP:
                return OK;
            case DISPLAY:
                display(x);
                break;
            case SET_INDEX:
                setIndex(x, z);
                break;
            case CHANGE_INDEX:
                indexNow += z;
                break;
            case TALLY:
                tally(x, y, z);
                break;
            default:
                if (op >= ADD && op <= DIVIDE_ROUNDED) {
                    compute(op, x, y, z);
                }
        }
        goOn(next);
        return GOING;
    }

    private boolean isOutOfTable(int op, int x, int y) {
        boolean two = (op >= MOVE && op <= IF) || op == TALLY;
        boolean one = two || op == IF_NUMERIC || op == DISPLAY || op == SET_INDEX;
        return (one && isMissed(x)) || (two && isMissed(y));
    }

    private boolean isMissed(int operand) {
        return isItem(operand) && itemTimes[operand] > 1 && (indexNow < 1 || indexNow > itemTimes[operand]);
    }

    private int beginPerform() {
        if (performs >= MOST_PERFORMS) {
            return DEEP;
        }
        performAt[performs] = here;
        performTime[performs] = 0;
        performs++;
        beginTime();
        return GOING;
    }

    private void beginTime() {
        int latest = performs - 1;
        int performing = performAt[latest];
        performTime[latest]++;
        if (opOf[performing] == VARYING) {
            indexNow = performTime[latest];
        }
        here = paragraphStart[xOf[performing]];
    }

    /** Goes on at a place that an instruction leads to in its own paragraph, or at that paragraph's end. */
    private void goOn(int next) {
        here = next;
        // What is behind a PERFORM that is over can be the end that the one before it waits for.
        for (int i = 0; i < MOST_PERFORMS && performs > 0; i++) {
            int latest = performs - 1;
            int performing = performAt[latest];
            if (here != paragraphStart[yOf[performing] + 1]) {
                return;
            }
            if (performTime[latest] < zOf[performing]) {
                beginTime();
                return;
            }
            performs = latest;
            here = performing + 1;
        }
    }

    private boolean holds(int op, int x, int y, int relation) {
        if (op == IF_SIZE) {
            return sizeNow;
        }
        if (op == IF_NUMERIC) {
            return isNumeric(x);
        }
        int order = isSort(x, TEXT) || isSort(y, TEXT) ? orderOfCharacters(x, y) : orderOfValues(x, y);
        switch (relation) {
            case 0:
                return order < 0;
            case 1:
                return order == 0;
            case 2:
                return order > 0;
            case 3:
                return order <= 0;
            case 4:
                return order != 0;
            default:
                return order >= 0;
        }
    }

    private boolean isNumeric(int item) {
        int from = placeNow(item);
        for (int i = itemSignPlaces[item]; i < itemLength[item]; i++) {
            if (storage[from + i] > 9) {
                return false;
            }
        }
        return true;
    }

    private int orderOfCharacters(int x, int y) {
        takeCharacters(x, leftCharacters);
        takeCharacters(y, rightCharacters);
        for (int i = 0; i < MOST_TEXT; i++) {
            if (leftCharacters[i] != rightCharacters[i]) {
                return leftCharacters[i] < rightCharacters[i] ? -1 : 1;
            }
        }
        return 0;
    }

    private int orderOfValues(int x, int y) {
        int decimals = itemDecimals[x] > itemDecimals[y] ? itemDecimals[x] : itemDecimals[y];
        long left = operandValue(x, 0);
        long right = operandValue(y, 0);
        left = lengthened(left, decimals - itemDecimals[x]);
        right = lengthened(right, decimals - itemDecimals[y]);
        return left < right ? -1 : left > right ? 1 : 0;
    }

    private void display(int x) {
        if (x == LITERAL) {
            return;
        }
        int from = placeNow(x);
        for (int i = 0; i < itemLength[x]; i++) {
            if (shownCount < PLACES) {
                shown[shownCount] = storage[from + i];
            }
            shownCount++;
        }
    }

    private void setIndex(int x, int z) {
        long v = operandValue(x, z);
        int decimals = operandDecimals(x);
        indexNow = (int) shortened(v, decimals, false);
    }

    private void tally(int x, int y, int c) {
        int from = placeNow(x);
        int found = 0;
        for (int i = 0; i < itemLength[x]; i++) {
            if (storage[from + i] == c) {
                found++;
            }
        }
        store(y, found, 0);
    }

    private void move(int x, int y, int z) {
        if (!isSort(y, TEXT)) {
            long v = operandValue(x, z);
            int decimals = operandDecimals(x);
            store(y, v, decimals);
            return;
        }
        // All characters are taken before one is put, for the two can lie over each other.
        if (x == LITERAL) {
            takeDigits(z, leftCharacters);
        } else {
            takeCharacters(x, leftCharacters);
        }
        int to = placeNow(y);
        for (int i = 0; i < itemLength[y]; i++) {
            storage[to + i] = leftCharacters[i];
        }
    }

    private void compute(int op, int x, int y, int z) {
        boolean rounded = op >= ADD_ROUNDED;
        int plainOp = rounded ? op - (ADD_ROUNDED - ADD) : op;
        long left = operandValue(y, 0);
        long right = operandValue(x, z);
        int leftDecimals = itemDecimals[y];
        int rightDecimals = operandDecimals(x);
        if (plainOp == DIVIDE && right == 0) {
            sizeNow = true;
            return;
        }
        long result;
        if (plainOp == MULTIPLY) {
            result = shortened(left * right, rightDecimals, rounded);
        } else if (plainOp == DIVIDE) {
            left = lengthened(left, rightDecimals);
            result = quotient(left, right, rounded);
        } else {
            int decimals = leftDecimals > rightDecimals ? leftDecimals : rightDecimals;
            left = lengthened(left, decimals - leftDecimals);
            right = lengthened(right, decimals - rightDecimals);
            long exact = plainOp == SUBTRACT ? left - right : left + right;
            result = shortened(exact, decimals - leftDecimals, rounded);
        }
        long limit = tenTo(itemDigits[y]);
        sizeNow = result >= limit || result <= -limit;
        if (!sizeNow) {
            store(y, result, leftDecimals);
        }
    }

    // Values and characters

    /** Where the one begins that INDEX says; INDEX has been looked at before. */
    private int placeNow(int item) {
        return itemTimes[item] > 1 ? itemAt[item] + (indexNow - 1) * itemLength[item] : itemAt[item];
    }

    private long operandValue(int operand, int z) {
        if (operand == LITERAL) {
            return z;
        }
        int from = placeNow(operand);
        return valueAt(operand, from);
    }

    private int operandDecimals(int operand) {
        return operand == LITERAL ? 0 : itemDecimals[operand];
    }

    private long valueAt(int item, int from) {
        boolean gaps = itemSort[item] != NUMBER;
        boolean minus = false;
        int first = itemSignPlaces[item];
        long sum = 0;
        for (int i = first; i < itemLength[item]; i++) {
            int c = storage[from + i];
            if (c <= 9) {
                sum = (sum * 10 + c) % NINE_DIGITS;
            } else if (!gaps) {
                sum = sum * 10;
            }
            if (c == MINUS && itemSort[item] == EDITED) {
                minus = true;
            }
        }
        if (first > 0) {
            minus = storage[from] == MINUS;
        }
        return minus ? -sum : sum;
    }

    private void store(int item, long v, int decimals) {
        int from = placeNow(item);
        int more = itemDecimals[item] - decimals;
        long stored = more >= 0 ? lengthened(v, more) : shortened(v, -more, false);
        stored = stored % tenTo(itemDigits[item]);
        if (itemSort[item] == EDITED) {
            putEdited(item, from, stored);
        } else {
            putNumber(item, from, stored);
        }
    }

    private void putNumber(int item, int from, long stored) {
        long rest = stored < 0 ? -stored : stored;
        int first = itemSignPlaces[item];
        for (int i = itemLength[item] - 1; i >= first; i--) {
            storage[from + i] = (int) (rest % 10);
            rest = rest / 10;
        }
        if (first > 0) {
            storage[from] = stored < 0 ? MINUS : PLUS;
        }
    }

    private void putEdited(int item, int from, long stored) {
        long rest = stored < 0 ? -stored : stored;
        for (int i = itemDigits[item] - 1; i >= 0; i--) {
            digitRow[i] = (int) (rest % 10);
            rest = rest / 10;
        }
        int length = itemLength[item];
        int nextDigit = 0;
        boolean suppressed = true;
        int filler = SPACE;
        for (int i = 0; i < length; i++) {
            int sign = signAt(itemPicture[item], length, i);
            int c = SPACE;
            if (isDigitSign(sign)) {
                int digit = digitRow[nextDigit];
                nextDigit++;
                suppressed = suppressed && digit == 0 && sign != SIGN_DIGIT;
                filler = sign == SIGN_STAR ? STAR : SPACE;
                c = suppressed ? filler : digit;
            } else if (sign == SIGN_COMMA) {
                c = suppressed ? filler : COMMA;
            } else if (sign == SIGN_POINT) {
                c = POINT;
            } else if (stored < 0) {
                c = MINUS;
            } else if (sign == SIGN_PLUS) {
                c = PLUS;
            }
            storage[from + i] = c;
        }
    }

    /** The characters of an item, of a number without its sign, with spaces up to the greatest length. */
    private void takeCharacters(int item, int[] into) {
        int skipped = itemSignPlaces[item];
        int from = placeNow(item) + skipped;
        int length = itemLength[item] - skipped;
        for (int i = 0; i < MOST_TEXT; i++) {
            into[i] = i < length ? storage[from + i] : SPACE;
        }
    }

    private static void takeDigits(int z, int[] into) {
        long all = z < 0 ? -(long) z : z;
        int length = 0;
        long rest = all;
        for (int i = 0; i < MOST_TEXT && (i == 0 || rest > 0); i++) {
            rest = rest / 10;
            length++;
        }
        rest = all;
        for (int i = MOST_TEXT - 1; i >= 0; i--) {
            into[i] = SPACE;
            if (i < length) {
                into[i] = (int) (rest % 10);
                rest = rest / 10;
            }
        }
    }

    // Exact arithmetic on whole numbers of decimals: no item has more than nine digits, so a long holds every result.

    private static long tenTo(int power) {
        long result = 1;
        for (int i = 0; i < power && i < MOST_DIGITS; i++) {
            result = result * 10;
        }
        return result;
    }

    private static long lengthened(long v, int decimals) {
        return v * tenTo(decimals);
    }

    /** Takes decimals away, towards zero or to the nearest with halves away from zero. */
    private static long shortened(long v, int decimals, boolean rounded) {
        long result = v;
        for (int i = 0; i < decimals; i++) {
            // Only the first digit that is lost decides which whole number is the nearest.
            if (rounded && i == decimals - 1) {
                result = result < 0 ? result - 5 : result + 5;
            }
            result = result / 10;
        }
        return result;
    }

    private static long quotient(long dividend, long divisor, boolean rounded) {
        if (divisor == 0) {
            return 0;
        }
        long above = dividend < 0 ? -dividend : dividend;
        long below = divisor < 0 ? -divisor : divisor;
        long result = above / below;
        long rest = above % below;
        if (rounded && rest >= below - rest) {
            result++;
        }
        return (dividend < 0) == (divisor < 0) ? result : -result;
    }
}
