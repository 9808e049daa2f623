/**
 * The boundary cases that the document names for the storage, the items, their values, and what is stored and moved:
 * before each method stands the sentence, and the method tries both sides of its boundary.
 */
public final class BoundaryItemsTest extends Bench {
    private static final int[] FAR = {LEAST, LEAST + 1, -1000, 1000, GREATEST - 1, GREATEST};

    public static void main(String[] args) {
        characters();
        places();
        items();
        digits();
        decimals();
        placeOfTheSign();
        textLengths();
        pictureLengths();
        pictures();
        digitsAndDecimalsOfPictures();
        times();
        behindEachOther();
        liesInTheStorage();
        layingKeepsTheStorage();
        laidAnew();
        valueOfNumber();
        signOfNumber();
        valueOfEdited();
        valueOfText();
        noSuchItemOrK();
        roomOnTheLeft();
        roomOnTheRight();
        signOfWhatIsStored();
        notSigned();
        roomInEdited();
        signOfEdited();
        suppressedDigits();
        suppressedCommas();
        digitAndPoint();
        moveToShorterAndLongerText();
        moveNumberToText();
        moveEditedToText();
        moveLiteralToText();
        moveAnyLiteral();
        moveOverItself();
        finish();
    }

    // Terms: "CHARACTERS are 0 to 41"; promise 5: "false, and nothing changes, if one is out of range".
    private static void characters() {
        LedgerProgram p = new LedgerProgram();
        for (int c = -3; c < 45; c++) {
            p.poke(5, 20);
            boolean good = c >= 0 && c <= 41;
            due("poke of character " + c, p.poke(5, c), good);
            due("peek after it", p.peek(5), good ? c : 20);
        }
        for (int c : FAR) {
            due("poke of character " + c, p.poke(5, c), false);
        }
        due("peek after all", p.peek(5), 20);
    }

    // Terms: "The STORAGE has 96 places of one character each, all spaces at first."
    private static void places() {
        LedgerProgram p = new LedgerProgram();
        for (int at = -3; at < 99; at++) {
            boolean there = at >= 0 && at <= 95;
            due("a new peek " + at, p.peek(at), there ? 10 : -1);
            due("poke at " + at, p.poke(at, 41 - Math.abs(at) % 42), there);
        }
        for (int at : FAR) {
            due("peek " + at, p.peek(at), -1);
            due("poke at " + at, p.poke(at, 1), false);
        }
        for (int at = 0; at < 96; at++) {
            due("peek " + at, p.peek(at), 41 - at % 42);
        }
    }

    // Terms: "ITEMS 0..11 lie in it, also over each other."
    private static void items() {
        LedgerProgram p = new LedgerProgram();
        put(p, 0, "1234567890123");
        for (int item = -2; item <= 16; item++) {
            boolean good = item >= 0 && item <= 11;
            due("number " + item, p.number(item, Math.max(item, 0), 2, 0, false, 1), good);
        }
        for (int item = 0; item < 12; item++) {
            due("value of " + item, p.value(item, 1), Integer.parseInt("1234567890123".substring(item, item + 2)));
        }
        for (int item = -2; item <= 16; item++) {
            boolean good = item >= 0 && item <= 11;
            due("text " + item, p.text(item, 0, 12, 1), good);
            due("edited " + item, p.edited(item, 0, picture("12"), 1), false);
            due("edited " + item, p.edited(item, 0, picture("21"), 1), good);
        }
        for (int item : FAR) {
            due("number " + item, p.number(item, 0, 1, 0, false, 1), false);
            due("text " + item, p.text(item, 0, 1, 1), false);
            due("edited " + item, p.edited(item, 0, 1, 1), false);
        }
    }

    // Terms: "NUMBER: 1 to 9 digits"; promise 2: "digits not 1..9".
    private static void digits() {
        LedgerProgram p = new LedgerProgram();
        put(p, 0, "+999999999999");
        for (int digits = -2; digits <= 12; digits++) {
            boolean good = digits >= 1 && digits <= 9;
            due(digits + " digits", p.number(0, 1, digits, 0, false, 1), good);
            due(digits + " digits and a sign", p.number(1, 0, digits, 0, true, 1), good);
            long nines = Long.parseLong("999999999".substring(0, good ? digits : digits < 1 ? 1 : 9));
            due("value of them", p.value(0, 1), digits < 1 ? -1 : nines);
            due("value of them with a sign", p.value(1, 1), digits < 1 ? -1 : nines);
        }
        for (int digits : FAR) {
            due(digits + " digits", p.number(0, 1, digits, 0, false, 1), false);
        }
    }

    // Promise 2: "decimals not 0..digits"; terms: "the last d of which (its DECIMALS) stand behind an imagined point".
    private static void decimals() {
        for (int digits = 1; digits <= 9; digits++) {
            LedgerProgram p = new LedgerProgram();
            for (int decimals : FAR) {
                due(decimals + " decimals", p.number(0, 0, digits, decimals, false, 1), false);
            }
            for (int decimals = -2; decimals <= digits + 2; decimals++) {
                boolean good = decimals >= 0 && decimals <= digits;
                due(decimals + " of " + digits, p.number(0, 0, digits, decimals, false, 1), good);
                if (good) {
                    runLines(p, MOVE, Z, 0, 1);
                    String one = "0".repeat(digits) + "1" + "0".repeat(decimals);
                    due("a 1 with " + decimals, stored(p, 0, digits), one.substring(one.length() - digits));
                }
            }
        }
    }

    // Terms: "if it is signed, a character for the sign stands before them".
    private static void placeOfTheSign() {
        LedgerProgram p = new LedgerProgram();
        due("a digit in the last place", p.number(0, 95, 1, 0, false, 1), true);
        due("a sign and no place for the digit", p.number(1, 95, 1, 0, true, 1), false);
        due("a sign and a digit", p.number(1, 94, 1, 0, true, 1), true);
        runLines(p, MOVE, Z, 1, -7);
        due("the sign, then the digit", stored(p, 93, 3), " -7");
        due("the digit alone", p.value(0, 1), 7);
    }

    // Terms: "TEXT: 1 to 12 characters"; promise 3: "if the length is not 1..12".
    private static void textLengths() {
        LedgerProgram p = new LedgerProgram();
        put(p, 0, "ABCDEFGHIJKLM");
        for (int length = -2; length <= 15; length++) {
            boolean good = length >= 1 && length <= 12;
            due("length " + length, p.text(0, 0, length, 1), good);
            if (good) {
                runLines(p, DISPLAY, 0, 0, 0);
                due("displayed", p.displayed(), length);
            }
        }
        for (int length : FAR) {
            due("length " + length, p.text(0, 0, length, 1), false);
        }
    }

    // Terms: "EDITED: a picture of 1 to 8 signs"; promise 4: "the digits base 8 of picture, the last one the lowest".
    private static void pictureLengths() {
        LedgerProgram p = new LedgerProgram();
        for (int length = 1; length <= 10; length++) {
            boolean good = length <= 8;
            due(length + " times 1", p.edited(0, 0, picture("1".repeat(length)), 1), good);
            due(length + " times 2", p.edited(0, 0, picture("2".repeat(length)), 1), good);
            if (length > 1) {
                due(length + " with 7", p.edited(0, 0, picture("7" + "3".repeat(length - 1)), 1), good);
            }
            if (good) {
                runLines(p, DISPLAY, 0, 0, 0);
                due("as many characters", p.displayed(), length);
            }
        }
        int[] none = {0, -1, -9, LEAST, LEAST + 1, GREATEST, picture("100000000"), picture("100000001"), 1 << 24, 1 << 30};
        for (int picture : none) {
            due("picture " + picture, p.edited(1, 0, picture, 1), false);
            due("no item by it", p.value(1, 1), -1);
        }
    }

    // Terms: "5 point (at most one), 6 minus, 7 plus (6 and 7 at most one of them, as the first sign)", "all signs 1 to 3
    // (at least one); no 2 or 3 stands behind a 1 or the point".
    private static boolean isPicture(String signs) {
        boolean known = signs.matches("[1-7]{1,8}");
        boolean onePoint = signs.indexOf('5') == signs.lastIndexOf('5');
        boolean signFirst = !signs.substring(1).matches(".*[67].*");
        boolean digit = signs.matches(".*[123].*");
        boolean lateSuppressed = signs.matches(".*[15].*[23].*");
        return known && onePoint && signFirst && digit && !lateSuppressed;
    }

    private static void pictures() {
        LedgerProgram p = new LedgerProgram();
        for (int picture = 0; picture < 8 * 8 * 8 * 8 * 8; picture++) {
            // An object is promised for 512 calls alone.
            p = picture % 500 == 0 ? new LedgerProgram() : p;
            String signs = Integer.toString(picture, 8);
            due("picture " + signs, p.edited(0, 0, picture, 1), isPicture(signs));
        }
        String[] parts = {"72222", "63433", "22241", "33311", "21511", "41115", "55111", "11111", "44444"};
        for (String before : parts) {
            p = new LedgerProgram();
            for (int last = 0; last < 8 * 8 * 7; last++) {
                String signs = before + Integer.toString(8 * 8 * 8 + last, 8).substring(1);
                due("picture " + signs, p.edited(0, 0, picture(signs), 1), isPicture(signs));
            }
        }
    }

    // Terms: "its decimals are the signs 1 to 3 behind the point, its digits all signs 1 to 3".
    private static void digitsAndDecimalsOfPictures() {
        String[] pictures = {"1", "11", "15", "51", "151", "511", "1511", "11511", "111511", "15111111", "51111111",
            "22222222", "21", "2151", "641511", "14541", "54141", "1145"};
        for (String signs : pictures) {
            String all = signs.replaceAll("[^123]", "");
            int point = signs.indexOf('5');
            String behind = point < 0 ? "" : signs.substring(point).replaceAll("[^123]", "");
            LedgerProgram p = new LedgerProgram();
            p.edited(0, 0, picture(signs), 1);
            p.number(1, 20, 9, 0, false, 1);
            p.number(2, 40, 9, 9, false, 1);
            put(p, 20, "987654321");
            put(p, 40, "123456789");
            runLines(p, MOVE, 1, 0, 0);
            String whole = "987654321" + "0".repeat(behind.length());
            due(signs + " of a whole number", p.value(0, 1), Long.parseLong(whole.substring(whole.length() - all.length())));
            runLines(p, MOVE, 2, 0, 0);
            due(signs + " of decimals", p.value(0, 1), Long.parseLong("0" + "123456789".substring(0, behind.length())));
            runLines(p, MOVE, 1, 0, 0, MOVE, 0, 1, 0);
            String kept = whole.substring(whole.length() - all.length(), whole.length() - behind.length());
            due(signs + " and back", p.value(1, 1), Long.parseLong("0" + kept));
        }
    }

    // Terms: "a TABLE of 1 to 9"; promise 2: "times not 1..9".
    private static void times() {
        LedgerProgram p = new LedgerProgram();
        for (int times = -2; times <= 12; times++) {
            boolean good = times >= 1 && times <= 9;
            due("number " + times + " times", p.number(0, 0, 1, 0, false, times), good);
            due("text " + times + " times", p.text(1, 0, 1, times), good);
            due("edited " + times + " times", p.edited(2, 0, 1, times), good);
            for (int item = 0; item < 3 && good; item++) {
                due("the last", p.value(item, times), 0);
                due("one more", p.value(item, times + 1), -1);
            }
        }
        for (int times : FAR) {
            due("number " + times + " times", p.number(0, 0, 1, 0, false, times), false);
            due("text " + times + " times", p.text(1, 0, 1, times), false);
            due("edited " + times + " times", p.edited(2, 0, 1, times), false);
        }
    }

    // Terms: "one behind the other without a gap"; promise 15: "number k (from 1 on)", "-1 if there is no such item or k".
    private static void behindEachOther() {
        LedgerProgram p = new LedgerProgram();
        put(p, 3, "-1+2-3+4-5+6-7+8-9+0");
        p.number(0, 3, 1, 0, true, 9);
        p.text(1, 4, 2, 9);
        p.edited(2, 3, picture("61"), 9);
        p.number(3, 4, 2, 0, false, 1);
        for (int k = -1; k <= 11; k++) {
            boolean there = k >= 1 && k <= 9;
            due("number " + k, p.value(0, k), there ? k % 2 == 1 ? -k : k : -1);
            due("text " + k, p.value(1, k), there ? k : -1);
            due("edited " + k, p.value(2, k), there ? k % 2 == 1 ? -k : k : -1);
            due("of a table of one, " + k, p.value(3, k), k == 1 ? 10 : -1);
        }
        for (int k : FAR) {
            due("number " + k, p.value(0, k), -1);
        }
    }

    // Promise 2: "or it does not lie in the storage" (3 and 4 likewise).
    private static void liesInTheStorage() {
        for (int length = 1; length <= 12; length++) {
            for (int times = 1; times <= 9; times++) {
                LedgerProgram p = new LedgerProgram();
                int last = 96 - length * times;
                int[] places = {LEAST, -97, -1, 0, last - 1, last, last + 1, 95, 96, GREATEST - length * times, GREATEST};
                for (int at : places) {
                    boolean lies = at >= 0 && at <= last;
                    String what = " of length " + length + " at " + at + ", times " + times;
                    due("text" + what, p.text(0, at, length, times), lies);
                    if (length <= 9) {
                        due("number" + what, p.number(1, at, length, 0, false, times), lies);
                    }
                    if (length >= 2 && length <= 10) {
                        due("signed" + what, p.number(2, at, length - 1, length - 1, true, times), lies);
                    }
                    if (length <= 8) {
                        due("edited" + what, p.edited(3, at, picture("2".repeat(length)), times), lies);
                    }
                }
            }
        }
    }

    // Promise 2: "The storage stays as it is, here and below".
    private static void layingKeepsTheStorage() {
        LedgerProgram p = new LedgerProgram();
        put(p, 0, "A-9*. ,+Z");
        p.number(0, 0, 4, 2, true, 1);
        p.text(1, 2, 7, 1);
        p.edited(2, 0, picture("722151"), 1);
        due("the storage", stored(p, 0, 10), "A-9*. ,+Z ");
        p.number(2, 1, 8, 0, false, 1);
        due("the storage after a change", stored(p, 0, 10), "A-9*. ,+Z ");
    }

    private static void lay(LedgerProgram p, int sort) {
        boolean laid = sort == 0 ? p.number(0, 0, 5, 2, true, 1) : sort == 1 ? p.number(0, 1, 4, 0, false, 2)
            : sort == 2 ? p.text(0, 0, 6, 1) : sort == 3 ? p.edited(0, 0, picture("621511"), 1) : p.edited(0, 1, picture("311"), 2);
        due("laid", laid, true);
    }

    /** All that the item does when it is read, told by the storage and the OUTPUT. */
    private static String behaviour(int... sorts) {
        LedgerProgram p = new LedgerProgram();
        for (int sort : sorts) {
            lay(p, sort);
        }
        p.number(1, 20, 9, 4, true, 1);
        p.text(2, 40, 12, 1);
        put(p, 0, "-123456789");
        runLines(p, DISPLAY, 0, 0, 0, MOVE, 0, 1, 0, MOVE, 0, 2, 0, TALLY, 0, 1, 1, DISPLAY, 1, 0, 0, MOVE, 0, 1, 0,
            MOVE, Z, 0, -7);
        return p.value(0, 1) + " " + p.value(0, 2) + " " + shown(p) + " " + stored(p, 0, 60);
    }

    // Promises 2 to 4: "Item becomes a NUMBER", "a TEXT", "EDITED": nothing is left of what it was.
    private static void laidAnew() {
        for (int before = 0; before < 5; before++) {
            for (int after = 0; after < 5; after++) {
                due(before + " laid anew as " + after, behaviour(before, after), behaviour(after));
            }
        }
    }

    // Terms: "its digits (a character that is no digit counts as 0)".
    private static void valueOfNumber() {
        LedgerProgram p = new LedgerProgram();
        p.number(0, 0, 3, 1, false, 1);
        put(p, 0, "909");
        for (int c = 0; c <= 41; c++) {
            p.poke(1, c);
            due("9, " + c + ", 9", p.value(0, 1), 909 + (c <= 9 ? 10 * c : 0));
        }
        put(p, 0, " Z*");
        due("no digit at all", p.value(0, 1), 0);
    }

    // Terms: "below 0 if it is signed and the sign is minus".
    private static void signOfNumber() {
        LedgerProgram p = new LedgerProgram();
        p.number(0, 0, 2, 0, true, 1);
        p.number(1, 0, 3, 0, false, 1);
        put(p, 1, "42");
        for (int c = 0; c <= 41; c++) {
            p.poke(0, c);
            due("sign " + c, p.value(0, 1), c == 11 ? -42 : 42);
            due(c + " before an unsigned one", p.value(1, 1), c <= 9 ? 100 * c + 42 : 42);
        }
        put(p, 0, "+-2");
        due("minus in place of a digit", p.value(0, 1), 2);
        put(p, 0, "-00");
        due("minus 0", p.value(0, 1), 0);
    }

    // Terms: "Of an edited item: its characters that are digits, in a row, ... below 0 if one is minus."
    private static void valueOfEdited() {
        LedgerProgram p = new LedgerProgram();
        p.edited(0, 0, picture("2221"), 1);
        for (int at = 0; at < 4; at++) {
            for (int c = 0; c <= 41; c++) {
                put(p, 0, "1234");
                p.poke(at, c);
                String row = "1234".substring(0, at) + (c <= 9 ? "" + c : "") + "1234".substring(at + 1);
                due("1234 with " + c + " at " + at, p.value(0, 1), Long.parseLong(c == 11 ? "-" + row : row));
            }
            p = new LedgerProgram();
            p.edited(0, 0, picture("2221"), 1);
        }
        due("spaces", p.value(0, 1), 0);
        put(p, 0, "----");
        due("minus alone", p.value(0, 1), 0);
        put(p, 0, "-1-2");
        due("minus twice", p.value(0, 1), -12);
        p.edited(1, 0, picture("22222221"), 1);
        put(p, 0, "99999999");
        due("eight digits", p.value(1, 1), 99999999);
        p.edited(2, 0, picture("1511"), 1);
        p.number(3, 20, 4, 2, true, 1);
        put(p, 0, "1234");
        runLines(p, MOVE, 2, 3, 0);
        due("a digit in the place of the point", stored(p, 20, 5), "+1234");
        put(p, 0, "A-Z7");
        runLines(p, MOVE, 2, 3, 0);
        due("fewer digits than decimals", stored(p, 20, 5), "-0007");
    }

    // Terms: "Of a text, for moves: its digits in a row, but at most the last nine, without decimals."
    private static void valueOfText() {
        String[] texts = {"1", "12345678", "123456789", "1234567890", "12345678901", "123456789012", "9A8B7C6D5E4F",
            "A123456789BC", "A1234567890B", "1A23456789B0", "999000000001", "990000000010", "000000000000", "900000000000",
            "A", "            ", "-5", "5-", "1.25", "0000000012"};
        for (String text : texts) {
            LedgerProgram p = new LedgerProgram();
            p.text(0, 30, text.length(), 1);
            p.number(1, 0, 9, 0, true, 1);
            p.number(2, 10, 9, 2, true, 1);
            put(p, 30, text);
            String row = text.replaceAll("[^0-9]", "");
            String last = row.substring(Math.max(0, row.length() - 9));
            long v = Long.parseLong("0" + last);
            due("value of " + text, p.value(0, 1), v);
            runLines(p, MOVE, 0, 1, 0, MOVE, 0, 2, 0);
            due("moved " + text, p.value(1, 1), v);
            due("moved to decimals " + text, p.value(2, 1), v % 10000000 * 100);
        }
    }

    // Promise 15: "-1 if there is no such item or k".
    private static void noSuchItemOrK() {
        LedgerProgram p = new LedgerProgram();
        for (int item = -2; item <= 17; item++) {
            due("value of " + item + " before", p.value(item, 1), -1);
        }
        p.number(0, 0, 1, 0, false, 2);
        p.number(11, 0, 1, 0, false, 1);
        for (int item = -2; item <= 17; item++) {
            due("value of " + item, p.value(item, 1), item == 0 || item == 11 ? 0 : -1);
            due("second of " + item, p.value(item, 2), item == 0 ? 0 : -1);
            due("0 of " + item, p.value(item, 0), -1);
        }
        for (int item : FAR) {
            due("value of " + item, p.value(item, 1), -1);
            due("value of " + item, p.value(item, item), -1);
        }
    }

    /** What a number of these digits and decimals holds after a MOVE of a number of nine digits, four of them decimals. */
    private static void stores(String signs, int decimals, boolean signed, String want) {
        LedgerProgram p = new LedgerProgram();
        int length = want.length();
        p.number(0, 0, 9, 4, true, 1);
        p.number(1, 20, signed ? length - 1 : length, decimals, signed, 1);
        put(p, 0, signs);
        runLines(p, MOVE, 0, 1, 0);
        due(signs + " to " + decimals + " decimals", stored(p, 19, length + 2), " " + want + " ");
    }

    // Terms: "digits that it has no room for are lost on both sides" (on the left).
    private static void roomOnTheLeft() {
        stores("+000990000", 0, true, "+99");
        stores("+001000000", 0, true, "+00");
        stores("+001990000", 0, true, "+99");
        stores("+999990000", 0, true, "+99999");
        stores("+999990000", 0, true, "+9999");
        stores("+999990000", 0, true, "+099999");
        stores("+123450000", 4, true, "+0000");
        stores("+123456789", 4, true, "+6789");
        stores("+123456789", 4, true, "+56789");
        stores("-123456789", 4, true, "-123456789");
        stores("-123456789", 0, true, "-000012345");
    }

    // Terms: "digits that it has no room for are lost on both sides" (on the right).
    private static void roomOnTheRight() {
        stores("+000019999", 4, true, "+19999");
        stores("+000019999", 3, true, "+1999");
        stores("+000019999", 0, true, "+1");
        stores("+000009999", 0, true, "+0");
        stores("+000009999", 1, true, "+9");
        stores("+000000999", 1, true, "+0");
        stores("+000019999", 5, true, "+199990");
        stores("+000019999", 8, true, "+199990000");
        stores("+000019999", 9, true, "+999900000");
    }

    // Terms: "a sign, if signed, is minus if what is stored is below 0, else plus".
    private static void signOfWhatIsStored() {
        stores("-000010000", 0, true, "-1");
        stores("-000000000", 0, true, "+0");
        stores("+000000000", 0, true, "+0");
        stores("+000010000", 0, true, "+1");
        stores("-000009999", 0, true, "+0");
        stores("-000009999", 1, true, "-09");
        stores("-001000000", 0, true, "+00");
        stores("-001010000", 0, true, "-01");
        stores("Z000010000", 0, true, "+1");
        stores(" 000010000", 0, true, "+1");
    }

    // Terms: "if not signed, the value without its sign is stored".
    private static void notSigned() {
        stores("-000010000", 0, false, "1");
        stores("+000010000", 0, false, "1");
        stores("-999999999", 4, false, "999999999");
        stores("-000009999", 0, false, "0");
    }

    /** What an edited item holds after a MOVE of a number of nine digits, four of them decimals. */
    private static void edits(String moved, String signs, String want) {
        LedgerProgram p = new LedgerProgram();
        p.number(0, 0, 9, 4, true, 1);
        due("picture " + signs, p.edited(1, 20, picture(signs), 1), true);
        put(p, 0, moved);
        runLines(p, MOVE, 0, 1, 0);
        due(moved + " to " + signs, stored(p, 19, want.length() + 2), " " + want + " ");
    }

    // Terms: "In an edited item likewise" (the digits that it has no room for).
    private static void roomInEdited() {
        edits("+000990000", "11", "99");
        edits("+001000000", "11", "00");
        edits("+001010000", "22", " 1");
        edits("+001000000", "22", "  ");
        edits("+000019999", "151", "1.9");
        edits("+000019999", "15", "1.");
        edits("+000009999", "15", "0.");
        edits("+000019999", "511", ".99");
        edits("+000019999", "15111111", "1.999900");
        edits("+123456789", "11111111", "00012345");
        edits("+123456789", "22222222", "   12345");
        edits("+123456789", "1151111", "45.6789");
    }

    // Terms: "6 minus if what is stored is below 0, else a space; 7 minus or plus", "without 6 and 7 drops the sign".
    private static void signOfEdited() {
        edits("-000010000", "61", "-1");
        edits("-000000000", "61", " 0");
        edits("+000010000", "61", " 1");
        edits("-000010000", "71", "-1");
        edits("-000000000", "71", "+0");
        edits("+000010000", "71", "+1");
        edits("-000010000", "1", "1");
        edits("-000010000", "2", "1");
        edits("-000009999", "61", " 0");
        edits("-000009999", "71", "+0");
        edits("-000009999", "6151", "-0.9");
        edits("-000000999", "6151", " 0.0");
        edits("-000000999", "7151", "+0.0");
        edits("-000100000", "61", " 0");
        edits("-000110000", "61", "-1");
        edits("-000100000", "72", "+ ");
        edits("-000110000", "72", "-1");
        edits("-000009999", "6251", "- .9");
    }

    // Terms: "2, 3 a digit, but a space (star) as long as it and all digits before it are 0".
    private static void suppressedDigits() {
        edits("+000000000", "222", "   ");
        edits("+000010000", "222", "  1");
        edits("+000100000", "222", " 10");
        edits("+001000000", "222", "100");
        edits("+001010000", "222", "101");
        edits("+000000000", "333", "***");
        edits("+000010000", "333", "**1");
        edits("+000100000", "333", "*10");
        edits("+001000000", "333", "100");
        edits("+000000000", "232", " * ");
        edits("+000000000", "323", "* *");
        edits("+000010000", "323", "* 1");
        edits("+000000000", "221", "  0");
        edits("+000000000", "33151", "**0.0");
        edits("+000009000", "22511", "  .90");
        edits("+000000000", "2", " ");
        edits("+000090000", "2", "9");
        edits("+000000000", "3", "*");
    }

    // Terms: "4 a comma, but as long as all digits before it are suppressed what the last of them is (a space if there are
    // none)".
    private static void suppressedCommas() {
        edits("+000000000", "2421", "   0");
        edits("+000990000", "2421", "  99");
        edits("+001000000", "2421", "1,00");
        edits("+000000000", "3431", "***0");
        edits("+000990000", "3431", "**99");
        edits("+001000000", "3431", "1,00");
        edits("+000000000", "3241", "*  0");
        edits("+000000000", "2341", " **0");
        edits("+000100000", "2341", " 1,0");
        edits("+000000000", "34421", "*** 0");
        edits("+000000000", "24331", "  **0");
        edits("+000090000", "41", " 9");
        edits("+000090000", "441", "  9");
        edits("-000090000", "6411", "- 09");
        edits("+000090000", "7431", "+ *9");
        edits("+000000000", "141", "0,0");
        edits("+000000000", "2141", " 0,0");
        edits("+000000000", "24", "  ");
        edits("+000000000", "34", "**");
        edits("+000010000", "34", "1,");
        edits("+000000000", "3415", "**0.");
    }

    // Terms: "1 a digit", "5 a point".
    private static void digitAndPoint() {
        edits("+000000000", "1", "0");
        edits("+000000000", "111", "000");
        edits("+000000000", "51", ".0");
        edits("+000000000", "15", "0.");
        edits("+000000000", "25", " .");
        edits("+000000000", "3511", "*.00");
    }

    /** What a text of each of some lengths holds after the MOVE of an item; the longest one gives all. */
    private static void moves(LedgerProgram p, int item, String all) {
        for (int length = 1; length <= 12; length++) {
            p.text(11, 60, length, 1);
            put(p, 59, "ZZZZZZZZZZZZZZ");
            runLines(p, MOVE, item, 11, 0);
            String padded = (all + "            ").substring(0, length);
            due("to a text of " + length, stored(p, 59, length + 2), "Z" + padded + "Z");
        }
    }

    // Terms: "MOVE to a text: the characters that the other item had, from the left on, ... the rest spaces."
    private static void moveToShorterAndLongerText() {
        LedgerProgram p = new LedgerProgram();
        p.text(0, 0, 3, 1);
        put(p, 0, "A-9Z");
        moves(p, 0, "A-9");
        p = new LedgerProgram();
        p.text(0, 0, 12, 1);
        put(p, 0, "ABCDEFGHIJKL");
        moves(p, 0, "ABCDEFGHIJKL");
    }

    // Terms: "of a number without its sign".
    private static void moveNumberToText() {
        LedgerProgram p = new LedgerProgram();
        p.number(0, 0, 3, 1, true, 1);
        put(p, 0, "-1Z0ABCDE");
        moves(p, 0, "1Z0");
        p = new LedgerProgram();
        p.number(0, 0, 4, 1, false, 1);
        put(p, 0, "-1Z0ABCDE");
        moves(p, 0, "-1Z0");
        p = new LedgerProgram();
        p.number(0, 0, 9, 9, true, 1);
        put(p, 0, "-012345678AB");
        moves(p, 0, "012345678");
    }

    private static void moveEditedToText() {
        LedgerProgram p = new LedgerProgram();
        p.edited(0, 0, picture("64222151"), 1);
        put(p, 0, "-  *1,.5ABC");
        moves(p, 0, "-  *1,.5");
    }

    // Terms: "(of 16 its digits without zeros in front, 0 being one digit)".
    private static void moveLiteralToText() {
        int[] literals = {0, 1, -1, 9, -9, 10, -10, 99, 100, 999999999, 1000000000, -1000000000, GREATEST, LEAST, LEAST + 1};
        for (int z : literals) {
            String all = Long.toString(Math.abs((long) z));
            LedgerProgram p = new LedgerProgram();
            int[] lengths = {1, 2, 3, 9, 10, 11, 12};
            for (int length : lengths) {
                p.text(0, 60, length, 1);
                put(p, 59, "ZZZZZZZZZZZZZZ");
                runLines(p, MOVE, Z, 0, z);
                String padded = (all + "            ").substring(0, length);
                due(z + " to a text of " + length, stored(p, 59, length + 2), "Z" + padded + "Z");
            }
        }
    }

    // Terms: "16 for the number z (any int)", stored in a number and in an edited item.
    private static void moveAnyLiteral() {
        int[] literals = {0, 1, -1, 999999999, 1000000000, 1000000001, -999999999, -1000000000, -1000000001, GREATEST, LEAST};
        for (int z : literals) {
            LedgerProgram p = new LedgerProgram();
            p.number(0, 0, 9, 0, true, 1);
            p.number(1, 10, 9, 5, false, 1);
            p.number(2, 20, 9, 9, true, 1);
            p.edited(3, 30, picture("61111111"), 1);
            p.edited(4, 40, picture("72222511"), 1);
            runLines(p, MOVE, Z, 0, z, MOVE, Z, 1, z, MOVE, Z, 2, z, MOVE, Z, 3, z, MOVE, Z, 4, z);
            due(z + " in nine digits", p.value(0, 1), z % 1000000000);
            due(z + " in four, not signed", p.value(1, 1), Math.abs((long) z % 10000) * 100000);
            due(z + " in decimals alone", stored(p, 20, 10), "+000000000");
            due(z + " in seven of a picture", p.value(3, 1), z % 10000000);
            due(z + " in four of a picture", p.value(4, 1), z % 10000 * 100);
        }
    }

    // Terms: "the characters that the other item had", though the two lie over each other.
    private static void moveOverItself() {
        for (int shift = -3; shift <= 3; shift++) {
            LedgerProgram p = new LedgerProgram();
            p.text(0, 10, 6, 1);
            p.text(1, 10 + shift, 6, 1);
            put(p, 6, "ABCDEFGHIJKLMN");
            runLines(p, MOVE, 0, 1, 0);
            String want = "ABCDEFGHIJKLMN".substring(0, 4 + shift) + "EFGHIJ" + "ABCDEFGHIJKLMN".substring(10 + shift);
            due("moved by " + shift, stored(p, 6, 14), want);
        }
        LedgerProgram p = new LedgerProgram();
        p.number(0, 0, 4, 0, true, 1);
        p.number(1, 1, 4, 2, true, 1);
        put(p, 0, "-9871 ");
        runLines(p, MOVE, 0, 1, 0);
        due("a number over a number", stored(p, 0, 6), "--7100");
    }
}
