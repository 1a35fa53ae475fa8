/** The boundary cases of the terms that promise 8 uses, the format and its places: a test for each sentence. */
public final class PlacesBoundaryTest {
    private static final Checks CHECKS = new Checks();
    private static final String PROMISE = "Terms, promise 8";
    private static final String FORTY = "abcdefghijklmnopqrstuvwxyz0123456789ABCD";

    public static void main(String[] args) {
        formatOf400();
        flagsAgainAndAgain();
        widthOfDigits();
        widthBeyondItsLimit();
        kinds();
        theEndIsBad();
        anotherByteIsBad();
        percent();
        argumentsInOrder();
        decimal();
        signAheadOfOneNotBelowZero();
        hexadecimal();
        octal();
        zeroItself();
        lowest8Bits();
        wordAsItIs();
        integersDigitsAsAWord();
        noIntegerCannotBe();
        shorterThanTheWidth();
        minusSetsBlanksBehind();
        zerosBehindTheSign();
        blanksAhead();
        otherBytes();
        CHECKS.finish();
    }

    private static void formatOf400() {
        CHECKS.sentence(PROMISE, "A FORMAT is a text of at most 400 bytes");
        CHECKS.dueFilled("", "");
        CHECKS.dueFilled("a", "a");
        CHECKS.dueFilled("a".repeat(400), "a".repeat(400));
        CHECKS.dueFilled("a".repeat(398) + "7", "a".repeat(398) + "%d", 7L);
        CHECKS.dueFilled("%".repeat(200), "%".repeat(400));
        CHECKS.dueFilled(FormatMill.BAD, "a".repeat(399) + "%");
    }

    private static void flagsAgainAndAgain() {
        CHECKS.sentence(PROMISE, "any of - 0 + and byte 32 (again and again)");
        CHECKS.dueFilled("7", "%d", 7L);
        CHECKS.dueFilled("7|7|+7| 7", "%-d|%0d|%+d|% d", 7L, 7L, 7L, 7L);
        CHECKS.dueFilled("7  |007|+7| 7", "%--3d|%003d|%++d|%  d", 7L, 7L, 7L, 7L);
        CHECKS.dueFilled("+7 |+7 |+7 ", "%-0+ 3d|% +0-3d|%0 -+0 -+3d", 7L, 7L, 7L);
        CHECKS.dueFilled("7", "%" + "-".repeat(398) + "d", 7L);
        CHECKS.dueFilled("7", "%" + "0".repeat(398) + "d", 7L);
        CHECKS.dueFilled("+7", "%" + "+".repeat(398) + "d", 7L);
        CHECKS.dueFilled(" 7", "%" + " ".repeat(398) + "d", 7L);
        CHECKS.dueFilled("+7", "%" + "-0+ ".repeat(99) + "- d", 7L);
        CHECKS.dueFilled("+7|7", "%+d|%d", 7L, 7L);
        CHECKS.dueFilled("7  |  7", "%-3d|%3d", 7L, 7L);
        CHECKS.dueFilled("007|  7", "%03d|%3d", 7L, 7L);
        CHECKS.dueFilled(" 7|7", "% d|%d", 7L, 7L);
    }

    private static void widthOfDigits() {
        CHECKS.sentence(PROMISE, "then digits (the WIDTH");
        int[] widths = {1, 2, 9, 10, 11, 99, 100, 101, 109, 190, 999, 1000, 1023, 1024};
        for (int width : widths) {
            CHECKS.dueFilled(" ".repeat(width - 1) + "7", "%" + width + "d", 7L);
            CHECKS.dueFilled("0".repeat(width - 1) + "7", "%0" + width + "d", 7L);
            CHECKS.dueFilled("7" + " ".repeat(width - 1), "%-" + width + "d", 7L);
        }
        CHECKS.dueFilled("         7|7", "%10d|%d", 7L, 7L);
        CHECKS.dueFilled("  7|  8", "%3d|%3d", 7L, 8L);
        CHECKS.dueFilled(FormatMill.LONG, "%1025d", 7L);
    }

    private static void widthBeyondItsLimit() {
        CHECKS.sentence(PROMISE, "100000 where it would be more");
        String[] widths = {"99999", "100000", "100001", "999999", "2147483647", "2147483648", "2147483649", "4294967295",
            "4294967296", "4294967297", "9223372036854775807", "9223372036854775808", "18446744073709551615",
            "18446744073709551616", "18446744073709551617", "1" + "0".repeat(397), "9".repeat(398)};
        for (String width : widths) {
            for (String kind : new String[] {"d", "x", "X", "o", "c", "s"}) {
                CHECKS.dueFilled(FormatMill.LONG, "%" + width + kind, 7L);
            }
            CHECKS.dueFilled("%", "%" + width + "%");
        }
    }

    private static void kinds() {
        CHECKS.sentence(PROMISE, "then one of d x X o c s %");
        CHECKS.dueFilled("91|5b|5B|133|[|91|%", "%d|%x|%X|%o|%c|%s|%%", 91L, 91L, 91L, 91L, 91L, 91L);
        CHECKS.dueFilled("dxXocs", "dxXocs");
        CHECKS.dueFilled("7d7x7X7o7c7s", "%dd%dx%dX%do%dc%ds", 7L, 7L, 7L, 7L, 7L, 7L);
    }

    private static void theEndIsBad() {
        CHECKS.sentence(PROMISE, "the end, or another byte there, makes the format BAD", "the end");
        for (String ending : new String[] {"%", "%-", "%0", "%+", "% ", "%1", "%9", "%05", "%-0+ 5", "%100001", "%%%"}) {
            CHECKS.dueFilled(FormatMill.BAD, ending, 1L);
            CHECKS.dueFilled(FormatMill.BAD, "ab" + ending, 1L);
            CHECKS.dueFilled(FormatMill.BAD, "a".repeat(400 - ending.length()) + ending, 1L);
        }
        CHECKS.dueFilled(FormatMill.BAD, "%" + "0".repeat(399), 1L);
        CHECKS.dueFilled(FormatMill.BAD, "%" + "9".repeat(399), 1L);
        FormatMill mill = Checks.loaded("%d%d", 1L, 2L);
        Checks.setFormat(mill, "%d%");
        CHECKS.due("make() where an older format had a d behind the end", mill.make(), FormatMill.BAD);
    }

    private static void anotherByteIsBad() {
        CHECKS.sentence(PROMISE, "the end, or another byte there, makes the format BAD", "another byte");
        for (int b = 0; b < 256; b++) {
            boolean kind = "dxXocs%".indexOf(b) >= 0;
            boolean digit = b >= '0' && b <= '9';
            boolean flag = "-0+ ".indexOf(b) >= 0;
            if (!kind && !digit && !flag) {
                CHECKS.dueFilled(FormatMill.BAD, "%" + (char) b, 1L);
                CHECKS.dueFilled(FormatMill.BAD, "%-" + (char) b + "d", 1L);
            }
            if (!kind && !digit) {
                CHECKS.dueFilled(FormatMill.BAD, "%5" + (char) b + "d", 1L);
                CHECKS.dueFilled(FormatMill.BAD, "%-5" + (char) b + "5d", 1L);
            }
        }
    }

    private static void percent() {
        CHECKS.sentence(PROMISE, "%% is a % (whatever flags and width)");
        for (String inside : new String[] {"", "-", "0", "+", " ", "-0+ ", "1", "2", "9", "-9", "09", "1025", "100001"}) {
            CHECKS.dueFilled("<%>", "<%" + inside + "%>");
            CHECKS.dueFilled("%7", "%" + inside + "%%d", 7L);
        }
        CHECKS.dueFilled("%d", "%%d", 7L);
    }

    private static void argumentsInOrder() {
        CHECKS.sentence(PROMISE, "The other places take the ARGUMENTS in order");
        CHECKS.dueFilled("1,2,three,%,4", "%d,%d,%s,%%,%d", 1L, 2L, "three", 4L, 5L);
        Object[] twenty = new Object[20];
        StringBuilder want = new StringBuilder();
        for (int i = 0; i < twenty.length; i++) {
            twenty[i] = i % 2 == 0 ? (Object) Long.valueOf(i) : "w" + i;
            want.append(twenty[i]);
        }
        CHECKS.dueFilled(want.toString(), "%s".repeat(20), twenty);
        CHECKS.dueFilled(FormatMill.FEW, "%s".repeat(21), twenty);
        CHECKS.dueFilled("0%", "%s%%", twenty);
    }

    private static void decimal() {
        CHECKS.sentence(PROMISE, "d an integer in decimal");
        long[] values = {0, 1, -1, 9, 10, 11, -9, -10, -11, 255, 256, Integer.MAX_VALUE, Integer.MIN_VALUE, 1L << 32,
            Long.MAX_VALUE, Long.MAX_VALUE - 1, Long.MIN_VALUE, Long.MIN_VALUE + 1};
        for (long value : values) {
            CHECKS.dueFilled(Long.toString(value), "%d", value);
            CHECKS.dueFilled(Long.toString(value), "%d", Long.toString(value));
        }
    }

    private static void signAheadOfOneNotBelowZero() {
        CHECKS.sentence(PROMISE, "ahead of one not below 0: + with that flag, else byte 32 with that one");
        for (long value : new long[] {0, 1, Long.MAX_VALUE}) {
            CHECKS.dueFilled("+" + value, "%+d", value);
            CHECKS.dueFilled(" " + value, "% d", value);
            CHECKS.dueFilled("+" + value, "%+ d", value);
            CHECKS.dueFilled("+" + value, "% +d", value);
        }
        for (long value : new long[] {-1, Long.MIN_VALUE}) {
            for (String flags : new String[] {"+", " ", "+ ", " +"}) {
                CHECKS.dueFilled(Long.toString(value), "%" + flags + "d", value);
            }
        }
        CHECKS.dueFilled("+0| 0|0", "%+d|% d|%d", "-0", "-0", "-0");
        CHECKS.dueFilled("+5|5", "%+d|%d", "+5", "+5");
        CHECKS.dueFilled("5|5|5|A|5|5", "%+x|%+X|%+o|%+c|%+s|% s", 5L, 5L, 5L, 65L, 5L, 5L);
        CHECKS.dueFilled("5|5|5|A", "% x|% X|% o|% c", 5L, 5L, 5L, 65L);
    }

    private static void hexadecimal() {
        CHECKS.sentence(PROMISE, "x X o its 64 bits in hexadecimal (small or great letters) or octal, without 0s ahead",
            "x and X");
        for (int digit = 1; digit < 16; digit++) {
            String small = Integer.toHexString(digit);
            CHECKS.dueFilled(small + "|" + small.toUpperCase(), "%x|%X", (long) digit, (long) digit);
        }
        for (int zeros = 0; zeros < 16; zeros++) {
            long value = 0xFL << 4 * zeros;
            String text = "f" + "0".repeat(zeros);
            CHECKS.dueFilled(text + "|" + text.toUpperCase(), "%x|%X", value, value);
        }
        CHECKS.dueFilled("ffffffffffffffff|FFFFFFFFFFFFFFFF", "%x|%X", -1L, -1L);
        CHECKS.dueFilled("8000000000000000|7fffffffffffffff", "%x|%x", Long.MIN_VALUE, Long.MAX_VALUE);
        CHECKS.dueFilled("fffffffffffffff|1000000000000000", "%x|%x", (1L << 60) - 1, 1L << 60);
        CHECKS.dueFilled("ffffffff80000000", "%x", (long) Integer.MIN_VALUE);
    }

    private static void octal() {
        CHECKS.sentence(PROMISE, "x X o its 64 bits in hexadecimal (small or great letters) or octal, without 0s ahead",
            "o");
        CHECKS.dueFilled("1|7|10|77|100", "%o|%o|%o|%o|%o", 1L, 7L, 8L, 63L, 64L);
        for (int zeros = 0; zeros <= 20; zeros++) {
            CHECKS.dueFilled("7" + "0".repeat(zeros), "%o", 7L << 3 * zeros);
        }
        CHECKS.dueFilled("1777777777777777777777", "%o", -1L);
        CHECKS.dueFilled("1000000000000000000000", "%o", Long.MIN_VALUE);
        CHECKS.dueFilled("777777777777777777777", "%o", Long.MAX_VALUE);
    }

    private static void zeroItself() {
        CHECKS.sentence(PROMISE, "without 0s ahead (but 0 itself)");
        CHECKS.dueFilled("0|0|0|0", "%d|%x|%X|%o", 0L, 0L, 0L, 0L);
        CHECKS.dueFilled("0|0|0|0", "%d|%x|%X|%o", "0000", "-0", "0x0000", "+00");
    }

    private static void lowest8Bits() {
        CHECKS.sentence(PROMISE, "c the byte of its lowest 8 bits");
        for (int b = 0; b < 256; b++) {
            String want = String.valueOf((char) b);
            CHECKS.dueFilled(want.repeat(3), "%c%c%c", (long) b, b - 256L, b + 256L);
        }
        CHECKS.dueFilled("\0\u00ff\0\u00ff", "%c%c%c%c", Long.MIN_VALUE, Long.MAX_VALUE, 1L << 32, -1L);
    }

    private static void wordAsItIs() {
        CHECKS.sentence(PROMISE, "s a word as it is");
        CHECKS.dueFilled("", "%s", "");
        CHECKS.dueFilled(FORTY, "%s", FORTY);
        CHECKS.dueFilled("%d%", "%s", "%d%");
        for (int b = 0; b < 256; b++) {
            CHECKS.dueFilled(String.valueOf((char) b), "%s", String.valueOf((char) b));
        }
        for (String word : new String[] {"+7", "007", "-0", "0x1F", "-0x1", "9223372036854775808", "0x"}) {
            CHECKS.dueFilled(word, "%s", word);
        }
    }

    private static void integersDigitsAsAWord() {
        CHECKS.sentence(PROMISE, "an integer's decimal digits");
        for (long value : new long[] {0, -1, 10, Long.MAX_VALUE, Long.MIN_VALUE}) {
            CHECKS.dueFilled(Long.toString(value), "%s", value);
            CHECKS.dueFilled(Long.toString(value), "%+ 0s", value);
        }
    }

    private static void noIntegerCannotBe() {
        CHECKS.sentence(PROMISE, "d x X o c of an argument that is no integer can't be (WORD)");
        for (String kind : new String[] {"d", "x", "X", "o", "c"}) {
            for (String word : new String[] {"", "-", "word", "0x", "9223372036854775808", FORTY}) {
                CHECKS.dueFilled(FormatMill.WORD, "%" + kind, word);
                CHECKS.dueFilled(FormatMill.WORD, "%-09" + kind, word);
            }
            CHECKS.dueFilled(FormatMill.WORD, "%" + kind + "%" + kind, 1L, "word");
            CHECKS.dueFilled("word", "%s", "word");
            CHECKS.dueFilled("%", "%%", "word");
        }
    }

    private static void shorterThanTheWidth() {
        CHECKS.sentence(PROMISE, "What is shorter than the width");
        Object[][] rows = {{"d", 123L, "123"}, {"d", -12L, "-12"}, {"x", 0xabcL, "abc"}, {"X", 0xabcL, "ABC"},
            {"o", 0123L, "123"}, {"s", "xyz", "xyz"}, {"s", -12L, "-12"}};
        for (Object[] row : rows) {
            for (String width : new String[] {"", "1", "2", "3"}) {
                for (String flags : new String[] {"", "-", "0", "-0"}) {
                    CHECKS.dueFilled(row[2], "%" + flags + width + row[0], row[1]);
                }
            }
            CHECKS.dueFilled(" " + row[2], "%4" + row[0], row[1]);
            CHECKS.dueFilled(row[2] + " ", "%-4" + row[0], row[1]);
        }
        CHECKS.dueFilled("A|A| A|A ", "%c|%1c|%2c|%-2c", 65L, 65L, 65L, 65L);
        CHECKS.dueFilled("| ", "%s|%1s", "", "");
        CHECKS.dueFilled("+7|+7| +7|+7 |+07", "%+1d|%+2d|%+3d|%-+3d|%+03d", 7L, 7L, 7L, 7L, 7L);
        CHECKS.dueFilled(" 7| 7|  7| 7 | 07", "% 1d|% 2d|% 3d|%- 3d|% 03d", 7L, 7L, 7L, 7L, 7L);
        CHECKS.dueFilled(FORTY + "| " + FORTY, "%40s|%41s", FORTY, FORTY);
    }

    private static void minusSetsBlanksBehind() {
        CHECKS.sentence(PROMISE, "with - blanks (32) behind it");
        for (String flags : new String[] {"-", "-0", "0-", "-00-"}) {
            CHECKS.dueFilled("7   |-7  |f   |F   |7   |A   |w   ",
                "%4d|%4d|%4x|%4X|%4o|%4c|%4s".replace("%", "%" + flags),
                7L, -7L, 15L, 15L, 7L, 65L, "w");
        }
        CHECKS.dueFilled("+7  | 7  ", "%-+04d|%- 04d", 7L, 7L);
        CHECKS.dueFilled("   ", "%-3s", "");
    }

    private static void zerosBehindTheSign() {
        CHECKS.sentence(PROMISE, "else, with 0 and d x X o, 0s behind its sign");
        CHECKS.dueFilled("0007|-007|+007| 007", "%04d|%04d|%+04d|% 04d", 7L, -7L, 7L, 7L);
        CHECKS.dueFilled("-007|-007", "%+04d|% 04d", -7L, -7L);
        CHECKS.dueFilled("0000|+000| 000", "%04d|%+04d|% 04d", 0L, 0L, 0L);
        CHECKS.dueFilled("000f|000F|0007|0000", "%04x|%04X|%04o|%04x", 15L, 15L, 7L, 0L);
        CHECKS.dueFilled("000f|000F|0007", "%+04x|% 04X|%+ 04o", 15L, 15L, 7L);
        CHECKS.dueFilled("-9223372036854775808|-09223372036854775808", "%020d|%021d", Long.MIN_VALUE, Long.MIN_VALUE);
        CHECKS.dueFilled("9223372036854775807|09223372036854775807", "%019d|%020d", Long.MAX_VALUE, Long.MAX_VALUE);
        CHECKS.dueFilled("ffffffffffffffff|0ffffffffffffffff", "%016x|%017x", -1L, -1L);
        CHECKS.dueFilled("1777777777777777777777|01777777777777777777777", "%022o|%023o", -1L, -1L);
        CHECKS.dueFilled("-" + "0".repeat(1022) + "7", "%01024d", -7L);
    }

    private static void blanksAhead() {
        CHECKS.sentence(PROMISE, "else blanks ahead");
        CHECKS.dueFilled("   7|  -7|  +7|   7", "%4d|%4d|%+4d|% 4d", 7L, -7L, 7L, 7L);
        CHECKS.dueFilled("   f|   F|   7", "%4x|%4X|%4o", 15L, 15L, 7L);
        CHECKS.dueFilled("   A|   A|   w|   w", "%4c|%04c|%4s|%04s", 65L, 65L, "w", "w");
        CHECKS.dueFilled("   7|  -7|    ", "%04s|%04s|%04s", 7L, -7L, "");
        CHECKS.dueFilled("   \0", "%04c", 0L);
    }

    private static void otherBytes() {
        CHECKS.sentence(PROMISE, "All other bytes stand as they are");
        StringBuilder all = new StringBuilder();
        for (int b = 0; b < 256; b++) {
            if (b != '%') {
                all.append((char) b);
            }
        }
        CHECKS.dueFilled(all.toString(), all.toString());
        CHECKS.dueFilled("-0+ 5d7-0+ 5d", "-0+ 5d%d-0+ 5d", 7L);
    }
}
