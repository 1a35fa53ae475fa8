/** The boundary cases of the terms that promises 5, 6 and 8 use, words and integers: a test for each part of them. */
public final class IntegerBoundaryTest {
    private static final Checks CHECKS = new Checks();
    private static final String PROMISE = "Terms, promises 5, 6 and 8";

    public static void main(String[] args) {
        wordOf40();
        signOrNothing();
        decimalDigits();
        oneTo16HexadecimalDigits();
        hexadecimalLetters();
        these64Bits();
        thenTheSign();
        within64Bits();
        nothingElse();
        numbersAreIntegers();
        CHECKS.finish();
    }

    private static void wordOf40() {
        CHECKS.sentence(PROMISE, "An argument is a word, of at most 40 bytes");
        due("0".repeat(40), 0);
        due("0".repeat(39) + "7", 7);
        due("-" + "0".repeat(38) + "7", -7);
        due("0".repeat(21) + "9223372036854775807", Long.MAX_VALUE);
        due("-" + "0".repeat(20) + "9223372036854775808", Long.MIN_VALUE);
        dueNone("9".repeat(40));
        dueNone("-" + "9".repeat(39));
        dueNone("0".repeat(39) + "x");
        CHECKS.dueFilled(FormatMill.FEW, "%d", "0".repeat(41));
        CHECKS.dueFilled(FormatMill.FEW, "%s", "0".repeat(41));
    }

    private static void signOrNothing() {
        CHECKS.sentence(PROMISE, "it is an integer if it is - or + or nothing, then");
        due("7", 7);
        due("+7", 7);
        due("-7", -7);
        due("0", 0);
        due("+0", 0);
        due("-0", 0);
        for (String word : new String[] {"--7", "++7", "+-7", "-+7", "7-", "7+", "7-7", " 7", "- 7", ",7", "/7", "*7", ".7"}) {
            dueNone(word);
        }
        for (String word : new String[] {"--0x7", "++0x7", "+-0x7", "0-x7", "0x-7", "0x+7", " 0x7", "0x7-"}) {
            dueNone(word);
        }
    }

    private static void decimalDigits() {
        CHECKS.sentence(PROMISE, "digits");
        for (int digit = 0; digit < 10; digit++) {
            due(String.valueOf(digit), digit);
        }
        due("00", 0);
        due("007", 7);
        due("0123456789", 123456789);
        for (String word : new String[] {"", "-", "+", "/", ":", "1/", "1:", "/1", ":1", "a", "f", "1a", "1e1", "\u00b2",
            "\u00b10"}) {
            dueNone(word);
        }
    }

    private static void oneTo16HexadecimalDigits() {
        CHECKS.sentence(PROMISE, "0x and 1 to 16 hexadecimal digits");
        for (String word : new String[] {"0x", "-0x", "+0x", "0x" + "0".repeat(17), "-0x" + "0".repeat(17),
            "0x1" + "0".repeat(16), "0x" + "f".repeat(17), "0x" + "0".repeat(38)}) {
            dueNone(word);
        }
        for (int count = 1; count <= 16; count++) {
            due("0x" + "0".repeat(count - 1) + "7", 7);
            due("0x7" + "0".repeat(count - 1), 7L << 4 * (count - 1));
        }
        for (String word : new String[] {"0X7", "x7", "00x7", "1x7", "0xx7", "0x0x7", "ff", "0y7", "0w7", "Ox7", "0h7", "#7"}) {
            dueNone(word);
        }
    }

    private static void hexadecimalLetters() {
        CHECKS.sentence(PROMISE, "hexadecimal digits");
        for (int b = 0; b < 256; b++) {
            int digit = "0123456789abcdef".indexOf(b >= 'A' && b <= 'F' ? b + 32 : b);
            String word = "0x1" + (char) b;
            if (digit < 0) {
                dueNone(word);
                dueNone("0x" + (char) b + "1");
            } else {
                due(word, 16 + digit);
                due("0x" + (char) b + "1", 16 * digit + 1);
            }
        }
    }

    private static void these64Bits() {
        CHECKS.sentence(PROMISE, "these 64 bits");
        due("0x7fffffffffffffff", Long.MAX_VALUE);
        due("0x8000000000000000", Long.MIN_VALUE);
        due("0x8000000000000001", Long.MIN_VALUE + 1);
        due("0xffffffffffffffff", -1);
        due("0xFFFFFFFFFFFFFFFE", -2);
        due("0xffffffff", 4294967295L);
        due("0x0fffffffffffffff", (1L << 60) - 1);
        due("+0xffffffffffffffff", -1);
        CHECKS.dueFilled("7|1|-1|2|1", "%d|%d|%d|%d|%d", "7", "0x1", "-0x1", "2", "0x0000000000000001");
    }

    private static void thenTheSign() {
        CHECKS.sentence(PROMISE, "these 64 bits; then the sign");
        due("-0x0", 0);
        due("-0x1", -1);
        due("-0x7fffffffffffffff", -Long.MAX_VALUE);
        due("-0xffffffffffffffff", 1);
        due("-0x8000000000000001", Long.MAX_VALUE);
        // The lowest 64 bits have no opposite: their negation wraps around to themselves.
        due("-0x8000000000000000", Long.MIN_VALUE);
    }

    private static void within64Bits() {
        CHECKS.sentence(PROMISE, "within 64 bits");
        due("9223372036854775806", Long.MAX_VALUE - 1);
        due("9223372036854775807", Long.MAX_VALUE);
        due("+9223372036854775807", Long.MAX_VALUE);
        due("-9223372036854775807", -Long.MAX_VALUE);
        due("-9223372036854775808", Long.MIN_VALUE);
        due("999999999999999999", 999999999999999999L);
        due("-1000000000000000000", -1000000000000000000L);
        for (String word : new String[] {"9223372036854775808", "+9223372036854775808", "-9223372036854775809",
            "9223372036854775809", "9223372036854775810", "-9223372036854775810", "9223372036854775817",
            "9300000000000000000", "9999999999999999999", "-9999999999999999999", "10000000000000000000",
            "18446744073709551615", "18446744073709551616", "18446744073709551617", "-18446744073709551615",
            "-18446744073709551616", "-18446744073709551617", "27670116110564327424", "92233720368547758070",
            "340282366920938463463374607431768211456", "340282366920938463463374607431768211457"}) {
            dueNone(word);
        }
    }

    private static void nothingElse() {
        CHECKS.sentence(PROMISE, "nothing else");
        for (String word : new String[] {"7", "-7", "+7", "0x7", "-0x7"}) {
            for (char other : new char[] {' ', '\0', '\t', '\n', '.', ',', '_', 'L', 'h', 'x', '-', '+', '%', '\u00ff'}) {
                dueNone(word + other);
                dueNone(word + other + "7");
                if (other != '-' && other != '+' || !Character.isDigit(word.charAt(0))) {
                    dueNone(other + word);
                }
            }
        }
        FormatMill mill = Checks.loaded("%d", "12345");
        mill.clear();
        Checks.addWord(mill, "7");
        CHECKS.due("make() of a short word where a longer one was", mill.make(), 1);
        mill.clear();
        Checks.addWord(mill, "");
        CHECKS.due("make() of the empty word where another one was", mill.make(), FormatMill.WORD);
        mill.clear();
        Checks.addWord(mill, "-");
        CHECKS.due("make() of a lone sign where digits were", mill.make(), FormatMill.WORD);
    }

    private static void numbersAreIntegers() {
        CHECKS.sentence("Terms and promise 6", "An integer is an argument more (its decimal digits)");
        for (long value : new long[] {0, 1, -1, 1000000000000000000L, Long.MAX_VALUE, Long.MIN_VALUE + 1, Long.MIN_VALUE}) {
            CHECKS.dueFilled(value + "|" + value, "%d|%s", value, value);
            CHECKS.dueFilled(Long.toHexString(value), "%x", value);
        }
    }

    private static void due(String word, long value) {
        CHECKS.dueFilled(Long.toString(value), "%d", word);
        CHECKS.dueFilled(Long.toHexString(value), "%x", word);
    }

    private static void dueNone(String word) {
        for (String kind : new String[] {"%d", "%x", "%c"}) {
            CHECKS.dueFilled(FormatMill.WORD, kind, word);
        }
        CHECKS.dueFilled(word, "%s", word);
    }
}
