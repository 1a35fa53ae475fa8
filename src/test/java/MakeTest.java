/** Promises 8 and 9, and the terms that they use: places, widths and what an integer is. */
public final class MakeTest {
    private static final Checks CHECKS = new Checks();
    private static final String ONES = "1".repeat(64);

    public static void main(String[] args) {
        otherBytes();
        percent();
        decimal();
        bits();
        bytesAndWords();
        widths();
        badPlaces();
        few();
        integersOfWords();
        wordsThatAreNoIntegers();
        tooLong();
        theFirstFaultCounts();
        nothingIsMadeOfAFault();
        madeAtEdges();
        CHECKS.finish();
    }

    private static void otherBytes() {
        CHECKS.dueFilled("", "");
        CHECKS.dueFilled("d x\\n$\0\u00ff", "d x\\n$\0\u00ff");
        CHECKS.dueFilled("unused", "unused", 1L, "two");
    }

    private static void percent() {
        CHECKS.dueFilled("%", "%%");
        CHECKS.dueFilled("100% d", "100%% d", 1L);
        CHECKS.dueFilled("%|%", "%-0+ 9%|%99999999999%");
        CHECKS.dueFilled("%5", "%%%d", 5L);
    }

    private static void decimal() {
        CHECKS.dueFilled("0|7|-7", "%d|%d|%d", 0L, 7L, -7L);
        CHECKS.dueFilled("+0|+7|-7", "%+d|%+d|%+d", 0L, 7L, -7L);
        CHECKS.dueFilled(" 0| 7|-7", "% d|% d|% d", 0L, 7L, -7L);
        CHECKS.dueFilled("+7|+7", "% +d|%+ d", 7L, 7L);
        CHECKS.dueFilled("-9223372036854775808|9223372036854775807", "%d|%d", Long.MIN_VALUE, Long.MAX_VALUE);
        CHECKS.dueFilled("00042|-0042|+0042| 0042", "%05d|%05d|%+05d|% 05d", 42L, -42L, 42L, 42L);
        CHECKS.dueFilled("   42|  -42|  +42|   42", "%5d|%5d|%+5d|% 5d", 42L, -42L, 42L, 42L);
        CHECKS.dueFilled("42   |-42  |+42  | 42  ", "%-5d|%-5d|%-+5d|% -5d", 42L, -42L, 42L, 42L);
        CHECKS.dueFilled("42   |42   ", "%-05d|%0-5d", 42L, 42L);
        CHECKS.dueFilled("+0042", "%0+0 00+5d", 42L);
        CHECKS.dueFilled("-42", "%03d", -42L);
        CHECKS.dueFilled("12345|-12345", "%4d|%05d", 12345L, -12345L);
    }

    private static void bits() {
        CHECKS.dueFilled("0|0|0", "%x|%X|%o", 0L, 0L, 0L);
        CHECKS.dueFilled("deadbeef|DEADBEEF|755", "%x|%X|%o", 0xDEADBEEFL, 0xDEADBEEFL, 0755L);
        CHECKS.dueFilled("ffffffffffffffff|FFFFFFFFFFFFFFFF|1777777777777777777777", "%x|%X|%o", -1L, -1L, -1L);
        CHECKS.dueFilled("8000000000000000|1000000000000000000000", "%x|%o", Long.MIN_VALUE, Long.MIN_VALUE);
        CHECKS.dueFilled("9|a|f|10|7|10", "%x|%x|%x|%x|%o|%o", 9L, 10L, 15L, 16L, 7L, 8L);
        CHECKS.dueFilled("100f|F00", "%x|%X", 0x100FL, 0xF00L);
        CHECKS.dueFilled("ff|ff|77", "%+x|% x|%+ o", 255L, 255L, 077L);
        CHECKS.dueFilled("  ff|00ff|ff  |00FF|0077", "%4x|%04x|%-04x|%04X|%04o", 255L, 255L, 255L, 255L, 077L);
    }

    private static void bytesAndWords() {
        CHECKS.dueFilled("A\0\u00ffA", "%c%c%c%c", 65L, 256L, -1L, 0x7FFFFFFFFFFFFF41L);
        CHECKS.dueFilled("  A|A  |  A|A", "%3c|%-3c|%03c|%+ c", 65L, 65L, 65L, 65L);
        CHECKS.dueFilled("7", "%c", "55");
        CHECKS.dueFilled("hi||7|-7", "%s|%s|%s|%s", "hi", "", 7L, -7L);
        CHECKS.dueFilled("   hi|hi   |   hi|   -7|hi", "%5s|%-5s|%05s|%05s|%+ s", "hi", "hi", "hi", -7L, "hi");
        CHECKS.dueFilled("+007|0x1F|-0", "%s|%s|%s", "+007", "0x1F", "-0");
        CHECKS.dueFilled("5", "%+s", 5L);
        CHECKS.dueFilled("%d", "%s", "%d");
    }

    private static void widths() {
        CHECKS.dueFilled("a|a| a|         a", "%s|%1s|%2s|%10s", "a", "a", "a", "a");
        CHECKS.dueFilled("ab", "%1s", "ab");
        CHECKS.dueFilled("  1", "%3d", 1L);
        CHECKS.dueFilled(" ".repeat(108) + "1", "%109d", 1L);
        CHECKS.dueFilled(FormatMill.LONG, "%100000s", "a");
        CHECKS.dueFilled(FormatMill.LONG, "%4294967297s", "a");
        CHECKS.dueFilled(FormatMill.LONG, "%18446744073709551617d", 1L);
        CHECKS.dueFilled(FormatMill.LONG, "%" + "9".repeat(398) + "d", 1L);
        CHECKS.dueFilled("001", "%" + "0".repeat(397) + "3d", 1L);
    }

    private static void badPlaces() {
        for (int b = 0; b < 256; b++) {
            if ("dxXocs%-0+ 123456789".indexOf(b) < 0) {
                CHECKS.dueFilled(FormatMill.BAD, "%" + (char) b + "d", 1L, 2L);
                CHECKS.dueFilled(FormatMill.BAD, "%-5" + (char) b + "d", 1L, 2L);
            }
        }
        for (String ending : new String[] {"%", "%-", "%0", "%+", "% ", "%5", "%-05", "%%%"}) {
            CHECKS.dueFilled(FormatMill.BAD, ending, 1L, 2L);
        }
        for (String flag : new String[] {"-", "+", " "}) {
            CHECKS.dueFilled(FormatMill.BAD, "%5" + flag + "d", 1L);
        }
        CHECKS.dueFilled(FormatMill.BAD, "%5.2d", 1L);
        CHECKS.dueFilled(FormatMill.BAD, "%ld", 1L);
        CHECKS.dueFilled(FormatMill.BAD, "x".repeat(399) + "%");
    }

    private static void few() {
        for (String place : new String[] {"%d", "%x", "%X", "%o", "%c", "%s", "%9999s"}) {
            CHECKS.dueFilled(FormatMill.FEW, place);
            CHECKS.dueFilled(FormatMill.FEW, "%d" + place, 1L);
        }
        CHECKS.dueFilled("%1", "%%%d", 1L);
    }

    private static void integersOfWords() {
        String[][] words = {
            {"0", "0"}, {"-0", "0"}, {"+0", "0"}, {"7", "7"}, {"+7", "7"}, {"-7", "-7"}, {"007", "7"},
            {"0".repeat(39) + "9", "9"}, {"-" + "0".repeat(38) + "9", "-9"},
            {"9223372036854775807", "9223372036854775807"}, {"-9223372036854775808", "-9223372036854775808"},
            {"+9223372036854775807", "9223372036854775807"}, {"-9223372036854775807", "-9223372036854775807"},
            {"0x0", "0"}, {"0x1f", "31"}, {"0x1F", "31"}, {"0xaBcDeF", "11259375"}, {"+0x10", "16"}, {"-0x10", "-16"},
            {"0x7fffffffffffffff", "9223372036854775807"}, {"0x8000000000000000", "-9223372036854775808"},
            {"0xffffffffffffffff", "-1"}, {"-0xffffffffffffffff", "1"}, {"-0x8000000000000000", "-9223372036854775808"},
            {"0x0000000000000001", "1"}, {"-0x7fffffffffffffff", "-9223372036854775807"}};
        for (String[] row : words) {
            CHECKS.dueFilled(row[1], "%d", row[0]);
        }
        CHECKS.dueFilled("ffffffffffffffff|FFFFFFFFFFFFFFFE|12|*", "%x|%X|%o|%c", "-1", "-2", "10", "0x2A");
    }

    private static void wordsThatAreNoIntegers() {
        String[] words = {"", "-", "+", "a", "1a", "a1", " 1", "1 ", "--1", "+-1", "1-", "1.0", "1\0", "0x", "-0x", "+0x",
            "0xg", "0x1g", "0X1", "00x1", "x1", "0x-1", "0x00000000000000001", "0x10000000000000000", "0x 1", "/", ":",
            "1/", "1:", "0x/", "0x:", "0x@", "0xG", "0x`", "0x1x1", "9223372036854775808", "+9223372036854775808",
            "-9223372036854775809", "9223372036854775810", "-9223372036854775810", "18446744073709551615", "18446744073709551616",
            "18446744073709551617", "92233720368547758070", "9".repeat(40), "-" + "9".repeat(39), "ff"};
        for (String word : words) {
            for (String kind : new String[] {"d", "x", "X", "o", "c"}) {
                CHECKS.dueFilled(FormatMill.WORD, "%" + kind, word);
            }
            CHECKS.dueFilled(word, "%s", word);
        }
    }

    private static void tooLong() {
        CHECKS.dueFilled(" ".repeat(1023) + "a", "%1024s", "a");
        CHECKS.dueFilled("a" + " ".repeat(1023), "%-1024s", "a");
        CHECKS.dueFilled("-" + "0".repeat(1022) + "1", "%01024d", -1L);
        CHECKS.dueFilled(FormatMill.LONG, "%1025s", "a");
        CHECKS.dueFilled(FormatMill.LONG, "%-1025s", "a");
        CHECKS.dueFilled(FormatMill.LONG, "%01025d", -1L);
        CHECKS.dueFilled(FormatMill.LONG, "%1024s!", "a");
        CHECKS.dueFilled(FormatMill.LONG, "%1024s%%", "a");
        CHECKS.dueFilled(" ".repeat(1022) + "a%", "%1023s%%", "a");
        CHECKS.dueFilled(" ".repeat(1022) + "a!", "%1023s!", "a");
        CHECKS.dueFilled(" ".repeat(1023) + "a", "%1024s%s", "a", "");
        CHECKS.dueFilled(FormatMill.LONG, "%1023s%+d", "a", 1L);
        CHECKS.dueFilled(FormatMill.LONG, "%1023s%d", "a", -1L);
        CHECKS.dueFilled(FormatMill.LONG, "%1020s%x", "a", 0x10000L);
        CHECKS.dueFilled(FormatMill.LONG, "%1024s%c", "a", 0L);
        CHECKS.dueFilled(" ".repeat(1000) + ONES.substring(0, 24), "%1000s%s", " ", ONES.substring(0, 24));
        CHECKS.dueFilled(FormatMill.LONG, "%1000s%s", " ", ONES.substring(0, 25));
    }

    private static void theFirstFaultCounts() {
        CHECKS.dueFilled(FormatMill.FEW, "%d%y");
        CHECKS.dueFilled(FormatMill.BAD, "%y%d");
        CHECKS.dueFilled(FormatMill.WORD, "%d%y", "word");
        CHECKS.dueFilled(FormatMill.WORD, "%d%d", "word");
        CHECKS.dueFilled(FormatMill.WORD, "%9999d", "word");
        CHECKS.dueFilled(FormatMill.LONG, "%1025s%y", "a");
        CHECKS.dueFilled(FormatMill.LONG, "%1025s%d", "a");
        CHECKS.dueFilled(FormatMill.LONG, "%1024s!%y", "a");
        CHECKS.dueFilled(FormatMill.BAD, "%1024s%y", "a");
        CHECKS.dueFilled(FormatMill.FEW, "%1024s%d", "a");
        CHECKS.dueFilled(FormatMill.WORD, "%1024s%d", "a", "a");
        CHECKS.dueFilled(FormatMill.BAD, "%9999y");
        CHECKS.dueFilled(FormatMill.LONG, "%1025d%d", 1L, "word");
    }

    private static void nothingIsMadeOfAFault() {
        FormatMill mill = new FormatMill();
        Checks.addWord(mill, "word");
        for (String broken : new String[] {"ab%y", "ab%s%s", "ab%d", "ab%1023s"}) {
            Checks.setFormat(mill, "<%s>");
            CHECKS.due("make()", mill.make(), 6);
            Checks.setFormat(mill, broken);
            CHECKS.due("make() of " + broken, mill.make() < 0, true);
            CHECKS.due("made of " + broken, mill.madeAt(0), FormatMill.NONE);
            CHECKS.due("made of " + broken, mill.madeAt(1), FormatMill.NONE);
        }
        Checks.setFormat(mill, "%s");
        CHECKS.due("make() behind faults", mill.make(), 4);
    }

    private static void madeAtEdges() {
        FormatMill mill = new FormatMill();
        Checks.setFormat(mill, "\0\u0080\u00ff%1021s");
        Checks.addWord(mill, "z");
        CHECKS.due("make()", mill.make(), 1024);
        int[][] rows = {{0, 0}, {1, 128}, {2, 255}, {3, 32}, {1022, 32}, {1023, 'z'}, {1024, -1}, {1025, -1}, {-1, -1},
            {-1024, -1}, {Integer.MAX_VALUE, -1}, {Integer.MIN_VALUE, -1}};
        for (int[] row : rows) {
            CHECKS.due("madeAt(" + row[0] + ")", mill.madeAt(row[0]), row[1]);
        }
        Checks.setFormat(mill, "ab");
        CHECKS.due("make() of less", mill.make(), 2);
        CHECKS.due("madeAt(1)", mill.madeAt(1), (int) 'b');
        CHECKS.due("madeAt(2)", mill.madeAt(2), FormatMill.NONE);
    }
}
