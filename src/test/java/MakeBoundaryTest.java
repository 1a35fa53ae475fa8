/** The boundary cases that promises 8 and 9 name: a test for each sentence. */
public final class MakeBoundaryTest {
    private static final Checks CHECKS = new Checks();
    private static final String FORTY = "abcdefghijklmnopqrstuvwxyz0123456789ABCD";

    public static void main(String[] args) {
        howManyBytes();
        theFirstThingThatIsWrong();
        oneWrongThingOfOnePlace();
        bad();
        few();
        word();
        longWithAPlace();
        longWithAByte();
        longOfFullWords();
        exactly1024();
        nothingIsMadeThen();
        formatAndArgumentsStay();
        madeAtEveryByte();
        madeAtNone();
        madeAtNoneBehindAShorterOne();
        the512thCall();
        CHECKS.finish();
    }

    private static void howManyBytes() {
        CHECKS.sentence("Promise 8", "What is made is the format, filled: how many bytes");
        dueMake(0, "");
        dueMake(0, "%s", "");
        dueMake(1, "%%");
        dueMake(1, "a", 1L, 2L);
        dueMake(3, "<%d>", 7L);
        dueMake(400, "a".repeat(400));
        dueMake(1023, "%1023d", 7L);
        dueMake(1024, "%1024d", 7L);
        FormatMill mill = Checks.loaded("%d,%d", 12L, 34L);
        for (int i = 0; i < 3; i++) {
            CHECKS.due("make() time and again", mill.make(), 5);
            CHECKS.due("what is made", Checks.madeText(mill), "12,34");
        }
    }

    private static void theFirstThingThatIsWrong() {
        CHECKS.sentence("Promise 8", "the first thing that is wrong, going along the format", "at several places");
        CHECKS.dueFilled(FormatMill.BAD, "%y%s");
        CHECKS.dueFilled(FormatMill.BAD, "%y%d", "word");
        CHECKS.dueFilled(FormatMill.BAD, "%y%1025d", 7L);
        CHECKS.dueFilled(FormatMill.FEW, "%s%y");
        CHECKS.dueFilled(FormatMill.FEW, "%s%");
        CHECKS.dueFilled(FormatMill.FEW, "%1024d%s!", 7L);
        CHECKS.dueFilled(FormatMill.WORD, "%d%y", "word");
        CHECKS.dueFilled(FormatMill.WORD, "%d%s", "word");
        CHECKS.dueFilled(FormatMill.WORD, "%d%1025d", "word", 7L);
        CHECKS.dueFilled(FormatMill.LONG, "%1025d%y", 7L);
        CHECKS.dueFilled(FormatMill.LONG, "%1025d%s", 7L);
        CHECKS.dueFilled(FormatMill.LONG, "%1025d%d", 7L, "word");
        CHECKS.dueFilled(FormatMill.LONG, "%1024d!%y", 7L);
        CHECKS.dueFilled(FormatMill.LONG, "%1024d%%%", 7L);
    }

    private static void oneWrongThingOfOnePlace() {
        CHECKS.sentence("Promise 8", "the first thing that is wrong, going along the format", "several at one place");
        CHECKS.dueFilled(FormatMill.BAD, "%1025y");
        CHECKS.dueFilled(FormatMill.BAD, "%1025y", "word");
        CHECKS.dueFilled(FormatMill.BAD, "%1024d%y", 7L);
        CHECKS.dueFilled(FormatMill.FEW, "%1025d");
        CHECKS.dueFilled(FormatMill.FEW, "%1024d%d", 7L);
        CHECKS.dueFilled(FormatMill.WORD, "%1025d", "word");
        CHECKS.dueFilled(FormatMill.WORD, "%1024d%d", 7L, "word");
        CHECKS.dueFilled(FormatMill.WORD, "%1024d%d", 7L, "");
        CHECKS.dueFilled(FormatMill.LONG, "%1025s", "word");
        CHECKS.dueFilled(FormatMill.LONG, "%1024d%s", 7L, "word");
    }

    private static void bad() {
        CHECKS.sentence("Promise 8", "BAD (a place)");
        dueMake(FormatMill.BAD, "%");
        dueMake(FormatMill.BAD, "%y", 7L);
        dueMake(FormatMill.BAD, "%d%d%y", 7L, 7L, 7L);
        dueMake(FormatMill.BAD, "a".repeat(398) + "%y", 7L);
        dueMake(FormatMill.BAD, "%%%");
    }

    private static void few() {
        CHECKS.sentence("Promise 8", "FEW (no argument is left)");
        for (int places = 1; places <= 21; places++) {
            for (int count = 0; count <= 20; count++) {
                Object[] numbers = new Object[count];
                java.util.Arrays.fill(numbers, 7L);
                for (String place : new String[] {"%d", "%s"}) {
                    dueMake(count < places ? FormatMill.FEW : places, place.repeat(places), numbers);
                }
            }
        }
        for (String kind : new String[] {"d", "x", "X", "o", "c", "s"}) {
            dueMake(FormatMill.FEW, "%" + kind);
            dueMake(FormatMill.FEW, "%%%" + kind);
        }
        dueMake(FormatMill.FEW, "%s".repeat(200), 7L);
        dueMake(200, "%%".repeat(200));
    }

    private static void word() {
        CHECKS.sentence("Promise 8", "WORD");
        Object[] twenty = new Object[20];
        for (int at = 0; at < twenty.length; at++) {
            java.util.Arrays.fill(twenty, 7L);
            twenty[at] = "word";
            dueMake(FormatMill.WORD, "%d".repeat(20), twenty);
            dueMake(at, "%d".repeat(at), twenty);
        }
        dueMake(FormatMill.WORD, "%d", "");
        dueMake(4, "%s", "word");
    }

    private static void longWithAPlace() {
        CHECKS.sentence("Promise 8", "LONG (with a place filled, or a byte, it has more than 1024 bytes)", "a place");
        Object[][] rows = {{"%d", 7L, 1}, {"%d", -7L, 2}, {"%+d", 7L, 2}, {"% d", 7L, 2}, {"%d", Long.MIN_VALUE, 20},
            {"%x", -1L, 16}, {"%X", -1L, 16}, {"%o", -1L, 22}, {"%c", 0L, 1}, {"%s", "word", 4}, {"%s", FORTY, 40},
            {"%9d", 7L, 9}, {"%-9d", 7L, 9}, {"%09d", 7L, 9}, {"%+09d", 7L, 9}, {"%9s", "word", 9}, {"%-9s", "word", 9},
            {"%9c", 65L, 9}, {"%2s", "word", 4}};
        for (Object[] row : rows) {
            int room = 1024 - (Integer) row[2];
            dueMake(1023, "%" + (room - 1) + "s" + row[0], "", row[1]);
            dueMake(1024, "%" + room + "s" + row[0], "", row[1]);
            dueMake(FormatMill.LONG, "%" + (room + 1) + "s" + row[0], "", row[1]);
        }
        for (String flags : new String[] {"", "-", "0"}) {
            dueMake(1024, "%" + flags + "1024d", -7L);
            dueMake(FormatMill.LONG, "%" + flags + "1025d", -7L);
            dueMake(FormatMill.LONG, "%" + flags + "100000d", -7L);
        }
    }

    private static void longWithAByte() {
        CHECKS.sentence("Promise 8", "LONG (with a place filled, or a byte, it has more than 1024 bytes)", "a byte");
        for (String one : new String[] {"a", "\0", "\u00ff", "%%", "%9%"}) {
            dueMake(1024, "%1023d" + one, 7L);
            dueMake(FormatMill.LONG, "%1024d" + one, 7L);
            dueMake(FormatMill.LONG, "%1023d" + one + one, 7L);
            dueMake(1024, one + "%1023d", 7L);
            dueMake(FormatMill.LONG, one + "%1024d", 7L);
        }
    }

    private static void longOfFullWords() {
        CHECKS.sentence("Promise 8", "LONG (with a place filled, or a byte, it has more than 1024 bytes)", "20 full words");
        Object[] twenty = new Object[20];
        java.util.Arrays.fill(twenty, FORTY);
        String places = "%s".repeat(20);
        dueMake(800, places, twenty);
        CHECKS.dueFilled("a".repeat(224) + FORTY.repeat(20), "a".repeat(224) + places, twenty);
        CHECKS.dueFilled(FormatMill.LONG, "a".repeat(225) + places, twenty);
        CHECKS.dueFilled(FORTY.repeat(20) + "a".repeat(224), places + "a".repeat(224), twenty);
        CHECKS.dueFilled(FormatMill.LONG, places + "a".repeat(225), twenty);
    }

    private static void exactly1024() {
        CHECKS.sentence("Promise 8", "LONG (with a place filled, or a byte, it has more than 1024 bytes)", "1024 are not more");
        CHECKS.dueFilled(" ".repeat(1023) + "7", "%1024d", 7L);
        CHECKS.dueFilled("7" + " ".repeat(1023), "%-1024d", 7L);
        CHECKS.dueFilled("-" + "0".repeat(1022) + "7", "%01024d", -7L);
        CHECKS.dueFilled(" ".repeat(1023) + "7", "%1024d%s%s", 7L, "", "");
        CHECKS.dueFilled(" ".repeat(1022) + "7%", "%1023d%%", 7L);
    }

    private static void nothingIsMadeThen() {
        CHECKS.sentence("Promise 8", "nothing is made then", "madeAt");
        Object[][] rows = {{"ab%y", FormatMill.BAD}, {"ab%", FormatMill.BAD}, {"%s%s", FormatMill.FEW},
            {"ab%s%s", FormatMill.FEW}, {"ab%d", FormatMill.WORD}, {"ab%1023s", FormatMill.LONG},
            {"%1024sa", FormatMill.LONG}, {"%1024s%%", FormatMill.LONG}};
        for (Object[] row : rows) {
            FormatMill mill = Checks.loaded("<%s>", "word");
            CHECKS.due("make()", mill.make(), 6);
            CHECKS.due("madeAt(0)", mill.madeAt(0), (int) '<');
            Checks.setFormat(mill, (String) row[0]);
            CHECKS.due("make() of " + row[0], mill.make(), row[1]);
            for (int i : new int[] {0, 1, 2, 5, 6, 1023}) {
                CHECKS.due("madeAt(" + i + ") behind " + row[0], mill.madeAt(i), FormatMill.NONE);
            }
        }
    }

    private static void formatAndArgumentsStay() {
        CHECKS.sentence("Promise 8", "nothing is made then", "but format, arguments and tape stay");
        FormatMill mill = Checks.loaded("%s,%d", "one");
        CHECKS.due("make() with one", mill.make(), FormatMill.FEW);
        mill.number(2);
        CHECKS.due("make() with two", mill.make(), 5);
        CHECKS.due("what is made", Checks.madeText(mill), "one,2");
        mill.clear();
        CHECKS.due("make() with none", mill.make(), FormatMill.FEW);
        Checks.addWord(mill, "a");
        Checks.addWord(mill, "b");
        CHECKS.due("make() with two words", mill.make(), FormatMill.WORD);
        Checks.setFormat(mill, "%s,%s");
        CHECKS.due("make() of a format that fits", mill.make(), 3);
        Checks.type(mill, "tape");
        CHECKS.due("make() again", mill.make(), 3);
        CHECKS.due("the tape", Checks.tapeText(mill), "tape");
    }

    private static void madeAtEveryByte() {
        CHECKS.sentence("Promise 9", "Byte i of what is made, 0 .. 255");
        StringBuilder format = new StringBuilder();
        for (int b = 0; b < 256; b++) {
            format.append(b == '%' ? "%%" : String.valueOf((char) b));
        }
        FormatMill mill = Checks.loaded(format.toString());
        CHECKS.due("make()", mill.make(), 256);
        for (int b = 0; b < 256; b++) {
            CHECKS.due("madeAt(" + b + ")", mill.madeAt(b), b);
        }
        FormatMill full = Checks.loaded("%-1023d%c", 7L, -1L);
        CHECKS.due("make() of 1024", full.make(), 1024);
        CHECKS.due("madeAt(0)", full.madeAt(0), (int) '7');
        CHECKS.due("madeAt(1022)", full.madeAt(1022), 32);
        CHECKS.due("madeAt(1023)", full.madeAt(1023), 255);
        CHECKS.due("madeAt(0) again", full.madeAt(0), (int) '7');
    }

    private static void madeAtNone() {
        CHECKS.sentence("Promise 9", "NONE", "no such byte");
        int[] lengths = {0, 1, 20, 1023, 1024};
        for (int length : lengths) {
            FormatMill mill = length == 0 ? Checks.loaded("") : Checks.loaded("%" + length + "d", 7L);
            CHECKS.due("make()", mill.make(), length);
            CHECKS.due("madeAt(" + (length - 1) + ")", mill.madeAt(length - 1), length == 0 ? FormatMill.NONE : '7');
            for (int i : new int[] {length, length + 1, -1, -2, -length - 1, 1024, 1025, Integer.MAX_VALUE,
                Integer.MIN_VALUE, Integer.MIN_VALUE + length}) {
                CHECKS.due("madeAt(" + i + ") of " + length, mill.madeAt(i), FormatMill.NONE);
            }
        }
    }

    private static void madeAtNoneBehindAShorterOne() {
        CHECKS.sentence("Promise 9", "NONE", "where an older one had more bytes");
        FormatMill mill = Checks.loaded("%1024d", 7L);
        mill.make();
        Checks.setFormat(mill, "ab");
        CHECKS.due("madeAt(1023) until make()", mill.madeAt(1023), (int) '7');
        CHECKS.due("make()", mill.make(), 2);
        CHECKS.due("what is made", Checks.madeText(mill), "ab");
        CHECKS.due("madeAt(1023)", mill.madeAt(1023), FormatMill.NONE);
        mill.format();
        CHECKS.due("make() of the empty format", mill.make(), 0);
        CHECKS.due("madeAt(0)", mill.madeAt(0), FormatMill.NONE);
    }

    private static void the512thCall() {
        CHECKS.sentence("What it is", "An object is used for at most 512 calls after it has been made");
        FormatMill mill = new FormatMill();
        int calls = 3;
        CHECKS.due("format()", Checks.setFormat(mill, "%s"), 2);
        while (calls + 4 <= 511) {
            int value = calls % 10;
            mill.clear();
            CHECKS.due("number() as call " + (calls + 2), mill.number(value), 0);
            CHECKS.due("make() as call " + (calls + 3), mill.make(), 1);
            CHECKS.due("madeAt(0) as call " + (calls + 4), mill.madeAt(0), '0' + value);
            calls += 4;
        }
        CHECKS.due("calls so far", calls, 511);
        CHECKS.due("make() as call 512", mill.make(), 1);
    }

    private static void dueMake(int want, String format, Object... arguments) {
        CHECKS.due("make() of " + format + " from " + java.util.Arrays.toString(arguments),
            Checks.loaded(format, arguments).make(), want);
    }
}
