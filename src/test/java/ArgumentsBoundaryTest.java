/** The boundary cases that promises 5 to 7 name: a test for each sentence. */
public final class ArgumentsBoundaryTest {
    private static final Checks CHECKS = new Checks();
    private static final String FORTY = "abcdefghijklmnopqrstuvwxyz0123456789ABCD";

    public static void main(String[] args) {
        argumentAnswersItsNumber();
        argumentOfTheEmptyTape();
        argumentEmptiesTheTape();
        argumentRefusesMoreThan40();
        argumentRefusesBehind20();
        argumentRefusedEmptiesTheTape();
        numberAnswersItsNumber();
        numberIsItsDecimalDigits();
        numberRefusesBehind20();
        numberLeavesTheTape();
        clearOfNoneAndOfAll();
        clearDropsArgumentsAlone();
        clearMakesRoom();
        CHECKS.finish();
    }

    private static void argumentAnswersItsNumber() {
        CHECKS.sentence("Promise 5", "The tape's bytes are an argument more: its number");
        FormatMill mill = new FormatMill();
        for (int i = 0; i < 20; i++) {
            CHECKS.due("argument()", Checks.addWord(mill, "w" + i), i);
        }
        Checks.setFormat(mill, "%s %s");
        mill.make();
        CHECKS.due("the first two", Checks.madeText(mill), "w0 w1");
    }

    private static void argumentOfTheEmptyTape() {
        CHECKS.sentence("Promise 5", "The tape's bytes are an argument more", "of no bytes");
        FormatMill mill = new FormatMill();
        CHECKS.due("argument()", mill.argument(), 0);
        CHECKS.due("argument() again", mill.argument(), 1);
        Checks.setFormat(mill, "<%s%s>");
        CHECKS.due("make()", mill.make(), 2);
        Checks.setFormat(mill, "<%s%s%s>");
        CHECKS.due("make() with a place too many", mill.make(), FormatMill.FEW);
    }

    private static void argumentEmptiesTheTape() {
        CHECKS.sentence("Promises 4 and 5", "empty then, as below");
        FormatMill mill = new FormatMill();
        Checks.addWord(mill, FORTY);
        CHECKS.due("end(1)", mill.end(1), false);
        CHECKS.due("argument() of the emptied tape", mill.argument(), 1);
        CHECKS.due("format() of the emptied tape", mill.format(), 0);
    }

    private static void argumentRefusesMoreThan40() {
        CHECKS.sentence("Promise 5", "NONE when they are more than 40, or 20 are there", "more than 40");
        FormatMill mill = new FormatMill();
        int[][] rows = {{41, -1}, {40, 0}, {41, -1}, {39, 1}, {60, -1}, {400, -1}, {0, 2}, {42, -1}, {40, 3}};
        for (int[] row : rows) {
            CHECKS.due("argument() of " + row[0], Checks.addWord(mill, FORTY.repeat(10).substring(0, row[0])), row[1]);
        }
        Checks.setFormat(mill, "%s|%s|%s|%s");
        CHECKS.due("make()", mill.make(), 122);
        CHECKS.due("the arguments", Checks.madeText(mill), FORTY + "|" + FORTY.substring(0, 39) + "||" + FORTY);
    }

    private static void argumentRefusesBehind20() {
        CHECKS.sentence("Promise 5", "NONE when they are more than 40, or 20 are there", "20 are there");
        FormatMill mill = new FormatMill();
        for (int i = 0; i < 20; i++) {
            CHECKS.due("argument()", Checks.addWord(mill, "w" + i), i);
        }
        for (String word : new String[] {"", "x", FORTY, FORTY + "x"}) {
            CHECKS.due("argument() of " + word, Checks.addWord(mill, word), FormatMill.NONE);
        }
        dueTwenty(mill, "w0w1w2w3w4w5w6w7w8w9w10w11w12w13w14w15w16w17w18w19");
    }

    /** The document says nowhere that a refused argument() leaves the tape; README.md tells this reading. */
    private static void argumentRefusedEmptiesTheTape() {
        CHECKS.sentence("Promises 4 and 5", "empty then, as below", "with NONE too");
        FormatMill mill = new FormatMill();
        Checks.addWord(mill, FORTY + "x");
        CHECKS.due("end(1) behind more than 40", mill.end(1), false);
        CHECKS.due("argument() behind more than 40", mill.argument(), 0);
        for (int i = 1; i < 20; i++) {
            mill.number(i);
        }
        Checks.addWord(mill, "x");
        CHECKS.due("end(1) behind 20", mill.end(1), false);
        CHECKS.due("format() behind 20", mill.format(), 0);
    }

    private static void numberAnswersItsNumber() {
        CHECKS.sentence("Promise 6", "An integer is an argument more (its decimal digits): its number", "the number");
        FormatMill mill = new FormatMill();
        for (int i = 0; i < 20; i++) {
            CHECKS.due("argument " + i, i % 3 == 1 ? Checks.addWord(mill, "w") : mill.number(-i), i);
        }
        dueTwenty(mill, "0w-2-3w-5-6w-8-9w-11-12w-14-15w-17-18w");
    }

    private static void numberIsItsDecimalDigits() {
        CHECKS.sentence("Promise 6", "An integer is an argument more (its decimal digits): its number", "the digits");
        CHECKS.dueFilled("0", "%s", 0L);
        CHECKS.dueFilled("9223372036854775807", "%s", Long.MAX_VALUE);
        CHECKS.dueFilled("9223372036854775806", "%s", Long.MAX_VALUE - 1);
        CHECKS.dueFilled("-9223372036854775808", "%s", Long.MIN_VALUE);
        CHECKS.dueFilled("-9223372036854775807", "%s", Long.MIN_VALUE + 1);
        CHECKS.dueFilled("4294967296", "%s", 1L << 32);
        CHECKS.dueFilled("-2147483649", "%s", Integer.MIN_VALUE - 1L);
        long power = 1;
        for (int zeros = 0; zeros <= 18; zeros++) {
            String text = "1" + "0".repeat(zeros);
            CHECKS.dueFilled(text + "|-" + text, "%s|%s", power, -power);
            if (zeros > 0) {
                CHECKS.dueFilled("9".repeat(zeros) + "|-" + "9".repeat(zeros), "%s|%s", power - 1, 1 - power);
            }
            power *= 10;
        }
    }

    private static void numberRefusesBehind20() {
        CHECKS.sentence("Promise 6", "NONE when 20 are there");
        FormatMill mill = new FormatMill();
        for (int i = 0; i < 20; i++) {
            CHECKS.due("number(" + i + ")", mill.number(i), i);
        }
        for (long v : new long[] {0, 20, -1, Long.MAX_VALUE, Long.MIN_VALUE}) {
            CHECKS.due("number(" + v + ")", mill.number(v), FormatMill.NONE);
        }
        dueTwenty(mill, "012345678910111213141516171819");
    }

    private static void numberLeavesTheTape() {
        CHECKS.sentence("Promise 6", "An integer is an argument more", "the tape stays");
        FormatMill mill = new FormatMill();
        Checks.type(mill, FORTY);
        for (int i = 0; i < 21; i++) {
            mill.number(i);
        }
        CHECKS.due("the tape", Checks.tapeText(mill), FORTY);
    }

    private static void clearOfNoneAndOfAll() {
        CHECKS.sentence("Promise 7", "All arguments go", "of none, some and all");
        for (int count : new int[] {0, 1, 2, 19, 20}) {
            FormatMill mill = new FormatMill();
            for (int i = 0; i < count; i++) {
                mill.number(i);
            }
            mill.clear();
            mill.clear();
            Checks.setFormat(mill, "%s");
            CHECKS.due("make() behind clear() of " + count, mill.make(), FormatMill.FEW);
            CHECKS.due("number() behind clear() of " + count, mill.number(7), 0);
            CHECKS.due("make() of one", mill.make(), 1);
            Checks.setFormat(mill, "%s%s");
            CHECKS.due("make() of one too few", mill.make(), FormatMill.FEW);
        }
    }

    private static void clearDropsArgumentsAlone() {
        CHECKS.sentence("Promise 7", "All arguments go", "they alone");
        FormatMill mill = Checks.loaded("<%s>", "word");
        mill.make();
        Checks.type(mill, "tape");
        mill.clear();
        CHECKS.due("what is made", Checks.madeText(mill), "<word>");
        CHECKS.due("end(5)", mill.end(5), false);
        CHECKS.due("argument() of the tape", mill.argument(), 0);
        CHECKS.due("make() of the format", mill.make(), 6);
        CHECKS.due("what is made then", Checks.madeText(mill), "<tape>");
    }

    private static void clearMakesRoom() {
        CHECKS.sentence("Promise 7", "All arguments go", "20 have room again");
        FormatMill mill = new FormatMill();
        for (int i = 0; i < 20; i++) {
            Checks.addWord(mill, FORTY);
        }
        mill.clear();
        for (int i = 0; i < 20; i++) {
            CHECKS.due("argument " + i, i % 2 == 0 ? mill.number(i) : Checks.addWord(mill, ""), i);
        }
        CHECKS.due("argument 20", mill.argument(), FormatMill.NONE);
        dueTwenty(mill, "024681012141618");
    }

    private static void dueTwenty(FormatMill mill, String want) {
        Checks.setFormat(mill, "%s".repeat(20));
        CHECKS.due("make() of all 20", mill.make(), want.length());
        CHECKS.due("all 20", Checks.madeText(mill), want);
        Checks.setFormat(mill, "%s".repeat(21));
        CHECKS.due("make() of 21", mill.make(), FormatMill.FEW);
    }
}
