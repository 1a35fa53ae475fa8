/** The boundary cases that promises 1 to 4 name: a test for each sentence. */
public final class TapeBoundaryTest {
    private static final Checks CHECKS = new Checks();
    private static final String ALPHABET = "abcdefghijklmnopqrst";

    public static void main(String[] args) {
        newFormatIsEmpty();
        newHasNoArguments();
        newHasNothingMade();
        newTapeIsEmpty();
        feedAppendsTwenty();
        feedHighestFirst();
        feedRefusesMoreThan400();
        feedRefusedChangesNothing();
        endKeepsTheFirst();
        endKeepsNoneOrAll();
        endRefusesMoreThanThereAre();
        endRefusesBelowZero();
        formatAnswersHowMany();
        formatEmptiesTheTape();
        formatTakesTheTapeWhole();
        CHECKS.finish();
    }

    private static void newFormatIsEmpty() {
        CHECKS.sentence("Promise 1", "The format is empty");
        FormatMill mill = new FormatMill();
        CHECKS.due("make()", mill.make(), 0);
        CHECKS.due("madeAt(0)", mill.madeAt(0), FormatMill.NONE);
        FormatMill withWord = new FormatMill();
        Checks.addWord(withWord, "word");
        CHECKS.due("make() with an argument that no place takes", withWord.make(), 0);
    }

    private static void newHasNoArguments() {
        CHECKS.sentence("Promise 1", "no arguments");
        CHECKS.dueFilled(FormatMill.FEW, "%s");
        CHECKS.dueFilled(FormatMill.FEW, "%d");
        CHECKS.due("number(1)", new FormatMill().number(1), 0);
        CHECKS.due("argument()", new FormatMill().argument(), 0);
    }

    private static void newHasNothingMade() {
        CHECKS.sentence("Promise 1", "nothing made");
        FormatMill mill = new FormatMill();
        for (int i : new int[] {0, 1, 1023, 1024, -1, Integer.MAX_VALUE, Integer.MIN_VALUE}) {
            CHECKS.due("madeAt(" + i + ")", mill.madeAt(i), FormatMill.NONE);
        }
    }

    private static void newTapeIsEmpty() {
        CHECKS.sentence("Promise 1", "the tape is empty");
        FormatMill mill = new FormatMill();
        CHECKS.due("end(1)", mill.end(1), false);
        CHECKS.due("end(0)", mill.end(0), true);
        CHECKS.due("format()", mill.format(), 0);
        FormatMill withWord = new FormatMill();
        withWord.argument();
        Checks.setFormat(withWord, "<%s>");
        CHECKS.due("make() with the empty tape as a word", withWord.make(), 2);
        FormatMill room = new FormatMill();
        CHECKS.due("feeds that fit", feedsThatFit(room), 20);
    }

    private static void feedAppendsTwenty() {
        CHECKS.sentence("Promise 2", "Appends twenty bytes to the tape");
        FormatMill mill = new FormatMill();
        CHECKS.due("feed of the empty tape", feed(mill, ALPHABET), true);
        CHECKS.due("end(21)", mill.end(21), false);
        CHECKS.due("end(20)", mill.end(20), true);
        CHECKS.due("feed behind twenty", feed(mill, ALPHABET.toUpperCase()), true);
        CHECKS.due("end(41)", mill.end(41), false);
        CHECKS.due("the tape", Checks.tapeText(mill), ALPHABET + ALPHABET.toUpperCase());
        FormatMill zeros = new FormatMill();
        CHECKS.due("feed of zeros", zeros.feed(0, 0, 0, 0, 0), true);
        CHECKS.due("the tape of zeros", Checks.tapeText(zeros), "\0".repeat(20));
    }

    private static void feedHighestFirst() {
        CHECKS.sentence("Promise 2", "of each number the highest first");
        FormatMill mill = new FormatMill();
        mill.feed(Integer.MIN_VALUE, Integer.MAX_VALUE, -1, 1, 0xFE01807F);
        CHECKS.due("the tape", Checks.tapeText(mill),
            "\u0080\0\0\0\u007f\u00ff\u00ff\u00ff\u00ff\u00ff\u00ff\u00ff\0\0\0\1\u00fe\1\u0080\u007f");
        for (int at = 0; at < 20; at++) {
            String one = "\0".repeat(at) + "\u00ff" + "\0".repeat(19 - at);
            FormatMill other = new FormatMill();
            feed(other, one);
            CHECKS.due("the tape with byte " + at + " set", Checks.tapeText(other), one);
        }
    }

    private static void feedRefusesMoreThan400() {
        CHECKS.sentence("Promise 2", "false, changing nothing, when it would have more than 400", "the answer");
        FormatMill mill = new FormatMill();
        CHECKS.due("feeds that fit", feedsThatFit(mill), 20);
        int[][] rows = {{400, 0}, {399, 0}, {390, 0}, {381, 0}, {380, 1}};
        for (int[] row : rows) {
            mill.end(row[0]);
            CHECKS.due("feed behind " + row[0], feed(mill, ALPHABET), row[1] == 1);
        }
        CHECKS.due("feed behind 400 again", feed(mill, ALPHABET), false);
        FormatMill odd = new FormatMill();
        feed(odd, ALPHABET);
        odd.end(1);
        CHECKS.due("feeds that fit behind one byte", feedsThatFit(odd), 19);
    }

    private static void feedRefusedChangesNothing() {
        CHECKS.sentence("Promise 2", "false, changing nothing, when it would have more than 400", "nothing is changed");
        String full = ALPHABET.repeat(20);
        for (int length : new int[] {400, 381}) {
            FormatMill mill = new FormatMill();
            Checks.type(mill, full.substring(0, length));
            CHECKS.due("feed behind " + length, mill.feed(-1, -1, -1, -1, -1), false);
            CHECKS.due("end(" + (length + 1) + ")", mill.end(length + 1), false);
            CHECKS.due("the tape", Checks.tapeText(mill), full.substring(0, length));
        }
    }

    private static void endKeepsTheFirst() {
        CHECKS.sentence("Promise 3", "Of the tape only the first n bytes count");
        for (int n = 0; n <= 20; n++) {
            FormatMill mill = new FormatMill();
            feed(mill, ALPHABET);
            CHECKS.due("end(" + n + ")", mill.end(n), true);
            CHECKS.due("end(" + n + ") again", mill.end(n), true);
            CHECKS.due("end(" + (n + 1) + ") behind it", mill.end(n + 1), false);
            CHECKS.due("the tape", Checks.tapeText(mill), ALPHABET.substring(0, n));
        }
        FormatMill mill = new FormatMill();
        feed(mill, ALPHABET);
        mill.end(3);
        feed(mill, ALPHABET.toUpperCase());
        CHECKS.due("a feed behind end(3)", Checks.tapeText(mill), "abc" + ALPHABET.toUpperCase());
    }

    private static void endKeepsNoneOrAll() {
        CHECKS.sentence("Promise 3", "Of the tape only the first n bytes count", "none or all 400");
        FormatMill all = new FormatMill();
        Checks.type(all, ALPHABET.repeat(20));
        CHECKS.due("end(400)", all.end(400), true);
        CHECKS.due("the tape", Checks.tapeText(all), ALPHABET.repeat(20));
        FormatMill none = new FormatMill();
        Checks.type(none, ALPHABET.repeat(20));
        CHECKS.due("end(0)", none.end(0), true);
        CHECKS.due("end(1)", none.end(1), false);
        CHECKS.due("feeds that fit behind end(0)", feedsThatFit(none), 20);
    }

    private static void endRefusesMoreThanThereAre() {
        CHECKS.sentence("Promise 3", "false, changing nothing, when it has not so many, or n is below 0", "not so many");
        for (int length : new int[] {0, 1, 19, 20, 21, 400}) {
            FormatMill mill = new FormatMill();
            String text = ALPHABET.repeat(20).substring(0, length);
            Checks.type(mill, text);
            for (int n : new int[] {length + 1, length + 20, 401, 1024, Integer.MAX_VALUE}) {
                CHECKS.due("end(" + n + ") of " + length, mill.end(n), false);
            }
            CHECKS.due("the tape", Checks.tapeText(mill), text);
        }
    }

    private static void endRefusesBelowZero() {
        CHECKS.sentence("Promise 3", "false, changing nothing, when it has not so many, or n is below 0", "below 0");
        for (int length : new int[] {0, 1, 20, 400}) {
            FormatMill mill = new FormatMill();
            String text = ALPHABET.repeat(20).substring(0, length);
            Checks.type(mill, text);
            for (int n : new int[] {-1, -length, -400, Integer.MIN_VALUE + 1, Integer.MIN_VALUE}) {
                if (n < 0) {
                    CHECKS.due("end(" + n + ") of " + length, mill.end(n), false);
                }
            }
            CHECKS.due("the tape", Checks.tapeText(mill), text);
        }
    }

    private static void formatAnswersHowMany() {
        CHECKS.sentence("Promise 4", "The tape's bytes (empty then, as below) are the format: how many");
        for (int length : new int[] {0, 1, 19, 20, 21, 40, 41, 399, 400}) {
            String text = ALPHABET.repeat(20).substring(0, length);
            FormatMill mill = new FormatMill();
            CHECKS.due("format() of " + length, Checks.setFormat(mill, text), length);
            CHECKS.due("make() of " + length, mill.make(), length);
            CHECKS.due("the format of " + length, Checks.madeText(mill), text);
        }
        CHECKS.due("format() of a BAD one", Checks.setFormat(new FormatMill(), "100%"), 4);
    }

    private static void formatEmptiesTheTape() {
        CHECKS.sentence("Promise 4", "The tape's bytes (empty then, as below) are the format", "the tape behind it");
        FormatMill mill = new FormatMill();
        Checks.setFormat(mill, ALPHABET.repeat(20));
        CHECKS.due("end(1)", mill.end(1), false);
        CHECKS.due("feeds that fit", feedsThatFit(mill), 20);
        FormatMill twice = new FormatMill();
        Checks.setFormat(twice, "abc");
        CHECKS.due("format() again", twice.format(), 0);
        CHECKS.due("make() of the empty format", twice.make(), 0);
        CHECKS.due("madeAt(0)", twice.madeAt(0), FormatMill.NONE);
    }

    private static void formatTakesTheTapeWhole() {
        CHECKS.sentence("Promise 4", "The tape's bytes (empty then, as below) are the format", "the whole format");
        FormatMill mill = new FormatMill();
        Checks.addWord(mill, "word");
        Checks.setFormat(mill, ALPHABET.repeat(20));
        Checks.setFormat(mill, "%s");
        CHECKS.due("make() of a shorter one behind a longer one", mill.make(), 4);
        CHECKS.due("its bytes", Checks.madeText(mill), "word");
        mill.feed(0x61626364, 0, 0, 0, 0);
        CHECKS.due("make() while other bytes are on the tape", mill.make(), 4);
    }

    private static boolean feed(FormatMill mill, String twenty) {
        return mill.feed(Checks.four(twenty, 0), Checks.four(twenty, 4), Checks.four(twenty, 8),
            Checks.four(twenty, 12), Checks.four(twenty, 16));
    }

    private static int feedsThatFit(FormatMill mill) {
        int count = 0;
        while (count < 30 && feed(mill, ALPHABET)) {
            count++;
        }
        return count;
    }
}
