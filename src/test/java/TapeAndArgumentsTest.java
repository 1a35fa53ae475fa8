/** Promises 1 to 7: the new object, the tape, the format and the arguments. */
public final class TapeAndArgumentsTest {
    private static final Checks CHECKS = new Checks();

    public static void main(String[] args) {
        newObject();
        feedBytesHighestFirst();
        feedUpToTheLimit();
        endCutsTheTape();
        endRefuses();
        formatTakesTheTape();
        argumentTakesTheTape();
        argumentRefuses();
        numberAddsDecimalDigits();
        numberRefuses();
        clearDropsArguments();
        objectsStandApart();
        CHECKS.finish();
    }

    private static void newObject() {
        FormatMill mill = new FormatMill();
        CHECKS.due("new: end(1)", mill.end(1), false);
        CHECKS.due("new: end(0)", mill.end(0), true);
        CHECKS.due("new: madeAt(0)", mill.madeAt(0), FormatMill.NONE);
        CHECKS.due("new: make()", mill.make(), 0);
        CHECKS.due("new: madeAt(0) of an empty format", mill.madeAt(0), FormatMill.NONE);
        CHECKS.due("new: format()", mill.format(), 0);
        CHECKS.due("new: argument() of an empty tape", mill.argument(), 0);
        Checks.setFormat(mill, "<%s>");
        CHECKS.due("the empty word: make()", mill.make(), 2);
        FormatMill bare = new FormatMill();
        Checks.setFormat(bare, "%s");
        CHECKS.due("new: no arguments", bare.make(), FormatMill.FEW);
    }

    private static void feedBytesHighestFirst() {
        FormatMill mill = new FormatMill();
        CHECKS.due("feed", mill.feed(0x01020304, 0x05060708, 0x090A0B0C, 0x0D0E0F10, 0xFFFE8081), true);
        CHECKS.due("format() of a feed", mill.format(), 20);
        CHECKS.due("make() of a feed", mill.make(), 20);
        CHECKS.due("bytes of a feed", Checks.madeText(mill),
            "\1\2\3\4\5\6\7\10\11\12\13\14\15\16\17\20\u00ff\u00fe\u0080\u0081");
    }

    private static void feedUpToTheLimit() {
        FormatMill mill = new FormatMill();
        for (int i = 0; i < 20; i++) {
            CHECKS.due("feed " + i, mill.feed(i << 24, 0, 0, 0, i), true);
        }
        CHECKS.due("feed over 400", mill.feed(1, 2, 3, 4, 5), false);
        CHECKS.due("end(401)", mill.end(401), false);
        CHECKS.due("end(400)", mill.end(400), true);
        CHECKS.due("end(381)", mill.end(381), true);
        CHECKS.due("feed to 401", mill.feed(1, 2, 3, 4, 5), false);
        CHECKS.due("end(382) of 381", mill.end(382), false);
        CHECKS.due("end(380)", mill.end(380), true);
        CHECKS.due("feed to 400", mill.feed(0x41414141, 0, 0, 0, 0x42), true);
        CHECKS.due("format() of 400", mill.format(), 400);
        CHECKS.due("make() of 400", mill.make(), 400);
        for (int i = 0; i < 19; i++) {
            CHECKS.due("first byte of feed " + i, mill.madeAt(20 * i), i);
            CHECKS.due("last byte of feed " + i, mill.madeAt(20 * i + 19), i);
        }
        CHECKS.due("byte 380", mill.madeAt(380), 0x41);
        CHECKS.due("byte 399", mill.madeAt(399), 0x42);
        CHECKS.due("byte 400", mill.madeAt(400), FormatMill.NONE);
    }

    private static void endCutsTheTape() {
        FormatMill mill = new FormatMill();
        mill.feed(0x61626364, 0x65666768, 0, 0, 0);
        CHECKS.due("end(3)", mill.end(3), true);
        CHECKS.due("end(4) behind end(3)", mill.end(4), false);
        mill.feed(0x78797A7A, 0, 0, 0, 0);
        CHECKS.due("end(24) of 23", mill.end(24), false);
        CHECKS.due("end(6)", mill.end(6), true);
        CHECKS.due("format()", mill.format(), 6);
        mill.make();
        CHECKS.due("a feed goes on behind end", Checks.madeText(mill), "abcxyz");
        mill.feed(0x61626364, 0, 0, 0, 0);
        CHECKS.due("end(0)", mill.end(0), true);
        CHECKS.due("format() behind end(0)", mill.format(), 0);
    }

    private static void endRefuses() {
        FormatMill mill = new FormatMill();
        mill.feed(0x61626364, 0, 0, 0, 0);
        CHECKS.due("end(-1)", mill.end(-1), false);
        CHECKS.due("end(lowest)", mill.end(Integer.MIN_VALUE), false);
        CHECKS.due("end(21)", mill.end(21), false);
        CHECKS.due("end(highest)", mill.end(Integer.MAX_VALUE), false);
        CHECKS.due("format() behind refused ends", mill.format(), 20);
    }

    private static void formatTakesTheTape() {
        FormatMill mill = new FormatMill();
        CHECKS.due("format()", Checks.setFormat(mill, "first %s"), 8);
        CHECKS.due("the tape is empty behind format()", mill.end(1), false);
        Checks.addWord(mill, "word");
        CHECKS.due("make()", mill.make(), 10);
        CHECKS.due("format() anew", Checks.setFormat(mill, "<%s>"), 4);
        CHECKS.due("what is made outlives format()", Checks.madeText(mill), "first word");
        CHECKS.due("arguments outlive format()", mill.make(), 6);
        CHECKS.due("a shorter format", Checks.madeText(mill), "<word>");
        CHECKS.due("format() of the empty tape", mill.format(), 0);
        CHECKS.due("make() of the empty format", mill.make(), 0);
        CHECKS.due("nothing is made of it", Checks.madeText(mill), "");
    }

    private static void argumentTakesTheTape() {
        FormatMill mill = new FormatMill();
        CHECKS.due("argument() 0", Checks.addWord(mill, "a"), 0);
        CHECKS.due("the tape is empty behind argument()", mill.end(1), false);
        CHECKS.due("argument() 1", Checks.addWord(mill, ""), 1);
        CHECKS.due("argument() 2", Checks.addWord(mill, "x".repeat(40)), 2);
        CHECKS.due("argument() 3", Checks.addWord(mill, "\0\u00ff%d"), 3);
        Checks.setFormat(mill, "%s,%s,%s,%s");
        CHECKS.due("make()", mill.make(), 48);
        CHECKS.due("words as they are", Checks.madeText(mill), "a,," + "x".repeat(40) + ",\0\u00ff%d");
        CHECKS.due("make() again, from the first argument on", mill.make(), 48);
    }

    private static void argumentRefuses() {
        FormatMill mill = new FormatMill();
        CHECKS.due("argument() of 41", Checks.addWord(mill, "y".repeat(41)), FormatMill.NONE);
        CHECKS.due("the tape is empty behind a refusal", mill.end(1), false);
        for (int i = 0; i < 20; i++) {
            CHECKS.due("argument() " + i, Checks.addWord(mill, "w" + i), i);
        }
        CHECKS.due("argument() 20", Checks.addWord(mill, "more"), FormatMill.NONE);
        CHECKS.due("the tape is empty behind a full row", mill.end(1), false);
        CHECKS.due("argument() 20, empty", mill.argument(), FormatMill.NONE);
        Checks.setFormat(mill, "%s".repeat(20));
        CHECKS.due("make() of 20", mill.make(), 50);
        CHECKS.due("20 words", Checks.madeText(mill), "w0w1w2w3w4w5w6w7w8w9w10w11w12w13w14w15w16w17w18w19");
        Checks.setFormat(mill, "%s".repeat(21));
        CHECKS.due("make() of 21", mill.make(), FormatMill.FEW);
    }

    private static void numberAddsDecimalDigits() {
        long[] values = {0, 1, -1, 9, 10, -10, 99, 100, 1000000000000000000L, 999999999999999999L,
            -1000000000000000000L, Long.MAX_VALUE, Long.MIN_VALUE, Integer.MIN_VALUE, 1234567890123456789L};
        FormatMill mill = new FormatMill();
        Checks.setFormat(mill, "%s");
        for (long value : values) {
            mill.clear();
            CHECKS.due("number(" + value + ")", mill.number(value), 0);
            mill.make();
            CHECKS.due("its digits", Checks.madeText(mill), Long.toString(value));
        }
        mill.feed(0x61626364, 0, 0, 0, 0);
        mill.number(1);
        CHECKS.due("number() leaves the tape", mill.end(20), true);
        CHECKS.due("number() counts on", mill.number(5), 2);
        CHECKS.due("argument() counts on", mill.argument(), 3);
    }

    private static void numberRefuses() {
        FormatMill mill = new FormatMill();
        for (int i = 0; i < 20; i++) {
            CHECKS.due("number() " + i, i % 2 == 0 ? mill.number(i) : Checks.addWord(mill, "w"), i);
        }
        CHECKS.due("number() 20", mill.number(7), FormatMill.NONE);
        Checks.setFormat(mill, "%s".repeat(20));
        mill.make();
        CHECKS.due("the 20 stay", Checks.madeText(mill), "0w2w4w6w8w10w12w14w16w18w");
    }

    private static void clearDropsArguments() {
        FormatMill mill = new FormatMill();
        mill.clear();
        Checks.setFormat(mill, "%s");
        for (int i = 0; i < 20; i++) {
            Checks.addWord(mill, "a longer word");
        }
        CHECKS.due("make()", mill.make(), 13);
        mill.feed(0x78000000, 0, 0, 0, 0);
        mill.clear();
        CHECKS.due("what is made outlives clear()", Checks.madeText(mill), "a longer word");
        CHECKS.due("the tape outlives clear()", mill.end(1), true);
        CHECKS.due("make() behind clear()", mill.make(), FormatMill.FEW);
        CHECKS.due("numbers begin again", mill.argument(), 0);
        CHECKS.due("make() of the new one", mill.make(), 1);
        CHECKS.due("nothing of the old one", Checks.madeText(mill), "x");
    }

    private static void objectsStandApart() {
        FormatMill one = new FormatMill();
        FormatMill other = new FormatMill();
        Checks.setFormat(one, "%s");
        Checks.addWord(one, "one");
        one.make();
        one.feed(1, 2, 3, 4, 5);
        CHECKS.due("other: end(1)", other.end(1), false);
        CHECKS.due("other: madeAt(0)", other.madeAt(0), FormatMill.NONE);
        CHECKS.due("other: number(1)", other.number(1), 0);
        CHECKS.due("other: make()", other.make(), 0);
    }
}
