import java.nio.charset.StandardCharsets;

/** What the tests share: counting wrong answers, and texts in and out of a FormatMill. */
final class Checks {
    private static final int FEED_BYTES = 20;
    private static final int MOST_READ = 256;
    private static final int READ_LIMIT = 2048;
    private int checked = 0;
    private int wrong = 0;
    private String sentence = "";

    /** Names the promise and the sentence of the document that the answers from here on belong to. */
    void sentence(String promise, String words) {
        sentence = promise + ", \"" + words + "\": ";
    }

    /** The same for a case of the sentence that the test alone is about. */
    void sentence(String promise, String words, String which) {
        sentence = promise + ", \"" + words + "\", " + which + ": ";
    }

    void due(String call, Object got, Object want) {
        checked++;
        if (!want.equals(got)) {
            wrong++;
            System.out.println(sentence + call + " answered " + shown(got) + ", due is " + shown(want));
        }
    }

    void finish() {
        System.out.println((checked - wrong) + " answers as due, " + wrong + " not");
        if (wrong != 0) {
            System.exit(1);
        }
    }

    /** Puts a text of bytes 0 to 255 on an empty tape. */
    static void type(FormatMill mill, String text) {
        for (int i = 0; i < text.length(); i += FEED_BYTES) {
            mill.feed(four(text, i), four(text, i + 4), four(text, i + 8), four(text, i + 12), four(text, i + 16));
        }
        mill.end(text.length());
    }

    static int four(String text, int from) {
        int number = 0;
        for (int i = from; i < from + 4; i++) {
            number = number << 8 | (i < text.length() ? text.charAt(i) : 0);
        }
        return number;
    }

    static int setFormat(FormatMill mill, String text) {
        type(mill, text);
        return mill.format();
    }

    static int addWord(FormatMill mill, String word) {
        type(mill, word);
        return mill.argument();
    }

    /** What is made, read until NONE. */
    static String madeText(FormatMill mill) {
        StringBuilder text = new StringBuilder();
        readOn(mill, text, READ_LIMIT);
        return text.toString();
    }

    /** The tape's bytes, which must hold no %: taken as the format, and made. */
    static String tapeText(FormatMill mill) {
        mill.format();
        mill.make();
        return madeText(mill);
    }

    /**
     * Fills a format on a new object: a String is typed as a word, a Long given as a number.
     * An object is good for 512 calls alone, so a long text is read off several objects.
     */
    static Object filled(String format, Object... arguments) {
        StringBuilder text = new StringBuilder();
        int answer;
        boolean ended;
        do {
            FormatMill mill = loaded(format, arguments);
            answer = mill.make();
            ended = readOn(mill, text, MOST_READ);
        } while (!ended && text.length() < READ_LIMIT);
        if (answer < 0) {
            return text.length() == 0 ? (Object) answer : "answered " + answer + " with something made";
        }
        return answer == text.length() ? text.toString()
            : "answered " + answer + " with " + text.length() + " bytes made";
    }

    static FormatMill loaded(String format, Object... arguments) {
        FormatMill mill = new FormatMill();
        setFormat(mill, format);
        for (Object argument : arguments) {
            if (argument instanceof Long number) {
                mill.number(number);
            } else {
                addWord(mill, (String) argument);
            }
        }
        return mill;
    }

    /** Reads at most so many bytes behind those that the text has: true if NONE came. */
    private static boolean readOn(FormatMill mill, StringBuilder text, int most) {
        for (int i = 0; i < most; i++) {
            int b = mill.madeAt(text.length());
            if (b == FormatMill.NONE) {
                return true;
            }
            text.append((char) b);
        }
        return false;
    }

    void dueFilled(Object want, String format, Object... arguments) {
        due("filling " + shown(format) + " from " + java.util.Arrays.toString(arguments),
            filled(format, arguments), want);
    }

    private static String shown(Object answer) {
        if (!(answer instanceof String text)) {
            return String.valueOf(answer);
        }
        StringBuilder line = new StringBuilder("\"");
        for (byte b : text.getBytes(StandardCharsets.ISO_8859_1)) {
            if (b >= ' ' && b < 127) {
                line.append((char) b);
            } else {
                line.append(String.format("\\x%02x", b & 255));
            }
        }
        return line.append('"').toString();
    }
}
