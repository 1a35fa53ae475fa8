/** Formats: a text with places for integers and words, filled from a row of them. */
public final class FormatMill {
    public static final int NONE = -1, BAD = -2, FEW = -3, WORD = -4, LONG = -5;

    private static final int FINE = 0;
    private static final int NO_SIGN = 0;
    private static final int TAPE_LIMIT = 400;
    private static final int FEED_BYTES = 20;
    private static final int WORD_LIMIT = 40;
    private static final int ARGUMENT_LIMIT = 20;
    private static final int MADE_LIMIT = 1024;
    private static final int WIDTH_LIMIT = 100000;
    private static final int HEXADECIMAL_LIMIT = 16;
    private static final int OCTAL_LIMIT = 22;
    private static final long LOWEST = -9223372036854775808L;
    private static final long HIGHEST_DECIMAL_UNIT = 1000000000000000000L;

    private final Text tape;
    private final Text pattern;
    private final Text made;
    private final Text[] arguments;
    private int argumentCount;
    private int taken;
    private final Place place;
    private final Numeral numeral;
    private final Text digits;

    public FormatMill() {
        tape = new Text(TAPE_LIMIT);
        pattern = new Text(TAPE_LIMIT);
        made = new Text(MADE_LIMIT);
        arguments = new Text[ARGUMENT_LIMIT];
        for (int i = 0; i < arguments.length; i++) {
            arguments[i] = new Text(WORD_LIMIT);
        }
        argumentCount = 0;
        taken = 0;
        place = new Place();
        numeral = new Numeral();
        digits = new Text(WORD_LIMIT);
    }

    public boolean feed(int a, int b, int c, int d, int e) {
        if (!tape.hasRoomFor(FEED_BYTES)) {
            return false;
        }
        tape.addFourBytes(a);
        tape.addFourBytes(b);
        tape.addFourBytes(c);
        tape.addFourBytes(d);
        tape.addFourBytes(e);
        return true;
    }

    public boolean end(int n) {
        return tape.shorten(n);
    }

    public int format() {
        pattern.empty();
        pattern.addText(tape);
        tape.empty();
        return pattern.length;
    }

    public int argument() {
        int answer = NONE;
        if (tape.length <= WORD_LIMIT && hasRoomForArgument()) {
            nextArgument().addText(tape);
            answer = argumentCount - 1;
        }
        // The document exempts no answer from "empty then", so a refused word leaves the tape too.
        tape.empty();
        return answer;
    }

    public int number(long v) {
        if (!hasRoomForArgument()) {
            return NONE;
        }
        Text word = nextArgument();
        if (v < 0) {
            word.add('-');
        }
        word.addDecimalDigits(v);
        return argumentCount - 1;
    }

    public void clear() {
        argumentCount = 0;
    }

    public int make() {
        made.empty();
        taken = 0;
        int next = 0;
        // A piece is a place or a byte, so there are never more pieces than bytes.
        for (int piece = 0; piece < TAPE_LIMIT && next < pattern.length; piece++) {
            int fault;
            if (pattern.at(next) == '%') {
                fault = place.read(pattern, next + 1) ? fillPlace() : BAD;
                next = place.behind;
            } else {
                fault = made.add(pattern.at(next)) ? FINE : LONG;
                next++;
            }
            if (fault != FINE) {
                made.empty();
                return fault;
            }
        }
        return made.length;
    }

    public int madeAt(int i) {
        return made.at(i);
    }

    private boolean hasRoomForArgument() {
        return argumentCount >= 0 && argumentCount < arguments.length;
    }

    /** To be called only where hasRoomForArgument() holds. */
    private Text nextArgument() {
        Text word = arguments[argumentCount];
        argumentCount++;
        word.empty();
        return word;
    }

    private int fillPlace() {
        if (place.kind == '%') {
            return made.add('%') ? FINE : LONG;
        }
        if (taken < 0 || taken >= argumentCount || taken >= arguments.length) {
            return FEW;
        }
        Text word = arguments[taken];
        taken++;
        if (place.kind == 's') {
            return addPadded(NO_SIGN, word, false);
        }
        if (!numeral.read(word)) {
            return WORD;
        }
        return fillWithInteger(numeral.value);
    }

    private int fillWithInteger(long value) {
        digits.empty();
        switch (place.kind) {
            case 'd':
                digits.addDecimalDigits(value);
                return addPadded(place.signOf(value), digits, place.zeros);
            case 'x':
                digits.addBits(value, HEXADECIMAL_LIMIT, 4, 'a');
                return addPadded(NO_SIGN, digits, place.zeros);
            case 'X':
                digits.addBits(value, HEXADECIMAL_LIMIT, 4, 'A');
                return addPadded(NO_SIGN, digits, place.zeros);
            case 'o':
                digits.addBits(value, OCTAL_LIMIT, 3, 'a');
                return addPadded(NO_SIGN, digits, place.zeros);
            default:
                digits.add((int) value);
                return addPadded(NO_SIGN, digits, false);
        }
    }

    private int addPadded(int sign, Text body, boolean zeros) {
        int bare = body.length + (sign == NO_SIGN ? 0 : 1);
        int whole = Math.max(bare, place.width);
        if (!made.hasRoomFor(whole)) {
            return LONG;
        }
        int gap = whole - bare;
        if (!place.left && !zeros) {
            made.addMany(' ', gap);
        }
        if (sign != NO_SIGN) {
            made.add(sign);
        }
        if (!place.left && zeros) {
            made.addMany('0', gap);
        }
        made.addText(body);
        if (place.left) {
            made.addMany(' ', gap);
        }
        return FINE;
    }

    private static boolean isDecimalDigit(int b) {
        return b >= '0' && b <= '9';
    }

    /** Bytes in a row that is made once and used again. */
    private static final class Text {
        private final int[] bytes;
        private int length;

        Text(int limit) {
            bytes = new int[limit < 0 ? 0 : limit];
            length = 0;
        }

        void empty() {
            length = 0;
        }

        boolean shorten(int n) {
            if (n < 0 || n > length) {
                return false;
            }
            length = n;
            return true;
        }

        int at(int i) {
            return i < 0 || i >= length || i >= bytes.length ? NONE : bytes[i];
        }

        boolean hasRoomFor(int count) {
            return count <= bytes.length - length;
        }

        boolean add(int b) {
            if (length < 0 || length >= bytes.length) {
                return false;
            }
            bytes[length] = b & 255;
            length++;
            return true;
        }

        void addFourBytes(int number) {
            add(number >>> 24);
            add(number >>> 16);
            add(number >>> 8);
            add(number);
        }

        void addMany(int b, int count) {
            for (int i = 0; i < count; i++) {
                add(b);
            }
        }

        void addText(Text other) {
            int count = other.length;
            for (int i = 0; i < count; i++) {
                add(other.at(i));
            }
        }

        /** The digits alone; the value is never negated, since the lowest long has no opposite. */
        void addDecimalDigits(long value) {
            boolean begun = false;
            for (long unit = HIGHEST_DECIMAL_UNIT; unit > 0; unit /= 10) {
                int digit = Math.abs((int) (value / unit % 10));
                begun = begun || digit != 0 || unit == 1;
                if (begun) {
                    add('0' + digit);
                }
            }
        }

        void addBits(long value, int mostDigits, int bitsOfDigit, int letterForTen) {
            int mask = (1 << bitsOfDigit) - 1;
            boolean begun = false;
            for (int i = mostDigits - 1; i >= 0; i--) {
                int digit = (int) (value >>> (i * bitsOfDigit)) & mask;
                begun = begun || digit != 0 || i == 0;
                if (begun) {
                    add(digit < 10 ? '0' + digit : letterForTen + digit - 10);
                }
            }
        }
    }

    /** The place of a format that was read last. */
    private static final class Place {
        private boolean left;
        private boolean zeros;
        private boolean plus;
        private boolean blank;
        private int width;
        private int kind;
        private int behind;

        Place() {
            kind = NONE;
        }

        /** Reads what stands behind a %, from the given byte on: false if that is no place. */
        boolean read(Text text, int from) {
            int widthFrom = readFlags(text, from);
            int kindAt = readWidth(text, widthFrom);
            kind = text.at(kindAt);
            behind = kindAt + 1;
            return isKind(kind);
        }

        int signOf(long value) {
            if (value < 0) {
                return '-';
            }
            if (plus) {
                return '+';
            }
            return blank ? ' ' : NO_SIGN;
        }

        private int readFlags(Text text, int from) {
            left = false;
            zeros = false;
            plus = false;
            blank = false;
            int i = from;
            while (i < text.length && setFlag(text.at(i))) {
                i++;
            }
            return i;
        }

        private boolean setFlag(int b) {
            switch (b) {
                case '-':
                    left = true;
                    return true;
                case '0':
                    zeros = true;
                    return true;
                case '+':
                    plus = true;
                    return true;
                case ' ':
                    blank = true;
                    return true;
                default:
                    return false;
            }
        }

        private int readWidth(Text text, int from) {
            width = 0;
            int i = from;
            while (i < text.length && isDecimalDigit(text.at(i))) {
                width = Math.min(WIDTH_LIMIT, width * 10 + text.at(i) - '0');
                i++;
            }
            return i;
        }

        private static boolean isKind(int b) {
            switch (b) {
                case 'd':
                case 'x':
                case 'X':
                case 'o':
                case 'c':
                case 's':
                case '%':
                    return true;
                default:
                    return false;
            }
        }
    }

    /** The integer that a word was last read as. */
    private static final class Numeral {
        private long value;

        Numeral() {
            value = 0;
        }

        /** False if the word is no integer; the value means nothing then. */
        boolean read(Text word) {
            boolean minus = word.at(0) == '-';
            int from = minus || word.at(0) == '+' ? 1 : 0;
            if (word.at(from) == '0' && word.at(from + 1) == 'x') {
                return readHexadecimal(word, from + 2, minus);
            }
            return readDecimal(word, from, minus);
        }

        private boolean readHexadecimal(Text word, int from, boolean minus) {
            int count = word.length - from;
            if (count < 1 || count > HEXADECIMAL_LIMIT) {
                return false;
            }
            value = 0;
            for (int i = from; i < word.length; i++) {
                int digit = hexadecimalDigit(word.at(i));
                if (digit == NONE) {
                    return false;
                }
                value = value << 4 | digit;
            }
            if (minus) {
                value = -value;
            }
            return true;
        }

        private boolean readDecimal(Text word, int from, boolean minus) {
            if (from >= word.length) {
                return false;
            }
            // Gathered below 0, where there is one number more than above it.
            value = 0;
            for (int i = from; i < word.length; i++) {
                int b = word.at(i);
                if (!isDecimalDigit(b) || !takeDigitBelowZero(b - '0')) {
                    return false;
                }
            }
            if (minus) {
                return true;
            }
            if (value == LOWEST) {
                return false;
            }
            value = -value;
            return true;
        }

        private boolean takeDigitBelowZero(int digit) {
            if (value < LOWEST / 10 || value * 10 < LOWEST + digit) {
                return false;
            }
            value = value * 10 - digit;
            return true;
        }

        private static int hexadecimalDigit(int b) {
            if (isDecimalDigit(b)) {
                return b - '0';
            }
            if (b >= 'a' && b <= 'f') {
                return b - 'a' + 10;
            }
            if (b >= 'A' && b <= 'F') {
                return b - 'A' + 10;
            }
            return NONE;
        }
    }
}
