import java.math.BigInteger;
import java.util.ArrayList;
import java.util.List;
import java.util.Random;
import java.util.regex.Matcher;
import java.util.regex.Pattern;

/** Long runs of calls against a second, plainer writing of the document with the Java library. */
public final class RandomRunsTest {
    private static final int RUNS = 3000;
    private static final int CALLS = 512;
    private static final Checks CHECKS = new Checks();

    public static void main(String[] args) {
        for (int run = 0; run < RUNS; run++) {
            new Run(run).go();
        }
        CHECKS.finish();
    }

    private static final class Model {
        private static final Pattern PIECE = Pattern.compile("%([-0+ ]*)([0-9]*)([dxXocs%])|[^%]", Pattern.DOTALL);
        private static final Pattern INTEGER = Pattern.compile("([-+]?)(?:0x([0-9a-fA-F]{1,16})|([0-9]+))");
        private String tape = "";
        private String format = "";
        private String made = "";
        private final List<String> arguments = new ArrayList<>();

        boolean feed(int... numbers) {
            if (tape.length() + 20 > 400) {
                return false;
            }
            for (int number : numbers) {
                for (byte b : java.nio.ByteBuffer.allocate(4).putInt(number).array()) {
                    tape += (char) (b & 255);
                }
            }
            return true;
        }

        boolean end(int n) {
            boolean can = n >= 0 && n <= tape.length();
            tape = can ? tape.substring(0, n) : tape;
            return can;
        }

        int format() {
            format = tape;
            tape = "";
            return format.length();
        }

        int argument() {
            String word = tape;
            tape = "";
            return word.length() > 40 ? -1 : add(word);
        }

        int add(String word) {
            if (arguments.size() == 20) {
                return -1;
            }
            arguments.add(word);
            return arguments.size() - 1;
        }

        int make() {
            made = "";
            String text = "";
            int used = 0;
            Matcher piece = PIECE.matcher(format);
            for (int at = 0; at < format.length(); at = piece.end()) {
                piece.region(at, format.length());
                if (!piece.lookingAt()) {
                    return -2;
                }
                String kind = piece.group(3);
                if (kind == null) {
                    text += piece.group();
                } else if (kind.equals("%")) {
                    text += "%";
                } else if (used == arguments.size()) {
                    return -3;
                } else {
                    String word = arguments.get(used++);
                    String filled = kind.equals("s") ? pad(word, piece.group(1).replace("0", ""), piece.group(2))
                        : integer(word, kind, piece.group(1), piece.group(2));
                    if (filled == null) {
                        return -4;
                    }
                    text += filled;
                }
                if (text.length() > 1024) {
                    return -5;
                }
            }
            made = text;
            return made.length();
        }

        private static String integer(String word, String kind, String flags, String width) {
            BigInteger value = valueOf(word);
            if (value == null) {
                return null;
            }
            BigInteger bits = value.mod(BigInteger.ONE.shiftLeft(64));
            switch (kind) {
                case "d":
                    String ahead = value.signum() < 0 ? "" : flags.contains("+") ? "+" : flags.contains(" ") ? " " : "";
                    return pad(ahead + value, flags, width);
                case "x":
                    return pad(bits.toString(16), flags, width);
                case "X":
                    return pad(bits.toString(16).toUpperCase(), flags, width);
                case "o":
                    return pad(bits.toString(8), flags, width);
                default:
                    return pad(String.valueOf((char) (bits.intValue() & 255)), flags.replace("0", ""), width);
            }
        }

        private static BigInteger valueOf(String word) {
            Matcher parts = INTEGER.matcher(word);
            if (!parts.matches()) {
                return null;
            }
            boolean minus = parts.group(1).equals("-");
            if (parts.group(2) != null) {
                long bits = new BigInteger(parts.group(2), 16).longValue();
                return BigInteger.valueOf(minus ? -bits : bits);
            }
            BigInteger value = new BigInteger(parts.group(3));
            value = minus ? value.negate() : value;
            return value.bitLength() > 63 ? null : value;
        }

        private static String pad(String text, String flags, String width) {
            int least = width.isEmpty() ? 0 : new BigInteger(width).min(BigInteger.valueOf(100000)).intValue();
            int gap = Math.max(0, least - text.length());
            if (flags.contains("-")) {
                return text + " ".repeat(gap);
            }
            if (!flags.contains("0")) {
                return " ".repeat(gap) + text;
            }
            int behind = !text.isEmpty() && "+- ".indexOf(text.charAt(0)) >= 0 ? 1 : 0;
            return text.substring(0, behind) + "0".repeat(gap) + text.substring(behind);
        }
    }

    private static final class Run {
        private final int seed;
        private final Random random;
        private final FormatMill mill = new FormatMill();
        private final Model model = new Model();

        Run(int seed) {
            this.seed = seed;
            this.random = new Random(seed);
        }

        void go() {
            int calls = 0;
            while (calls < CALLS - 50) {
                switch (random.nextInt(9)) {
                    case 0: calls += type(pattern()); due("format()", mill.format(), model.format()); break;
                    case 1: case 2: calls += type(word()); due("argument()", mill.argument(), model.argument()); break;
                    case 3: long v = number(); due("number(" + v + ")", mill.number(v), model.add(Long.toString(v))); break;
                    case 4: if (random.nextInt(6) == 0) { mill.clear(); model.arguments.clear(); } break;
                    case 5: int n = random.nextInt(500) - 20; due("end(" + n + ")", mill.end(n), model.end(n)); break;
                    case 6: if (random.nextInt(4) == 0) { calls += type(pattern()); } break;
                    default: due("make()", mill.make(), model.make()); calls += look();
                }
                calls++;
            }
        }

        private int look() {
            int first = random.nextInt(10) == 0 ? -2 : Math.max(0, random.nextInt(model.made.length() + 1) - 5);
            for (int i = first; i < first + 10; i++) {
                int want = i >= 0 && i < model.made.length() ? model.made.charAt(i) : -1;
                due("madeAt(" + i + ")", mill.madeAt(i), want);
            }
            return 10;
        }

        private int type(String text) {
            int before = model.tape.length();
            int calls = 0;
            for (int i = 0; i < text.length(); i += 20) {
                int[] row = new int[5];
                for (int k = 0; k < 5; k++) {
                    row[k] = Checks.four(text, i + 4 * k);
                }
                due("feed", mill.feed(row[0], row[1], row[2], row[3], row[4]), model.feed(row));
                calls++;
            }
            due("end", mill.end(before + text.length()), model.end(before + text.length()));
            return calls + 1;
        }

        private String pattern() {
            StringBuilder text = new StringBuilder();
            int pieces = random.nextInt(random.nextInt(12) == 0 ? 60 : 8);
            for (int i = 0; i < pieces; i++) {
                text.append(random.nextInt(3) == 0 ? String.valueOf((char) random.nextInt(256)) : place());
            }
            return text.length() > 400 ? text.substring(0, 400) : text.toString();
        }

        private String place() {
            StringBuilder text = new StringBuilder("%");
            for (int i = random.nextInt(4); i > 0; i--) {
                text.append("-0+ ".charAt(random.nextInt(4)));
            }
            int[] widths = {0, 0, 0, 5, 12, 12, 30, 30, 300, 1026, 120000};
            int width = widths[random.nextInt(widths.length)];
            if (width > 0) {
                text.append(random.nextInt(width));
            }
            return text.append("ddddxxXXoocssss%y".charAt(random.nextInt(17))).toString();
        }

        private String word() {
            StringBuilder text = new StringBuilder();
            switch (random.nextInt(8)) {
                case 0:
                    int length = random.nextInt(50);
                    for (int i = 0; i < length; i++) {
                        text.append((char) random.nextInt(256));
                    }
                    return text.toString();
                case 1:
                    return new BigInteger(random.nextInt(70), random).toString();
                case 2:
                    return "-" + new BigInteger(random.nextInt(70), random);
                case 3:
                    return BigInteger.ONE.shiftLeft(63).add(BigInteger.valueOf(random.nextInt(5) - 2)).toString();
                case 4:
                    return "-" + BigInteger.ONE.shiftLeft(63).add(BigInteger.valueOf(random.nextInt(5) - 2));
                default:
                    String[] ahead = {"", "+", "-", "0", "00"};
                    text.append(ahead[random.nextInt(5)]).append(random.nextInt(8) == 0 ? "" : "0x");
                    for (int i = random.nextInt(18); i > 0; i--) {
                        text.append("0123456789abcdefABCDEF".charAt(random.nextInt(22)));
                    }
                    return random.nextInt(8) == 0 ? text + "g" : text.toString();
            }
        }

        private long number() {
            return random.nextLong() >> random.nextInt(64);
        }

        private void due(String call, Object got, Object want) {
            CHECKS.due("seed " + seed + ": " + call, got, want);
        }
    }
}
