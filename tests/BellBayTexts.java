import java.util.ArrayList;
import java.util.List;
import java.util.Random;
import java.util.regex.Matcher;
import java.util.regex.Pattern;

/**
 * Texts right and wrong, as bay() reads them, against a grammar of patterns that was written apart:
 * each line is a row of words and bounds.
 */
public final class BellBayTexts {
    private static int wrong = 0;
    private static int right = 0;
    private static final int[] FAULTS = new int[4];

    /** What a text is: its fault and place, or its lines and what they tell. */
    static final class Read {
        int fault;
        int place = -1;
        int lines;
        int churches;
        int seconds;
        final List<int[]> churchesTold = new ArrayList<>();
        final List<int[]> ears = new ArrayList<>();
        final List<int[]> starts = new ArrayList<>();
        final int[] spells = new int[4];
        private final List<String> tokens = new ArrayList<>();
        private final List<Integer> places = new ArrayList<>();
        private int at;

        Read(String text) {
            Matcher m = Pattern.compile("[a-z]+|[0-9]+|[^ \n]", Pattern.DOTALL).matcher(text);
            while (m.find()) {
                tokens.add(m.group());
                places.add(m.start());
            }
            tokens.add("");
            places.add(text.length());
            while (fault == 0 && at < tokens.size() - 1) {
                line();
                lines++;
            }
        }

        private void fail(int kind) {
            if (fault == 0) {
                fault = kind;
                place = places.get(at);
            }
        }

        private void full(boolean is) {
            if (is) {
                fail(3);
            }
        }

        private void line() {
            String word = tokens.get(at);
            if (lines == 0) {
                int[] n = match("bay churches # seconds # ;", 1, 9, 1, 300);
                churches = n[0];
                seconds = n[1];
                return;
            }
            int c = churches - 1;
            int s = seconds - 1;
            switch (word) {
                case "church" -> {
                    full(churchesTold.size() == churches);
                    String kind = fault == 0 ? tokens.get(at + 1) : "";
                    int k = kind.equals("late") ? 2 : kind.equals("proud") ? 1 : 0;
                    int[] n = k == 2 ? match("church late # rests # ;", 1, 60, 0, 99)
                        : match(k == 1 ? "church proud rests # ;" : "church eager rests # ;", 0, 99);
                    churchesTold.add(k == 2 ? new int[] {2, n[0], n[1]} : new int[] {k, 0, n[0]});
                }
                case "ear" -> {
                    full(ears.size() == 12);
                    int[] n = match("ear # of ! takes # <across/along/against> ;", 0, c, 0, c, 1, 60);
                    ears.add(n);
                }
                case "wind" -> {
                    full(spells[0]++ == 6);
                    match("wind at # <along/against> # ;", 0, s, 0, 20);
                }
                case "fog" -> {
                    full(spells[1]++ == 6);
                    match("fog on # from # to ^ ;", 0, ears.size() - 1, 0, s, 0, s);
                }
                case "deaf" -> {
                    full(spells[2]++ == 6);
                    match("deaf # from # to ^ ;", 0, c, 0, s, 0, s);
                }
                case "funeral" -> {
                    full(spells[3]++ == 6);
                    match("funeral at # from # to ^ ;", 0, c, 0, s, 0, s);
                }
                case "starts" -> {
                    full(starts.size() == 4);
                    starts.add(match("starts # at # hour # ;", 0, c, 0, s, 1, 99));
                }
                default -> fail(1);
            }
        }

        /** '#' a number in its bounds, '!' unlike the one ahead, '^' no less than it, '<..>' one of some words. */
        private int[] match(String pattern, int... bounds) {
            int[] got = new int[8];
            int n = 0;
            int bound = 0;
            for (String p : pattern.split(" ")) {
                if (fault != 0) {
                    return got;
                }
                String token = tokens.get(at);
                if ("#!^".contains(p)) {
                    if (!token.matches("[0-9]+")) {
                        fail(1);
                        return got;
                    }
                    java.math.BigInteger big = new java.math.BigInteger(token);
                    int v = big.bitLength() > 30 ? Integer.MAX_VALUE : big.intValue();
                    boolean no = v < bounds[bound] || v > bounds[bound + 1];
                    no |= p.equals("!") && v == got[n - 1] || p.equals("^") && v < got[n - 1];
                    if (no) {
                        fail(2);
                        return got;
                    }
                    got[n++] = v;
                    bound += 2;
                } else if (p.startsWith("<")) {
                    int which = List.of(p.substring(1, p.length() - 1).split("/")).indexOf(token);
                    if (which < 0) {
                        fail(1);
                        return got;
                    }
                    got[n++] = which;
                } else if (!token.equals(p)) {
                    fail(1);
                    return got;
                }
                at++;
            }
            return got;
        }
    }

    private static void due(String text, String call, long got, long want) {
        if (got != want) {
            wrong++;
            if (wrong < 20) {
                System.out.println("\"" + text.replace('\n', '_') + "\": " + call + " answered " + got + ", due is " + want);
            }
        }
    }

    static void pour(BellBay to, String text) {
        byte[] bytes = text.getBytes(java.nio.charset.StandardCharsets.ISO_8859_1);
        byte[] padded = java.util.Arrays.copyOf(bytes, (bytes.length + 19) / 20 * 20);
        java.nio.IntBuffer ints = java.nio.ByteBuffer.wrap(padded).asIntBuffer();
        while (ints.hasRemaining()) {
            to.feed(ints.get(), ints.get(), ints.get(), ints.get(), ints.get());
        }
        to.end(bytes.length);
    }

    private static void check(String text) {
        Read r = new Read(text);
        BellBay x = new BellBay();
        pour(x, text);
        due(text, "bay()", x.bay(), r.fault == 0 ? r.lines : -4);
        due(text, "fault(0)", x.fault(0), r.fault);
        due(text, "fault(1)", x.fault(1), r.place);
        FAULTS[r.fault]++;
        if (r.fault != 0) {
            due(text, "count(4)", x.count(4), 0);
            return;
        }
        right++;
        due(text, "count(0)", x.count(0), r.churches);
        due(text, "count(1)", x.count(1), r.seconds);
        due(text, "count(2)", x.count(2), r.ears.size());
        due(text, "count(3)", x.count(3), r.starts.size());
        due(text, "count(4)", x.count(4), r.lines);
        for (int c = 0; c < r.churches; c++) {
            for (int what = 0; what < 3; what++) {
                int want = c < r.churchesTold.size() ? r.churchesTold.get(c)[what] : 0;
                due(text, "church(" + c + ", " + what + ")", x.church(c, what), want);
            }
        }
        for (int e = 0; e < r.ears.size(); e++) {
            for (int what = 0; what < 4; what++) {
                due(text, "ear(" + e + ", " + what + ")", x.ear(e, what), r.ears.get(e)[what]);
            }
        }
        for (int i = 0; i < r.starts.size(); i++) {
            due(text, "shift(" + i + ", 0)", x.shift(i, 0), r.starts.get(i)[1]);
        }
    }

    // ---------------------------------------------------------------- random texts

    private static final String[] LINES = {
        "church eager rests R;", "church proud rests R;", "church late L rests R;", "ear C of C takes L across;",
        "ear C of C takes L along;", "ear C of C takes L against;", "wind at S along W;", "wind at S against W;",
        "fog on E from S to S;", "deaf C from S to S;", "funeral at C from S to S;", "starts C at S hour H;",
        "ear C of C takes L across;", "starts C at S hour H;"
    };

    private static int near(Random r, int low, int high) {
        int pick = r.nextInt(40);
        return pick == 0 ? low - 1 : pick == 1 ? high + 1 : pick == 2 ? low : pick == 3 ? high
            : low + r.nextInt(Math.max(1, high - low + 1));
    }

    private static String text(Random r) {
        int churches = 1 + r.nextInt(9);
        int seconds = 1 + r.nextInt(r.nextBoolean() ? 300 : 10);
        StringBuilder b = new StringBuilder("bay churches " + churches + " seconds " + seconds + ";");
        int ears = 0;
        int kind = r.nextInt(3);
        String favourite = LINES[r.nextInt(LINES.length)];
        for (int n = r.nextInt(kind == 0 ? 30 : 8); n > 0; n--) {
            String line = kind == 0 && r.nextInt(3) > 0 ? favourite : LINES[r.nextInt(LINES.length)];
            for (char ch : line.toCharArray()) {
                switch (ch) {
                    case 'R' -> b.append(near(r, 0, 99));
                    case 'L' -> b.append(near(r, 1, 60));
                    case 'C' -> b.append(near(r, 0, churches - 1));
                    case 'S' -> b.append(near(r, 0, seconds - 1));
                    case 'W' -> b.append(near(r, 0, 20));
                    case 'E' -> b.append(near(r, 0, ears - 1));
                    case 'H' -> b.append(near(r, 1, 99));
                    default -> b.append(ch);
                }
            }
            ears += line.startsWith("ear") ? 1 : 0;
        }
        return b.toString();
    }

    private static String spoiled(Random r, String text) {
        String signs = " \n;0123456789abcdefghijklmnopqrstuvwxyzA-\t" + (char) 0 + (char) 233 + (char) 160 + "{`:/";
        String[] words = {"bay", "church", "ear", "wind", "fog", "deaf", "funeral", "starts", "at", "of", "on", "from", "to",
            "hour", "takes", "along", "against", "across", "eager", "proud", "late", "rests", "churches", "seconds",
            "00000000003", "99999999999999999999", "4294967297", "300", ";;"};
        int at = r.nextInt(text.length());
        int to = Math.min(text.length(), at + r.nextInt(6));
        return switch (r.nextInt(6)) {
            case 0 -> text.substring(0, at);
            case 1 -> text.substring(0, at) + text.substring(to);
            case 2 -> text.substring(0, at) + signs.charAt(r.nextInt(signs.length())) + text.substring(at);
            case 3 -> text.substring(0, at) + signs.charAt(r.nextInt(signs.length())) + text.substring(at + 1);
            case 4 -> text.substring(0, at) + words[r.nextInt(words.length)] + text.substring(at);
            default -> text.replace(" ", r.nextBoolean() ? "\n" : "").substring(0);
        };
    }

    public static void main(String[] args) {
        for (int seed = 0; seed < 40000; seed++) {
            Random r = new Random(seed * 31L + 7);
            String text = text(r);
            if (r.nextInt(3) == 0) {
                text = spoiled(r, text);
            }
            if (text.length() <= 2000) {
                check(text);
            }
        }
        System.out.println(right + " texts right, " + FAULTS[1] + ", " + FAULTS[2] + ", " + FAULTS[3]
            + " of each fault; " + wrong + " answers not as due");
        if (wrong != 0 || right < 1000 || FAULTS[1] < 1000 || FAULTS[2] < 1000 || FAULTS[3] < 300) {
            System.exit(1);
        }
    }
}
