import java.io.IOException;
import java.math.BigInteger;
import java.nio.ByteBuffer;
import java.nio.IntBuffer;
import java.nio.charset.StandardCharsets;
import java.nio.file.Files;
import java.nio.file.Path;
import java.util.ArrayList;
import java.util.Arrays;
import java.util.BitSet;
import java.util.HashMap;
import java.util.List;
import java.util.Map;
import java.util.function.Supplier;
import java.util.regex.Matcher;
import java.util.regex.Pattern;

/**
 * The boundary cases that the document names, sentence by sentence. Each is quoted (says(..)) and must stand in the
 * document so; in the end each bound and each answer of a refused call in the document must have been quoted.
 */
public final class BellBayEdges {
    private static final int MIN = Integer.MIN_VALUE;
    private static final int MAX = Integer.MAX_VALUE;
    private static final int NONE = -1;
    private static final int NO = -2;
    private static final int LONE = -2000000;
    private static final int TERMS = 0;

    private static int wrong = 0;
    private static int asked = 0;
    private static int promise = 0;
    private static String sentence = "";
    private static final Map<Integer, String> SECTIONS = new HashMap<>();
    private static final Map<Integer, BitSet> QUOTED = new HashMap<>();

    interface Ask {
        long of(BellBay x);
    }

    interface AskBy {
        long of(BellBay x, int v);
    }

    // ---------------------------------------------------------------- the document

    private static void readDocument(String file) throws IOException {
        String all = Files.readString(Path.of(file)).replaceAll("\\s+", " ");
        int terms = all.indexOf("## Terms");
        Matcher m = Pattern.compile("## Promise (\\d+): ").matcher(all);
        int number = TERMS;
        int from = terms;
        while (m.find()) {
            SECTIONS.put(number, all.substring(from, m.start()));
            number = Integer.parseInt(m.group(1));
            from = m.end();
        }
        SECTIONS.put(number, all.substring(from, all.indexOf("## Not promised")));
        for (int p : SECTIONS.keySet()) {
            QUOTED.put(p, new BitSet());
        }
    }

    /** What follows tests these words of a promise (or of the terms). */
    private static void says(int number, String words) {
        promise = number;
        sentence = words;
        int at = SECTIONS.get(number).indexOf(words);
        if (at < 0) {
            wrong++;
            System.out.println("promise " + number + " does not say: " + words);
            return;
        }
        QUOTED.get(number).set(at, at + words.length());
    }

    /** Each bound (n .. m) and each answer of a refused call must have been quoted. */
    private static void nothingIsLeftOut() {
        Pattern edge = Pattern.compile("\\d+ \\.\\. [\\d,]+|NONE|NOTHING|-\\d[\\d,]*\\d|-\\d|\\b0:|\\b0 without|\\bat most|\\bat least|below 0|last SECOND|300th");
        for (int p : SECTIONS.keySet()) {
            Matcher m = edge.matcher(SECTIONS.get(p));
            while (m.find()) {
                if (!QUOTED.get(p).get(m.start())) {
                    wrong++;
                    System.out.println("promise " + p + ": no test quotes '" + m.group() + "' at " + m.start());
                }
            }
        }
    }

    private static void due(String call, long got, long want) {
        asked++;
        if (got != want) {
            complain(call, "answered " + got + ", due is " + want);
        }
    }

    private static void complain(String call, String what) {
        wrong++;
        System.out.println((promise == TERMS ? "terms" : "promise " + promise) + " '" + sentence + "': " + call + " " + what);
    }

    // ---------------------------------------------------------------- bays

    private static int feed(BellBay x, String text) {
        byte[] bytes = text.getBytes(StandardCharsets.ISO_8859_1);
        byte[] padded = Arrays.copyOf(bytes, (bytes.length + 19) / 20 * 20);
        IntBuffer ints = ByteBuffer.wrap(padded).asIntBuffer();
        int before = x.count(5);
        while (ints.hasRemaining()) {
            x.feed(ints.get(), ints.get(), ints.get(), ints.get(), ints.get());
        }
        return x.end(before + bytes.length);
    }

    private static BellBay of(String text) {
        BellBay x = new BellBay();
        feed(x, text);
        if (x.bay() <= 0) {
            complain("bay()", "refused " + text + " at " + x.fault(1));
        }
        return x;
    }

    private static BellBay nothing() {
        return new BellBay();
    }

    private static void lay(BellBay x, int slot, int width, long... numbers) {
        x.row(slot, width, numbers.length);
        for (int i = 0; i < numbers.length; i++) {
            x.write(slot, i, numbers[i]);
        }
    }

    private static final String BUSY = "bay churches 3 seconds 40; church eager rests 1; church proud rests 2; church late 2 rests 0;"
        + "ear 1 of 0 takes 3 along; ear 2 of 1 takes 4 across; ear 0 of 2 takes 5 against; wind at 5 along 2;"
        + "fog on 2 from 30 to 35; deaf 1 from 20 to 22; funeral at 2 from 0 to 39; starts 0 at 1 hour 3; starts 1 at 9 hour 8;";

    /** Three churches, 40 seconds, three ears, two starts; something is changed, kept, in slots 0 to 2, on the tape; a fault. */
    private static BellBay busy() {
        BellBay x = of(BUSY);
        x.keep(0);
        x.muffle(2, 1);
        x.cut(1, 1);
        x.tune(0, 5);
        x.shift(0, 2);
        x.keep(2);
        x.muffle(2, 0);
        x.cut(1, 0);
        x.cut(2, 1);
        lay(x, 0, 1, 2, 0, 3, 9, 1, 8);
        lay(x, 1, 3, 1, 9, 20);
        x.row(2, 0, 60);
        feed(x, "bay churches 0 seconds 9;");
        x.bay();
        feed(x, "bay churches 9 seconds 300; starts 8 at 299 hour 99;");
        return x;
    }

    /** Two churches that strike by turns, a strike a second. */
    private static BellBay turns(int seconds) {
        return of("bay churches 2 seconds " + seconds + "; ear 0 of 1 takes 1 across; ear 1 of 0 takes 1 across; starts 0 at 0 hour 1;");
    }

    /** All that can be told, 50 lines in 2,000 bytes; a chain of nine churches, and four ears back to church 0. */
    private static String most() {
        StringBuilder b = new StringBuilder("bay churches 9 seconds 300;");
        for (int i = 0; i < 9; i++) {
            b.append(i == 8 ? "church late 1 rests 0;" : "church proud rests 0;");
        }
        for (int i = 0; i < 12; i++) {
            b.append(i < 8 ? "ear " + (i + 1) + " of " + i + " takes 10 across;" : "ear 0 of " + (i - 4) + " takes 1 along;");
        }
        for (int i = 0; i < 6; i++) {
            b.append("wind at 299 against 20;fog on 11 from 299 to 299;deaf 8 from 299 to 299;funeral at 8 from 299 to 299;");
        }
        for (int i = 0; i < 4; i++) {
            b.append("starts ").append(i).append(" at 0 hour ").append(i + 1).append(";");
        }
        while (b.length() < 2000) {
            b.append(b.length() % 2 == 0 ? ' ' : '\n');
        }
        return b.toString();
    }

    // ---------------------------------------------------------------- all that can be seen of an object

    private static void see(List<Long> seen, BellBay x) {
        for (int what = 0; what <= 8; what++) {
            seen.add((long) x.count(what));
        }
        for (int c = 0; c < x.count(0); c++) {
            for (int what = 0; what < 4; what++) {
                seen.add((long) x.church(c, what));
            }
        }
        for (int e = 0; e < x.count(2); e++) {
            for (int what = 0; what < 5; what++) {
                seen.add((long) x.ear(e, what));
            }
            seen.add((long) x.takes(e, 5));
        }
        seen.add((long) x.strikes());
        seen.add((long) x.quiet());
        for (int what = 0; what < 8; what++) {
            seen.add((long) x.lost(what));
        }
        for (int i = 0; i < 4; i++) {
            for (int what = 0; what < 5; what++) {
                seen.add((long) x.strike(i, what));
            }
        }
    }

    private static void seeSlots(List<Long> seen, BellBay x) {
        for (int slot = 0; slot < 4; slot++) {
            seen.add((long) x.log(slot));
            seen.add((long) x.odd(slot));
            seen.add((long) x.bets(slot));
            for (int other = 0; other < slot; other++) {
                seen.add((long) x.paste(slot, 0, other, 0, 0));
            }
            for (int i : new int[] {0, 1, 2, 3, 5, 6, 7, 59, 60}) {
                seen.add((long) x.write(slot, i, 0));
            }
        }
    }

    /** Answers from which all that an object holds can be told; the object is used up. */
    private static List<Long> all(BellBay x) {
        List<Long> seen = new ArrayList<>();
        for (int what = 0; what < 2; what++) {
            seen.add((long) x.fault(what));
        }
        see(seen, x);
        seeSlots(seen, x);
        for (int start = 0; start < 4; start++) {
            seen.add((long) x.shift(start, 0));
        }
        for (int k = 0; k < 3; k++) {
            seen.add((long) x.back(k));
            seen.add((long) x.count(6));
            seen.add((long) x.count(7));
            seen.add((long) x.ear(0, 2));
            seen.add((long) x.strike(0, 0));
        }
        seen.add((long) x.bay());
        for (int what = 0; what < 8; what++) {
            seen.add((long) x.count(what));
        }
        seen.add((long) x.quiet());
        return seen;
    }

    private static final Map<Supplier<BellBay>, List<Long>> BEFORE = new HashMap<>();

    /** The call answers that, and leaves all as it was. */
    private static void stays(String call, Supplier<BellBay> world, Ask ask, long want) {
        BellBay x = world.get();
        due(call, ask.of(x), want);
        if (!all(x).equals(BEFORE.computeIfAbsent(world, w -> all(w.get())))) {
            complain(call, "left something changed");
        }
    }

    private static final Supplier<BellBay> BUSY_ONE = BellBayEdges::busy;
    private static final Supplier<BellBay> NEW_ONE = BellBayEdges::nothing;

    /** An argument from the least to the most is taken; one below, one above, the smallest and the largest are refused. */
    private static void bounds(String call, AskBy ask, int least, int most, long refused) {
        bounds(BUSY_ONE, call, ask, least, most, refused);
    }

    private static void bounds(Supplier<BellBay> world, String call, AskBy ask, int least, int most, long refused) {
        for (int v : new int[] {least - 1, most + 1, MIN, MAX, MIN + 1, MAX - 1, least - 256, most + 65536, least + MIN, most - MAX - 1}) {
            if (v < least || v > most) {
                stays(call + " of " + v, world, x -> ask.of(x, v), refused);
            }
        }
        for (int v : new int[] {least, most}) {
            asked++;
            if (ask.of(world.get(), v) == refused) {
                complain(call + " of " + v, "is refused");
            }
        }
    }

    private static void churches(String call, AskBy ask, long refused) {
        bounds(call, ask, 0, 2, refused);
    }

    private static void seconds(String call, AskBy ask, long refused) {
        bounds(call, ask, 0, 39, refused);
    }

    private static void hours(String call, AskBy ask, long refused) {
        bounds(call, ask, 1, 99, refused);
    }

    private static void ears(String call, AskBy ask, long refused) {
        bounds(call, ask, 0, 2, refused);
    }

    /** Without a bay the call is refused, and nothing comes of it. */
    private static void noBay(String call, Ask ask, long refused) {
        stays(call + " of no bay", NEW_ONE, ask, refused);
        BellBay x = busy();
        x.end(0);
        x.bay();
        due(call + " of a bay that is gone", ask.of(x), refused);
    }

    // ---------------------------------------------------------------- the terms, I: texts

    private static void right(String text, int lines) {
        BellBay x = nothing();
        feed(x, text);
        due("bay() of " + text, x.bay(), lines);
        due("fault(0) of " + text, x.fault(0), 0);
        due("fault(1) of " + text, x.fault(1), NONE);
        due("count(4) of " + text, x.count(4), lines);
        due("count(5) of " + text, x.count(5), 0);
    }

    private static void faulty(String text, int kind, int place) {
        BellBay x = nothing();
        feed(x, text);
        due("bay() of " + text, x.bay(), -4);
        due("fault(0) of " + text, x.fault(0), kind);
        due("fault(1) of " + text, x.fault(1), place);
        due("count(4) of " + text, x.count(4), 0);
    }

    private static final String AHEAD = "bay churches 3 seconds 40;ear 0 of 1 takes 5 along;ear 1 of 0 takes 5 along;";

    /** Tokens of a line; a number stands as 'it:least..most'. */
    private static final class Line {
        final String ahead;
        final int lines;
        final String[] tokens;

        Line(String text, int before, String pattern) {
            ahead = text;
            lines = before;
            tokens = pattern.split(" ");
        }

        static String plain(String token) {
            return token.contains(":") ? token.substring(0, token.indexOf(':')) : token;
        }

        int bound(int i, int which) {
            return Integer.parseInt(tokens[i].split(":|\\.\\.")[1 + which]);
        }

        int placeOf(int i) {
            return until(i).length();
        }

        /** All ahead of a token. */
        String until(int i) {
            StringBuilder b = new StringBuilder(ahead);
            for (int j = 0; j < i; j++) {
                b.append(plain(tokens[j])).append(' ');
            }
            return b.toString();
        }

        String with(int i, String token) {
            StringBuilder b = new StringBuilder(until(i)).append(token);
            for (int j = i + 1; j < tokens.length; j++) {
                b.append(' ').append(plain(tokens[j]));
            }
            return b.toString();
        }
    }

    private static void numberOf(Line line, int i) {
        int least = line.bound(i, 0);
        int most = line.bound(i, 1);
        for (String v : new String[] {"" + least, "" + most, "000" + least, "0".repeat(200) + most}) {
            right(line.with(i, v), line.lines + 1);
        }
        if (least > 0) {
            faulty(line.with(i, "" + (least - 1)), 2, line.placeOf(i));
        }
        for (long v : new long[] {most + 1L, MAX, MAX + 1L, (1L << 32) + least, (1L << 32) + most, (1L << 32) - 1, Long.MAX_VALUE}) {
            faulty(line.with(i, "" + v), 2, line.placeOf(i));
        }
        BigInteger wide = BigInteger.ONE.shiftLeft(64);
        faulty(line.with(i, wide.add(BigInteger.valueOf(most)).toString()), 2, line.placeOf(i));
        faulty(line.with(i, "1" + "0".repeat(500)), 2, line.placeOf(i));
        for (String other : new String[] {"x", ";", "-" + most, "+" + most}) {
            faulty(line.with(i, other), 1, line.placeOf(i));
        }
    }

    private static void wordOf(Line line, int i) {
        String word = line.tokens[i];
        String[] others = {word + "x", word + word, word.substring(0, word.length() - 1), word.substring(1), "x".repeat(500),
            word.substring(0, 1).toUpperCase() + word.substring(1), "7", ";", "{" + word, "`"};
        for (String other : others) {
            faulty(line.with(i, other), 1, line.placeOf(i));
        }
    }

    private static void line(Line line) {
        right(line.with(0, line.tokens[0]), line.lines + 1);
        for (int i = 0; i < line.tokens.length; i++) {
            for (char strange : new char[] {0, 9, 13, 11, 31, 33, '/', ':', '<', '@', 'A', 'Z', '[', '`', '{', 127, 128, 160, 255}) {
                faulty(line.with(i, "" + strange), 1, line.placeOf(i));
            }
            if (i > 0) {
                String cut = line.until(i).substring(0, line.placeOf(i) - 1);
                faulty(cut, 1, cut.length());
                faulty(cut + " \n\n ", 1, cut.length() + 4);
            }
            if (line.tokens[i].contains(":")) {
                numberOf(line, i);
            } else if (line.tokens[i].equals(";")) {
                faulty(line.with(i, "x"), 1, line.placeOf(i));
                faulty(line.with(i, "7"), 1, line.placeOf(i));
                faulty(line.with(i, "; ;"), 1, line.placeOf(i) + 2);
            } else if (!Character.isDigit(line.tokens[i].charAt(0))) {
                wordOf(line, i);
            }
        }
    }

    private static void lines() {
        says(TERMS, "bay is the first LINE and no other: churches 1 .. 9, seconds 1 .. 300.");
        line(new Line("", 0, "bay churches 2:1..9 seconds 5:1..300 ;"));
        for (String first : new String[] {"church eager rests 0;", "ear 0 of 1 takes 1 along;", "starts 0 at 0 hour 1;", ";", "7;"}) {
            faulty(first + "bay churches 2 seconds 9;", 1, 0);
        }
        faulty("bay churches 2 seconds 9; bay churches 2 seconds 9;", 1, 26);
        faulty(AHEAD + "bay churches 2 seconds 9;", 1, AHEAD.length());
        says(TERMS, "KIND: eager | proud | late N (1 .. 60); rests 0 .. 99;");
        line(new Line(AHEAD, 3, "church eager rests 5:0..99 ;"));
        line(new Line(AHEAD, 3, "church proud rests 5:0..99 ;"));
        line(new Line(AHEAD, 3, "church late 5:1..60 rests 5:0..99 ;"));
        says(TERMS, "B a CHURCH 0 .. churches less 1 (told or not); of an ear two unlike ones, takes 1 .. 60; WAY: along | against | across.");
        line(new Line(AHEAD, 3, "ear 0:0..2 of 1 takes 5:1..60 along ;"));
        line(new Line(AHEAD, 3, "ear 1 of 0:0..2 takes 5:1..60 against ;"));
        line(new Line(AHEAD, 3, "ear 2 of 0 takes 5:1..60 across ;"));
        for (int c = 0; c < 3; c++) {
            faulty(AHEAD + "ear " + c + " of " + c + " takes 5 along;", 2, AHEAD.length() + 9);
        }
        faulty("bay churches 1 seconds 9;ear 0 of 0 takes 1 along;", 2, 34);
        says(TERMS, "E an EAR told ahead. at, from SECONDS (0 .. seconds less 1), to a SECOND no less than from.");
        line(new Line(AHEAD, 3, "fog on 0:0..1 from 3:0..39 to 39:3..39 ;"));
        line(new Line(AHEAD, 3, "deaf 0:0..2 from 3:0..39 to 39:3..39 ;"));
        line(new Line(AHEAD, 3, "funeral at 0:0..2 from 3:0..39 to 39:3..39 ;"));
        right(AHEAD + "deaf 0 from 39 to 39;deaf 0 from 0 to 0;", 5);
        faulty(AHEAD + "deaf 0 from 39 to 38;", 2, AHEAD.length() + 18);
        faulty("bay churches 2 seconds 9;fog on 0 from 0 to 0;ear 0 of 1 takes 1 along;", 2, 32);
        right("bay churches 2 seconds 9;ear 0 of 1 takes 1 along;fog on 0 from 0 to 0;", 3);
        says(TERMS, "wind 0 .. 20, from that SECOND on till the next one told (by SECONDS; of one SECOND the later one; none ahead of the first).");
        line(new Line(AHEAD, 3, "wind at 3:0..39 along 4:0..20 ;"));
        line(new Line(AHEAD, 3, "wind at 3:0..39 against 4:0..20 ;"));
        faulty(AHEAD + "wind at 3 across 4;", 1, AHEAD.length() + 10);
        winds();
        says(TERMS, "hour 1 .. 99.");
        line(new Line(AHEAD, 3, "starts 0:0..2 at 5:0..39 hour 7:1..99 ;"));
    }

    private static void winds() {
        BellBay x = of("bay churches 2 seconds 300;ear 0 of 1 takes 30 along;wind at 299 against 20;wind at 100 along 7;wind at 100 along 5;"
            + "wind at 50 along 20;wind at 200 along 0;wind at 200 against 3;");
        int[][] takes = {{0, 30}, {49, 30}, {50, 10}, {99, 10}, {100, 25}, {199, 25}, {200, 33}, {298, 33}, {299, 50}};
        for (int[] one : takes) {
            due("takes(0, " + one[0] + ")", x.takes(0, one[0]), one[1]);
        }
        due("no wind told", of("bay churches 2 seconds 9;ear 0 of 1 takes 30 along;").takes(0, 8), 30);
    }

    private static void tokens() {
        says(TERMS, "CHURCHES that are not told are eager and rest 0; they are told in order.");
        BellBay x = of("bay churches 9 seconds 9;church late 60 rests 99;");
        for (int c = 0; c < 9; c++) {
            for (int what = 0; what < 3; what++) {
                due("church(" + c + ", " + what + ")", x.church(c, what), c > 0 ? 0 : new int[] {2, 60, 99}[what]);
            }
        }
        says(TERMS, "TOKENS, blanks (32, 10) aside, the longest: words (a .. z), numbers (digits), the sign ; .");
        right("", 0);
        right(" ", 0);
        right("\n", 0);
        right(" \n".repeat(1000), 0);
        right("bay churches1seconds1;", 1);
        right("\n\nbay\nchurches\n9\nseconds\n300\n;\n\n", 1);
        right("bay churches 1 seconds 1;starts0at0hour1;deaf0from0to0;", 3);
        faulty("baychurches 1 seconds 1;", 1, 0);
        faulty("bay churches 1 0 seconds 1;", 1, 15);
        faulty("bay churches 1 seconds 30 0;", 1, 26);
        faulty("ba y churches 1 seconds 1;", 1, 0);
        faulty("bay churches 1\tseconds 1;", 1, 14);
        faulty("z".repeat(2000), 1, 0);
        faulty("9".repeat(2000), 1, 0);
        faulty(";".repeat(2000), 1, 0);
        faulty(" ".repeat(1999) + "?", 1, 1999);
        faulty("bay churches " + "9".repeat(1987), 2, 13);
        faulty("bay churches " + "0".repeat(1986) + "9", 1, 2000);
        says(TERMS, "FAULTS, the first by its place (a TOKEN's first byte; the end's), of one place the least: "
            + "1 a TOKEN that is none, or can't stand there (bay behind the first LINE, another word ahead of it).");
        faulty("bay churches 10 seconds 301;", 2, 13);
        faulty("bay churches 10 seconds ?;", 2, 13);
        faulty("bay churches ? seconds 301;", 1, 13);
        faulty("bay churches 1 seconds 301", 2, 23);
        faulty("bay churches 1 seconds", 1, 22);
        faulty("bay churches 1 seconds   ", 1, 25);
        faulty("   bay churches 1 seconds 1;   bay", 1, 31);
        faulty("bay churches 1 seconds 1;church eager rests 0;church eager rests 100;", 3, 46);
        faulty("bay churches 1 seconds 1;church eager rests 100;church eager rests 0;", 2, 44);
        says(TERMS, "2 a number out of its bounds, not as said.");
        faulty(AHEAD + "fog on 2 from 0 to 0;", 2, AHEAD.length() + 7);
        faulty(AHEAD + "ear 1 of 1 takes 1 along;", 2, AHEAD.length() + 9);
        faulty(AHEAD + "deaf 1 from 8 to 7;", 2, AHEAD.length() + 17);
    }

    private static void crowds() {
        says(TERMS, "3 a church more than churches, a 13th ear, 5th starts, 7th wind, fog, deaf, funeral, at its word.");
        String[] one = {"church eager rests 0;", "ear 0 of 1 takes 1 along;", "starts 0 at 0 hour 1;", "wind at 0 along 1;",
            "fog on 0 from 0 to 0;", "deaf 0 from 0 to 0;", "funeral at 0 from 0 to 0;"};
        int[] most = {3, 10, 4, 6, 6, 6, 6};
        for (int k = 0; k < one.length; k++) {
            String full = AHEAD + one[k].repeat(most[k]);
            String word = one[k].substring(0, one[k].indexOf(' '));
            right(full, 3 + most[k]);
            faulty(full + " " + one[k], 3, full.length() + 1);
            faulty(full + word, 3, full.length());
            faulty(full + word + " ?", 3, full.length());
            faulty(full + word + "x 1", 1, full.length());
            faulty(full + one[k].replace('0', '9'), 3, full.length());
        }
        for (int churches = 1; churches <= 9; churches++) {
            String full = "bay churches " + churches + " seconds 1;" + one[0].repeat(churches);
            right(full, 1 + churches);
            faulty(full + one[0], 3, full.length());
        }
        says(TERMS, "EARS 0 .. 11 are numbered as they stand, starts 0 .. 3, winds, fogs, deaf ones, funerals (six each) too.");
        BellBay x = of(most());
        for (int e = 0; e < 12; e++) {
            due("ear(" + e + ", 1)", x.ear(e, 1), e < 8 ? e : e - 4);
        }
        due("ear(12, 1)", x.ear(12, 1), NO);
        for (int start = 0; start < 4; start++) {
            due("shift(" + start + ", " + start + ")", x.shift(start, start), 0);
        }
        for (int start = 0; start < 4; start++) {
            due("noon(" + (start + 1) + ", 0)", x.noon(start + 1, 0), start);
        }
        due("shift(4, 0)", x.shift(4, 0), NO);
        says(TERMS, "SLOTS 0 .. 3 have rows of numbers of 1, 2, 4 or 8 bytes (WIDTH 0 .. 3), at most 60, or nothing.");
        due("row(0, 0, 60)", x.row(0, 0, 60), 0);
        due("row(3, 3, 60)", x.row(3, 3, 60), 0);
        due("row(3, 3, 61)", x.row(3, 3, 61), NO);
        due("row(4, 3, 60)", x.row(4, 3, 60), NO);
        due("row(3, 4, 60)", x.row(3, 4, 60), NO);
        due("write to nothing", x.write(1, 0, 0), -6);
    }

    // ---------------------------------------------------------------- the terms, II: strikes

    /** Four starts of church 0 at 1, 2, 3, 4, heard by church 1 five seconds later. */
    private static BellBay fourIn(String spell, int hour) {
        BellBay x = nothing();
        feed(x, "bay churches 2 seconds 20;ear 1 of 0 takes 5 across;" + spell);
        for (int s = 1; s <= 4; s++) {
            feed(x, "starts 0 at " + s + " hour " + hour + ";");
        }
        x.bay();
        return x;
    }

    private static void dues() {
        says(TERMS, "Of several the greatest HOUR, of these the one that came to be DUE first (starts ahead of all, in order).");
        String two = "bay churches 3 seconds 20;ear 2 of 0 takes 5 across;ear 2 of 1 takes 5 across;starts 1 at 0 hour %d;starts 0 at 0 hour %d;";
        BellBay even = of(String.format(two, 4, 4));
        due("of two alike the one of church 0", even.strike(2, 3), 0);
        due("by ear 0", even.strike(2, 4), 0);
        due("one is lost to it", even.lost(7), 1);
        due("the greater one of church 1", of(String.format(two, 5, 4)).strike(2, 3), 1);
        due("the greater one of church 0", of(String.format(two, 4, 5)).strike(2, 3), 0);
        BellBay ears = of("bay churches 2 seconds 20;ear 1 of 0 takes 5 across;ear 1 of 0 takes 5 across;starts 0 at 0 hour 4;");
        due("of two ears the first", ears.strike(1, 4), 0);
        due("of two ears, lost", ears.lost(7), 1);
        ears.cut(0, 1);
        due("the other one, if that is cut", ears.strike(1, 4), 1);
        BellBay sent = of("bay churches 3 seconds 20;ear 2 of 0 takes 4 across;ear 2 of 1 takes 5 across;starts 0 at 1 hour 4;starts 1 at 0 hour 4;");
        due("the one that was struck first", sent.strike(2, 3), 0);
        due("which is church 1's", sent.strike(2, 4), 1);
        BellBay start = of("bay churches 2 seconds 20;ear 1 of 0 takes 5 across;starts 0 at 0 hour 4;starts 1 at 5 hour 4;");
        due("a start is ahead of what is heard", start.strike(1, 3), NONE);
        due("what is heard is lost", start.lost(7), 1);
        BellBay greater = of("bay churches 2 seconds 20;ear 1 of 0 takes 5 across;starts 0 at 0 hour 5;starts 1 at 5 hour 4;");
        due("a greater one that is heard is ahead of a start", greater.strike(1, 3), 0);
        due("the start is lost", greater.lost(7), 1);
        due("late: so many seconds ahead", of("bay churches 2 seconds 20;church eager rests 0;church late 7 rests 0;ear 1 of 0 takes 5 across;"
            + "starts 0 at 1 hour 5;").when(1, 0), 13);
        due("a start is not late", of("bay churches 1 seconds 20;church late 7 rests 0;starts 0 at 1 hour 5;").when(0, 0), 1);
    }

    private static void unless() {
        says(TERMS, "The CHURCH STRIKES it, unless it is muffled, or it rests (it struck in this many SECONDS ahead), "
            + "or it is proud and has struck that HOUR or a greater one last.");
        int[][] pairs = {{0, 1, 2}, {1, 1, 1}, {1, 2, 2}, {3, 3, 1}, {3, 4, 2}, {98, 99, 2}, {99, 99, 1}, {99, 100, 2}};
        for (int[] p : pairs) {
            BellBay rest = of("bay churches 1 seconds 300;church eager rests " + p[0] + ";starts 0 at 0 hour 1;starts 0 at " + p[1] + " hour 1;");
            due("rests " + p[0] + ", again in " + p[1], rest.strikes(), p[2]);
            due("rests " + p[0] + ", again in " + p[1] + ", lost", rest.lost(2), 2 - p[2]);
        }
        BellBay notStruck = of("bay churches 1 seconds 20;church eager rests 3;starts 0 at 0 hour 1;starts 0 at 3 hour 1;starts 0 at 4 hour 1;starts 0 at 7 hour 1;");
        due("what was lost at rest makes no rest: 0, 4", notStruck.strikes(), 2);
        due("lost at rest: 3, 7", notStruck.lost(2), 2);
        int[][] hours = {{5, 4, 1}, {5, 5, 1}, {5, 6, 2}, {98, 99, 2}, {99, 99, 1}, {1, 1, 1}, {1, 2, 2}};
        for (int[] p : hours) {
            BellBay proud = of("bay churches 1 seconds 9;church proud rests 0;starts 0 at 0 hour " + p[0] + ";starts 0 at 1 hour " + p[1] + ";");
            due("proud, " + p[0] + " then " + p[1], proud.strikes(), p[2]);
            due("proud, " + p[0] + " then " + p[1] + ", lost", proud.lost(3), 2 - p[2]);
        }
        BellBay both = of("bay churches 1 seconds 9;church proud rests 1;starts 0 at 0 hour 5;starts 0 at 1 hour 5;starts 0 at 2 hour 5;");
        due("at rest ahead of pride", both.lost(2), 1);
        due("pride behind the rest", both.lost(3), 1);
        both.muffle(0, 1);
        due("muffled ahead of all", both.lost(4), 3);
        due("never struck, never at rest", both.lost(2), 0);
        due("never struck, never proud", both.lost(3), 0);
    }

    private static void onTheWay() {
        says(TERMS, "along: so much less (1 at least) with wind along, so much more with wind against; against: the other way round; across: as told.");
        int[][] takes = {{1, 0, 1, 1, 1}, {1, 20, 1, 21, 1}, {20, 20, 1, 40, 20}, {21, 20, 1, 41, 21}, {22, 20, 2, 42, 22}, {60, 20, 40, 80, 60}, {60, 1, 59, 61, 60}};
        for (int[] t : takes) {
            for (int wind = 0; wind < 2; wind++) {
                BellBay x = of("bay churches 2 seconds 9;ear 0 of 1 takes " + t[0] + " along;ear 0 of 1 takes " + t[0] + " against;ear 0 of 1 takes "
                    + t[0] + " across;wind at 0 " + (wind == 0 ? "along " : "against ") + t[1] + ";");
                due(t[0] + " along", x.takes(0, 8), t[2 + wind]);
                due(t[0] + " against", x.takes(1, 8), t[3 - wind]);
                due(t[0] + " across", x.takes(2, 8), t[4]);
            }
        }
        BellBay then = of("bay churches 2 seconds 20;ear 1 of 0 takes 5 along;wind at 3 along 4;starts 0 at 2 hour 1;starts 0 at 3 hour 1;");
        due("as the wind is in the second of the strike: at 3, and 1", then.strike(2, 0), 4);
        due("as the wind is in the second of the strike: at 2, and 5", then.strike(3, 0), 7);
        says(TERMS, "It is LOST, if that is behind the last SECOND, in fog on that EAR then, or on one who is deaf then (asked in this order);");
        BellBay last = of("bay churches 2 seconds 10;ear 1 of 0 takes 5 across;starts 0 at 4 hour 1;starts 0 at 5 hour 1;");
        due("heard in the last second", last.when(1, 1), 9);
        due("heard behind it", last.lost(5), 1);
        BellBay fog = fourIn("fog on 0 from 7 to 8;", 5);
        due("fog at 7, 8", fog.lost(0), 2);
        due("none at 6", fog.when(1, 0), 6);
        due("none at 9", fog.when(1, 1), 9);
        BellBay deaf = fourIn("deaf 1 from 7 to 8;", 5);
        due("deaf at 7, 8", deaf.lost(1), 2);
        due("not at 6", deaf.when(1, 0), 6);
        due("not at 9", deaf.when(1, 1), 9);
        due("deaf church 0 strikes its starts", fourIn("deaf 0 from 0 to 19;", 5).strikes(), 8);
        BellBay order = fourIn("fog on 0 from 7 to 8;deaf 1 from 8 to 9;", 5);
        due("fog ahead of the deaf", order.lost(0), 2);
        due("on the deaf alone", order.lost(1), 1);
        BellBay end = of("bay churches 2 seconds 10;ear 1 of 0 takes 5 across;fog on 0 from 0 to 9;deaf 1 from 0 to 9;starts 0 at 5 hour 1;");
        due("the end ahead of fog", end.lost(5), 1);
        due("no fog behind the end", end.lost(0), 0);
    }

    private static void funerals() {
        says(TERMS, "a funeral there then makes the HOUR one more (of several at once one); an HOUR above 99 is LOST. "
            + "What is late beyond the last SECOND is LOST there, too.");
        BellBay one = fourIn("funeral at 1 from 7 to 8;funeral at 1 from 8 to 8;funeral at 0 from 0 to 19;", 5);
        int[] hours = {0, 0, 0, 0, 0, 0, 5, 6, 6, 5};
        for (int s = 0; s < 10; s++) {
            due("hour(1, " + s + ")", one.hour(1, s), hours[s]);
        }
        due("a start is none the more for a funeral", one.hour(0, 19), 5);
        BellBay high = fourIn("funeral at 1 from 7 to 8;", 99);
        due("above 99", high.lost(6), 2);
        due("99 at 6 and 9", high.many(1), 2);
        BellBay less = fourIn("funeral at 1 from 7 to 8;", 98);
        due("98 and one", less.lost(6), 0);
        due("99", less.noon(99, 3), 2);
        String late = "bay churches 2 seconds 100;church eager rests 0;church late 60 rests 0;ear 1 of 0 takes 30 across;starts 0 at %d hour 99;";
        due("late to the last second", of(String.format(late, 9)).when(1, 0), 99);
        due("late beyond it", of(String.format(late, 10)).when(1, 0), NONE);
        due("late beyond it, lost", of(String.format(late, 10)).lost(5), 1);
        due("too high ahead of too late", of(String.format(late, 10) + "funeral at 1 from 40 to 40;").lost(6), 1);
        due("fog then ahead of lateness", of(String.format(late, 10) + "fog on 0 from 40 to 40;").lost(0), 1);
        due("no fog when it is struck", of(String.format(late, 9) + "fog on 0 from 40 to 99;").lost(0), 0);
        due("no deaf one when it is struck", of(String.format(late, 9) + "deaf 1 from 40 to 99;").lost(1), 0);
        due("no funeral when it is struck", of(String.format(late, 9) + "funeral at 1 from 40 to 99;").lost(6), 0);
    }

    private static void ends() {
        says(TERMS, "With the 300th STRIKE all ends (what would come is neither struck nor LOST).");
        BellBay less = turns(299);
        due("299 strikes", less.strikes(), 299);
        due("the last goes out", less.lost(5), 1);
        due("by ear 1", less.passes(1, 2), 150);
        BellBay even = turns(300);
        due("300 strikes", even.strikes(), 300);
        due("the last is not lost", even.lost(5), 0);
        due("it does not go out", even.passes(0, 2), 149);
        BellBay more = of("bay churches 2 seconds 300;ear 0 of 1 takes 1 across;ear 1 of 0 takes 1 across;starts 0 at 0 hour 1;starts 0 at 1 hour 1;"
            + "starts 0 at 299 hour 7;starts 1 at 298 hour 7;");
        due("300 strikes", more.strikes(), 300);
        due("in second 150", more.quiet(), 150);
        due("a start behind is not struck", more.noon(7, 3), 0);
        for (int what = 0; what < 8; what++) {
            due("lost(" + what + ")", more.lost(what), 0);
        }
        due("strike(299, 1)", more.strike(299, 1), 0);
        due("strike(300, 1)", more.strike(300, 1), NONE);
        more.muffle(1, 1);
        due("in the end the starts of church 0 are left", more.strikes(), 3);
    }

    // ---------------------------------------------------------------- the terms, III: draws

    /** The i-th draw of a seed, by numbers without an end. */
    private static int draw(long seed, int n, int i) {
        BigInteger x = BigInteger.valueOf(seed);
        for (int k = 0; k <= i; k++) {
            x = x.multiply(BigInteger.valueOf(1103515245L)).add(BigInteger.valueOf(12345)).mod(BigInteger.ONE.shiftLeft(31));
        }
        return x.shiftRight(16).mod(BigInteger.valueOf(2L * n + 1)).intValue() - n;
    }

    private static void draws() {
        says(TERMS, "DRAWN: ahead of all a draw for each SECOND that is 0 or a whole number of times 30: so much more along (below 0: against), "
            + "from it on for 30 SECONDS, besides winds told.");
        for (int seed : new int[] {0, 1, 2, 12345, 1999999999, 2000000000}) {
            for (int s : new int[] {0, 29, 30, 59, 60, 89, 90, 239, 240}) {
                for (int n : new int[] {0, 1, 19, 20}) {
                    BellBay x = of("bay churches 2 seconds 300;ear 1 of 0 takes 30 along;wind at 0 along 3;starts 0 at " + s + " hour 1;");
                    int takes = Math.max(1, 27 - draw(seed, n, s / 30));
                    due("drawn(" + seed + ", " + n + ", 1) of " + s, x.drawn(seed, n, 1), s + takes);
                }
            }
        }
        BellBay late = of("bay churches 2 seconds 300;ear 1 of 0 takes 21 against;starts 0 at 270 hour 1;");
        for (int seed = 0; seed < 40; seed++) {
            int at = 270 + Math.max(1, 21 + draw(seed, 20, 9));
            due("drawn(" + seed + ", 20, 1) in the tenth draw", late.drawn(seed, 20, 1), at > 299 ? 270 : at);
        }
        BellBay across = of("bay churches 2 seconds 300;ear 1 of 0 takes 21 across;starts 0 at 0 hour 1;");
        for (int seed = 0; seed < 5; seed++) {
            due("across", across.drawn(seed, 20, 1), 21);
        }
    }

    // ---------------------------------------------------------------- 1 to 5: the tape

    private static void e1() {
        says(1, "No BAY.");
        BellBay x = nothing();
        for (int what = 0; what <= 8; what++) {
            due("count(" + what + ")", x.count(what), 0);
        }
        due("strikes()", x.strikes(), NO);
        due("bay() of an empty tape", x.bay(), 0);
        for (int k = 0; k < 3; k++) {
            due("back(" + k + ")", x.back(k), -6);
        }
        for (int slot = 0; slot < 4; slot++) {
            due("write(" + slot + ", 0, 0)", x.write(slot, 0, 0), -6);
        }
        due("NONE", BellBay.NONE, -1);
    }

    private static int[] blanksBut(int place, int value) {
        byte[] bytes = new byte[20];
        Arrays.fill(bytes, (byte) 32);
        if (place >= 0) {
            bytes[place] = (byte) value;
        }
        int[] five = new int[5];
        ByteBuffer.wrap(bytes).asIntBuffer().get(five);
        return five;
    }

    private static int feed(BellBay x, int[] five) {
        return x.feed(five[0], five[1], five[2], five[3], five[4]);
    }

    private static void e2() {
        says(2, "Twenty bytes come behind the TAPE, four of each number, the highest first: how many it has;");
        for (int value : new int[] {0, '?', 127, 128, 255}) {
            for (int place = 0; place < 20; place++) {
                BellBay x = nothing();
                due("feed", feed(x, blanksBut(-1, 0)), 20);
                due("feed", feed(x, blanksBut(place, value)), 40);
                due("bay()", x.bay(), -4);
                due("fault(1) of byte " + value, x.fault(1), 20 + place);
            }
        }
        for (int v : new int[] {MIN, MAX, -1, 0}) {
            due("feed of " + v, nothing().feed(v, v, v, v, v), 20);
        }
        says(2, "NONE, and none come, if it would have more than 2,000.");
        for (int length : new int[] {1981, 1990, 1999, 2000}) {
            BellBay x = nothing();
            for (int i = 1; i <= 100; i++) {
                due("feed", feed(x, blanksBut(-1, 0)), 20 * i);
            }
            due("end", x.end(length), length);
            due("feed behind " + length, feed(x, blanksBut(0, '?')), NONE);
            due("feed behind " + length, x.feed(-1, -1, -1, -1, -1), NONE);
            due("count(5)", x.count(5), length);
            due("end(" + length + " and 1)", x.end(length + 1), NONE);
            due("bay() of blanks", x.bay(), 0);
        }
        BellBay x = nothing();
        for (int i = 1; i <= 99; i++) {
            feed(x, blanksBut(-1, 0));
        }
        due("end(1979)", x.end(1979), 1979);
        due("feed behind 1,979", feed(x, blanksBut(-1, 0)), 1999);
        due("end(1980)", x.end(1980), 1980);
        due("feed behind 1,980", feed(x, blanksBut(19, '?')), 2000);
        due("bay()", x.bay(), -4);
        due("fault(1)", x.fault(1), 1999);
    }

    private static void e3() {
        says(3, "The TAPE has its first n bytes alone: n;");
        BellBay x = nothing();
        due("end(0) of an empty one", x.end(0), 0);
        feed(x, "bay churches 1 seconds 9;?");
        due("end(26)", x.end(26), 26);
        due("end(25)", x.end(25), 25);
        due("end(26)", x.end(26), NONE);
        feed(x, "starts 0 at 0 hour 1;");
        due("count(5)", x.count(5), 46);
        due("bay()", x.bay(), 2);
        says(3, "NONE, and nothing happens, if it has not so many, or n is below 0.");
        int length = busy().count(5);
        bounds("end", (y, n) -> y.end(n), 0, length, NONE);
        bounds(NEW_ONE, "end", (y, n) -> y.end(n), 0, 0, NONE);
        BellBay full = nothing();
        feed(full, " ".repeat(2000));
        due("end(2001)", full.end(2001), NONE);
        due("end(2000)", full.end(2000), 2000);
        due("end(1999)", full.end(1999), 1999);
        due("end(2000)", full.end(2000), NONE);
    }

    private static void e4() {
        says(4, "The TAPE (empty then) is the BAY (in place of another; nobody is muffled, no EAR cut): how many LINES (0: there is none then).");
        due("a tape that is full", most().length(), 2000);
        BellBay x = of(most());
        int[] want = {9, 300, 12, 4, 50, 0, 0, 0, 0};
        for (int what = 0; what < want.length; what++) {
            due("count(" + what + ")", x.count(what), want[what]);
        }
        for (int c = 0; c < 9; c++) {
            x.muffle(c, 1);
        }
        for (int e = 0; e < 12; e++) {
            x.cut(e, 1);
        }
        due("bay() of nothing", x.bay(), 0);
        for (int what = 0; what < want.length; what++) {
            due("count(" + what + ") of none", x.count(what), 0);
        }
        due("strikes() of none", x.strikes(), NO);
        due("church(0, 0) of none", x.church(0, 0), NO);
        due("ear(0, 0) of none", x.ear(0, 0), NO);
        due("shift(0, 0) of none", x.shift(0, 0), NO);
        BellBay y = of("bay churches 2 seconds 9;church late 9 rests 9;ear 0 of 1 takes 1 along;wind at 0 along 5;fog on 0 from 0 to 8;"
            + "deaf 0 from 0 to 8;funeral at 0 from 0 to 8;starts 1 at 0 hour 5;");
        y.muffle(1, 1);
        y.cut(0, 1);
        feed(y, "bay churches 2 seconds 9;ear 0 of 1 takes 3 along;starts 1 at 1 hour 6;");
        due("bay() in place of another", y.bay(), 3);
        due("count(6)", y.count(6), 0);
        due("count(7)", y.count(7), 0);
        due("nothing is left of rest and lateness", y.church(0, 0) + y.church(0, 1) + y.church(0, 2), 0);
        due("nothing is left of winds", y.takes(0, 0), 3);
        due("nothing is left of fogs, deaf ones, funerals", y.hour(0, 4), 6);
        due("bay() of the smallest", of("bay churches 1 seconds 1;").count(4), 1);
        says(4, "-4: a FAULT (all stays).");
        BellBay z = of(BUSY);
        z.keep(1);
        z.muffle(0, 1);
        z.cut(1, 1);
        z.tune(2, 60);
        z.shift(1, 39);
        lay(z, 3, 3, 39, 1, 8);
        List<Long> before = new ArrayList<>();
        see(before, z);
        for (String text : new String[] {"?", "bay churches 9 seconds 9;starts 0 at 0 hour 1", "bay churches 1 seconds 301;", "bay"}) {
            feed(z, text);
            due("bay() of " + text, z.bay(), -4);
            List<Long> after = new ArrayList<>();
            see(after, z);
            asked++;
            if (!before.equals(after)) {
                complain("bay() of " + text, "left something changed");
            }
        }
        due("a slot stays", z.odd(3), NONE);
        due("a start stays", z.shift(1, 39), 39);
        due("an image stays", z.back(1), 0);
        due("an image stays", z.count(6), 0);
        BellBay none = nothing();
        feed(none, "bay churches 1 seconds 9;?");
        due("bay() with a fault, ahead of any", none.bay(), -4);
        due("still none", none.strikes(), NO);
    }

    private static void e5() {
        says(5, "Of the latest bay(), what 0: its FAULT, 0 without, 1: its place (NONE without). NONE for another what, and ahead of any (what 1).");
        due("fault(0) ahead of any", nothing().fault(0), 0);
        due("fault(1) ahead of any", nothing().fault(1), NONE);
        bounds("fault", (x, what) -> x.fault(what), 0, 1, NONE);
        stays("fault(2) ahead of any", NEW_ONE, x -> x.fault(2), NONE);
        BellBay x = nothing();
        String[] texts = {"?", "bay churches 1 seconds 9;", "bay churches 0 seconds 9;", "", "bay churches 1 seconds 9;church eager rests 0;church", " "};
        int[] faults = {1, 0, 2, 0, 3, 0};
        int[] places = {0, NONE, 13, NONE, 46, NONE};
        for (int i = 0; i < texts.length; i++) {
            feed(x, texts[i]);
            x.bay();
            due("fault(0) of " + texts[i], x.fault(0), faults[i]);
            due("fault(1) of " + texts[i], x.fault(1), places[i]);
        }
        BellBay y = busy();
        y.back(0);
        due("back is no bay()", y.fault(0), 2);
        due("back is no bay()", y.fault(1), 13);
        faulty("", "end of a full tape", 1, 2000);
    }

    private static void faulty(String ahead, String why, int kind, int place) {
        BellBay x = nothing();
        feed(x, ahead + "bay churches 1 seconds " + " ".repeat(2000 - 23 - ahead.length()));
        due("bay(): " + why, x.bay(), -4);
        due("fault(0): " + why, x.fault(0), kind);
        due("fault(1): " + why, x.fault(1), place);
    }

    // ---------------------------------------------------------------- 6 to 19: what is told, strikes as they are

    private static void e6() {
        says(6, "what 0: KIND (0 eager, 1 proud, 2 late), 1: how late (0 of others), 2: rests, 3: 1 if it is muffled, else 0.");
        BellBay x = of("bay churches 4 seconds 9;church late 60 rests 99;church late 1 rests 0;church proud rests 99;");
        x.muffle(3, 1);
        int[][] want = {{2, 60, 99, 0}, {2, 1, 0, 0}, {1, 0, 99, 0}, {0, 0, 0, 1}};
        for (int c = 0; c < 4; c++) {
            for (int what = 0; what < 4; what++) {
                due("church(" + c + ", " + what + ")", x.church(c, what), want[c][what]);
            }
        }
        says(6, "-2: there are none such.");
        churches("church(v, 0)", (y, v) -> y.church(v, 0), NO);
        bounds("church(0, v)", (y, v) -> y.church(0, v), 0, 3, NO);
        noBay("church(0, 0)", y -> y.church(0, 0), NO);
        due("church(8, 0) of nine", of(most()).church(8, 0), 2);
        due("church(9, 0) of nine", of(most()).church(9, 0), NO);
        due("church(9, 3) of nine", of(most()).church(9, 3), NO);
    }

    private static void e7() {
        says(7, "what 0: which CHURCH hears, 1: which one, 2: takes, 3: WAY (0 across, 1 along, 2 against), 4: 1 if it is cut, else 0.");
        BellBay x = of("bay churches 9 seconds 9;ear 8 of 0 takes 60 across;ear 0 of 8 takes 1 along;ear 3 of 4 takes 2 against;");
        x.cut(2, 1);
        int[][] want = {{8, 0, 60, 0, 0}, {0, 8, 1, 1, 0}, {3, 4, 2, 2, 1}};
        for (int e = 0; e < 3; e++) {
            for (int what = 0; what < 5; what++) {
                due("ear(" + e + ", " + what + ")", x.ear(e, what), want[e][what]);
            }
        }
        says(7, "-2: there are none such.");
        ears("ear(v, 0)", (y, v) -> y.ear(v, 0), NO);
        bounds("ear(0, v)", (y, v) -> y.ear(0, v), 0, 4, NO);
        noBay("ear(0, 0)", y -> y.ear(0, 0), NO);
        due("ear(0, 0) without ears", of("bay churches 9 seconds 9;").ear(0, 0), NO);
        due("ear(11, 1) of twelve", of(most()).ear(11, 1), 7);
        due("ear(12, 4) of twelve", of(most()).ear(12, 4), NO);
    }

    private static void e8() {
        says(8, "-2: there are none such.");
        ears("takes(v, 0)", (y, v) -> y.takes(v, 0), NO);
        seconds("takes(0, v)", (y, v) -> y.takes(0, v), NO);
        noBay("takes(0, 0)", y -> y.takes(0, 0), NO);
        due("takes(11, 299)", of(most()).takes(11, 299), 21);
        due("takes(11, 300)", of(most()).takes(11, 300), NO);
        due("takes(12, 299)", of(most()).takes(12, 299), NO);
        BellBay x = busy();
        due("takes(2, 5) of one that is cut", x.takes(2, 5), 7);
        x.tune(0, 60);
        due("takes(0, 5) tuned", x.takes(0, 5), 58);
        x.tune(0, 1);
        due("takes(0, 5) tuned, 1 at least", x.takes(0, 5), 1);
    }

    private static void e9() {
        says(9, "-2: there is no BAY.");
        noBay("strikes()", BellBay::strikes, NO);
        due("strikes() without a start", of("bay churches 9 seconds 300;").strikes(), 0);
        due("strikes() of the smallest", of("bay churches 1 seconds 1;starts 0 at 0 hour 1;").strikes(), 1);
        due("strikes() of most", turns(300).strikes(), 300);
    }

    private static void e10() {
        says(10, "what 0: SECOND, 1: CHURCH, 2: HOUR, 3: by which STRIKE (NONE: a start), 4: by which EAR (NONE).");
        BellBay x = turns(300);
        due("strike(0, 3)", x.strike(0, 3), NONE);
        due("strike(0, 4)", x.strike(0, 4), NONE);
        due("strike(1, 3)", x.strike(1, 3), 0);
        due("strike(1, 4)", x.strike(1, 4), 1);
        due("strike(299, 0)", x.strike(299, 0), 299);
        due("strike(299, 3)", x.strike(299, 3), 298);
        says(10, "NONE: there is none such; -2: there is no such what, no BAY.");
        for (int what = 0; what < 5; what++) {
            int it = what;
            for (int i : new int[] {-1, 300, MIN, MAX, 301, -300}) {
                due("strike(" + i + ", " + what + ")", x.strike(i, what), NONE);
            }
            due("strike(0, " + what + ") of nobody", of("bay churches 1 seconds 9;").strike(0, what), NONE);
            if (what < 3) {
                bounds("strike(v, " + what + ")", (y, v) -> y.strike(v, it), 0, busy().strikes() - 1, NONE);
            }
        }
        bounds("strike(0, v)", (y, v) -> y.strike(0, v), 0, 4, NO);
        bounds("strike(999, v), no such what", (y, v) -> y.strike(999, v), 0, 4, NO);
        noBay("strike(0, 0)", y -> y.strike(0, 0), NO);
        noBay("strike(-1, 0)", y -> y.strike(-1, 0), NO);
    }

    private static void e11() {
        says(11, "what 0: in fog, 1: on the deaf, 2: at rest, 3: to the proud, 4: to the muffled, 5: behind the last SECOND, 6: HOURS above 99, "
            + "7: to others of that SECOND (a greater HOUR, or as great and told ahead).");
        BellBay x = of("bay churches 2 seconds 9;ear 0 of 1 takes 1 across;starts 0 at 8 hour 5;starts 0 at 8 hour 5;starts 0 at 8 hour 6;starts 0 at 8 hour 4;");
        due("a greater one, and as great", x.lost(7), 3);
        due("the greatest is struck", x.hour(0, 8), 6);
        x.muffle(0, 1);
        due("others of the muffled", x.lost(7), 3);
        due("one to the muffled", x.lost(4), 1);
        due("none goes out", x.lost(5), 0);
        says(11, "-2: there is no such what, no BAY.");
        bounds("lost", (y, v) -> y.lost(v), 0, 7, NO);
        noBay("lost(0)", y -> y.lost(0), NO);
    }

    private static void e12() {
        says(12, "The HOUR that a CHURCH struck last by the end of a SECOND; 0: none. -2: there are none such.");
        BellBay x = of("bay churches 9 seconds 300;starts 8 at 0 hour 99;starts 7 at 299 hour 1;starts 8 at 298 hour 1;");
        int[][] want = {{8, 0, 99}, {8, 297, 99}, {8, 298, 1}, {8, 299, 1}, {7, 0, 0}, {7, 298, 0}, {7, 299, 1}, {0, 299, 0}, {8, 300, NO}, {9, 299, NO}};
        for (int[] one : want) {
            due("hour(" + one[0] + ", " + one[1] + ")", x.hour(one[0], one[1]), one[2]);
        }
        churches("hour(v, 5)", (y, v) -> y.hour(v, 5), NO);
        seconds("hour(0, v)", (y, v) -> y.hour(0, v), NO);
        noBay("hour(0, 0)", y -> y.hour(0, 0), NO);
    }

    private static void e13() {
        says(13, "How many STRIKES a CHURCH made. -2: there is none such.");
        churches("many", (y, v) -> y.many(v), NO);
        noBay("many(0)", y -> y.many(0), NO);
        due("many(0) of none", of("bay churches 1 seconds 9;").many(0), 0);
        due("many(8)", of(most()).many(8), 1);
        due("many(0) of one", of("bay churches 1 seconds 1;starts 0 at 0 hour 1;").many(0), 1);
        due("many(9)", of(most()).many(9), NO);
        due("many(1) of most", turns(300).many(1), 150);
    }

    private static void e14() {
        says(14, "The SECOND of its first STRIKE (what 0), of its last (1), from the first to the second (2: how many SECONDS). "
            + "NONE: there are not so many; -2: there are none such.");
        BellBay x = of("bay churches 3 seconds 300;starts 0 at 299 hour 1;starts 1 at 0 hour 1;starts 1 at 1 hour 1;starts 1 at 299 hour 1;");
        int[][] want = {{299, 299, NONE}, {0, 299, 1}, {NONE, NONE, NONE}};
        for (int c = 0; c < 3; c++) {
            for (int what = 0; what < 3; what++) {
                due("when(" + c + ", " + what + ")", x.when(c, what), want[c][what]);
            }
        }
        churches("when(v, 0)", (y, v) -> y.when(v, 0), NO);
        bounds("when(0, v)", (y, v) -> y.when(0, v), 0, 2, NO);
        due("when(2, 3), no such what", x.when(2, 3), NO);
        noBay("when(0, 0)", y -> y.when(0, 0), NO);
    }

    private static void e15() {
        says(15, "LED: the i-th STRIKE back from the first one of a CHURCH (0: that, 1: by which it came, and on to a start). "
            + "NONE: there is none such; -2: there is none such CHURCH.");
        BellBay x = of("bay churches 9 seconds 300;ear 1 of 0 takes 1 across;ear 2 of 1 takes 1 across;ear 3 of 2 takes 1 across;ear 4 of 3 takes 1 across;"
            + "ear 5 of 4 takes 1 across;ear 6 of 5 takes 1 across;ear 7 of 6 takes 1 across;starts 0 at 0 hour 1;");
        for (int i = 0; i <= 7; i++) {
            due("led(7, " + i + ")", x.led(7, i), 7 - i);
        }
        for (int i : new int[] {8, 9, 300, MAX, -1, MIN}) {
            due("led(7, " + i + ")", x.led(7, i), NONE);
        }
        due("led(8, 0) of one that never strikes", x.led(8, 0), NONE);
        due("led(8, 1) of one that never strikes", x.led(8, 1), NONE);
        due("led(0, 0) of a start", x.led(0, 0), 0);
        due("led(0, 1) of a start", x.led(0, 1), NONE);
        due("led(0, 0), the first of many", turns(300).led(0, 0), 0);
        due("led(1, 1), the first of many", turns(300).led(1, 1), 0);
        churches("led(v, 0)", (y, v) -> y.led(v, 0), NO);
        churches("led(v, -1)", (y, v) -> y.led(v, -1), NO);
        noBay("led(0, 0)", y -> y.led(0, 0), NO);
    }

    private static void e16() {
        says(16, "NONE: none. -2: there is none such.");
        BellBay x = of("bay churches 2 seconds 300;starts 0 at 0 hour 5;starts 1 at 299 hour 5;");
        due("agree(0)", x.agree(0), 299);
        due("agree(299)", x.agree(299), 299);
        x.shift(0, 299);
        due("agree(0)", x.agree(0), 299);
        x.muffle(1, 1);
        due("agree(299)", x.agree(299), NONE);
        due("agree(0) of nobody", of("bay churches 1 seconds 1;").agree(0), NONE);
        due("agree(0) of one", of("bay churches 1 seconds 1;starts 0 at 0 hour 1;").agree(0), 0);
        due("agree(2) behind the time", of("bay churches 2 seconds 5;starts 0 at 0 hour 1;starts 1 at 1 hour 1;starts 1 at 2 hour 2;").agree(2), NONE);
        seconds("agree", (y, v) -> y.agree(v), NO);
        noBay("agree(0)", y -> y.agree(0), NO);
    }

    private static void e17() {
        says(17, "of an HOUR (1 .. 99), what 0: the SECOND in which it is struck first, 1: by which CHURCH, 2: the SECOND in which last, 3: how often. "
            + "NONE: never (what 3: 0); -2: there are none such, no BAY.");
        BellBay x = of("bay churches 9 seconds 300;starts 8 at 0 hour 99;starts 7 at 299 hour 99;starts 6 at 299 hour 1;");
        int[][] want = {{99, 0, 8, 299, 2}, {1, 299, 6, 299, 1}, {2, NONE, NONE, NONE, 0}, {98, NONE, NONE, NONE, 0}};
        for (int[] one : want) {
            for (int what = 0; what < 4; what++) {
                due("noon(" + one[0] + ", " + what + ")", x.noon(one[0], what), one[1 + what]);
            }
        }
        due("noon(5, 1) of two at once", of("bay churches 9 seconds 9;starts 8 at 1 hour 5;starts 3 at 1 hour 5;").noon(5, 1), 3);
        for (int what = 0; what < 4; what++) {
            int it = what;
            hours("noon(v, " + what + ")", (y, v) -> y.noon(v, it), NO);
            noBay("noon(1, " + what + ")", y -> y.noon(1, it), NO);
        }
        bounds("noon(3, v)", (y, v) -> y.noon(3, v), 0, 3, NO);
        bounds("noon(99, v)", (y, v) -> y.noon(99, v), 0, 3, NO);
    }

    private static void e18() {
        says(18, "How many HOURS a CHURCH is ahead of another one (below 0: behind) at the end of a SECOND. -2,000,000: there are none such, one twice.");
        BellBay x = of("bay churches 9 seconds 300;starts 8 at 0 hour 99;starts 0 at 299 hour 1;");
        int[][] want = {{8, 0, 0, 99}, {0, 8, 0, -99}, {8, 0, 298, 99}, {8, 0, 299, 98}, {0, 8, 299, -98}, {1, 2, 299, 0}, {0, 1, 299, 1}, {8, 8, 0, LONE},
            {1, 1, 0, LONE}, {9, 9, 0, LONE}, {-1, -1, 0, LONE}};
        for (int[] one : want) {
            due("ship(" + one[0] + ", " + one[1] + ", " + one[2] + ")", x.ship(one[0], one[1], one[2]), one[3]);
        }
        churches("ship(v, 1, 5)", (y, v) -> y.ship(v, 1, 5), LONE);
        churches("ship(1, v, 5)", (y, v) -> y.ship(1, v, 5), LONE);
        seconds("ship(0, 1, v)", (y, v) -> y.ship(0, 1, v), LONE);
        noBay("ship(0, 1, 0)", y -> y.ship(0, 1, 0), LONE);
    }

    private static void e19() {
        says(19, "The last SECOND with a STRIKE; NONE: there is none. -2: there is no BAY.");
        due("quiet() of nobody", of("bay churches 9 seconds 300;").quiet(), NONE);
        due("quiet() at 0", of("bay churches 9 seconds 300;starts 0 at 0 hour 1;").quiet(), 0);
        due("quiet() at 299", turns(300).quiet(), 299);
        BellBay x = of("bay churches 1 seconds 9;starts 0 at 0 hour 1;");
        x.muffle(0, 1);
        due("quiet() of one that is muffled", x.quiet(), NONE);
        noBay("quiet()", BellBay::quiet, NO);
    }

    // ---------------------------------------------------------------- 20 to 29: muffling, cutting, pans, winds

    private static void e20() {
        says(20, "A CHURCH is muffled (1) or not (0) from now on: whether it was. -2: there are none such.");
        BellBay x = of(most());
        for (int c = 0; c < 9; c++) {
            due("muffle(" + c + ", 1)", x.muffle(c, 1), 0);
            due("count(6)", x.count(6), (2 << c) - 1);
            due("muffle(" + c + ", 1)", x.muffle(c, 1), 1);
        }
        due("strikes() of all muffled", x.strikes(), 0);
        BellBay one = of("bay churches 2 seconds 9;ear 1 of 0 takes 1 across;starts 0 at 0 hour 1;");
        due("strikes() ahead of muffling", one.strikes(), 2);
        one.muffle(1, 1);
        due("strikes() from now on", one.strikes(), 1);
        one.muffle(1, 0);
        due("strikes() from now on", one.strikes(), 2);
        due("muffle(0, 0)", x.muffle(0, 0), 1);
        due("muffle(0, 0)", x.muffle(0, 0), 0);
        due("count(6)", x.count(6), 510);
        due("muffle(9, 1)", x.muffle(9, 1), NO);
        churches("muffle(v, 1)", (y, v) -> y.muffle(v, 1), NO);
        churches("muffle(v, 0)", (y, v) -> y.muffle(v, 0), NO);
        bounds("muffle(0, v)", (y, v) -> y.muffle(0, v), 0, 1, NO);
        noBay("muffle(0, 1)", y -> y.muffle(0, 1), NO);
    }

    private static void e21() {
        says(21, "An EAR is cut (1) or not (0) from now on: whether it was. -2: there are none such.");
        BellBay x = of(most());
        for (int e = 0; e < 12; e++) {
            due("cut(" + e + ", 1)", x.cut(e, 1), 0);
            due("count(7)", x.count(7), (2 << e) - 1);
            due("cut(" + e + ", 1)", x.cut(e, 1), 1);
        }
        due("strikes() of starts alone", x.strikes(), 4);
        BellBay one = of("bay churches 2 seconds 9;ear 1 of 0 takes 1 across;starts 0 at 0 hour 1;");
        due("strikes() ahead of cutting", one.strikes(), 2);
        one.cut(0, 1);
        due("strikes() from now on", one.strikes(), 1);
        one.cut(0, 0);
        due("strikes() from now on", one.strikes(), 2);
        due("cut(11, 0)", x.cut(11, 0), 1);
        due("cut(11, 0)", x.cut(11, 0), 0);
        due("count(7)", x.count(7), 2047);
        due("cut(12, 1)", x.cut(12, 1), NO);
        ears("cut(v, 1)", (y, v) -> y.cut(v, 1), NO);
        ears("cut(v, 0)", (y, v) -> y.cut(v, 0), NO);
        bounds("cut(0, v)", (y, v) -> y.cut(0, v), 0, 1, NO);
        noBay("cut(0, 1)", y -> y.cut(0, 1), NO);
    }

    private static void e22() {
        says(22, "how many (what 0), which (what 1: as bits, the least set of these). NONE: no set of others does; -2: there are none such.");
        BellBay x = of("bay churches 3 seconds 300;ear 0 of 1 takes 5 across;starts 1 at 0 hour 1;");
        int[][] want = {{0, 1, 2}, {1, 1, 1}, {5, 1, 1}, {6, 0, 0}, {299, 0, 0}};
        for (int[] one : want) {
            due("night(" + one[0] + ", 0)", x.night(one[0], 0), one[1]);
            due("night(" + one[0] + ", 1)", x.night(one[0], 1), one[2]);
        }
        x.muffle(0, 1);
        due("night(1, 0), church 0 being muffled", x.night(1, 0), 0);
        due("night(1, 1), church 0 being muffled", x.night(1, 1), 0);
        due("night(0, 1), church 0 being muffled", x.night(0, 1), 2);
        x.muffle(1, 1);
        x.muffle(2, 1);
        due("night(0, 0), all being muffled", x.night(0, 0), 0);
        BellBay y = of("bay churches 9 seconds 300;starts 8 at 299 hour 1;starts 7 at 299 hour 1;starts 0 at 299 hour 1;starts 4 at 298 hour 1;");
        due("night(299, 0)", y.night(299, 0), 3);
        due("night(299, 1)", y.night(299, 1), 256 + 128 + 1);
        due("night(298, 1)", y.night(298, 1), 256 + 128 + 16 + 1);
        due("night(0, 0) of nobody", of("bay churches 9 seconds 300;").night(0, 0), 0);
        seconds("night(v, 0)", (z, v) -> z.night(v, 0), NO);
        seconds("night(v, 1)", (z, v) -> z.night(v, 1), NO);
        bounds("night(0, v)", (z, v) -> z.night(0, v), 0, 1, NO);
        noBay("night(0, 0)", z -> z.night(0, 0), NO);
        stays("night(0, 1) muffles nobody", BUSY_ONE, z -> z.night(0, 1) * 0, 0);
    }

    /** Twelve ears by each of which alone church 1 hears church 0. */
    private static BellBay twelve() {
        return of("bay churches 2 seconds 300;" + "ear 1 of 0 takes 1 across;".repeat(12) + "starts 0 at 0 hour 1;");
    }

    private static void e23() {
        says(23, "how many (what 0), which (what 1: as bits, the least set of these). NONE: no set of them does; -2: there are none such.");
        BellBay x = twelve();
        due("spare(1, 0)", x.spare(1, 0), 12);
        due("spare(1, 1)", x.spare(1, 1), 4095);
        due("spare(0, 0) of a start", x.spare(0, 0), NONE);
        due("spare(0, 1) of a start", x.spare(0, 1), NONE);
        for (int e = 0; e < 11; e++) {
            x.cut(e, 1);
        }
        due("spare(1, 1), one being left", x.spare(1, 1), 2048);
        x.cut(11, 1);
        due("spare(1, 0), none being left", x.spare(1, 0), 0);
        due("spare(1, 1), none being left", x.spare(1, 1), 0);
        BellBay chain = of("bay churches 3 seconds 30;ear 2 of 1 takes 1 across;ear 1 of 0 takes 1 across;starts 0 at 0 hour 1;");
        due("spare(2, 1), one of two", chain.spare(2, 1), 1);
        due("spare(0, 0) without ears", of("bay churches 1 seconds 9;").spare(0, 0), 0);
        due("spare(0, 0) of a start without ears", of("bay churches 1 seconds 9;starts 0 at 8 hour 1;").spare(0, 0), NONE);
        churches("spare(v, 0)", (y, v) -> y.spare(v, 0), NO);
        churches("spare(v, 1)", (y, v) -> y.spare(v, 1), NO);
        bounds("spare(2, v)", (y, v) -> y.spare(2, v), 0, 1, NO);
        noBay("spare(0, 0)", y -> y.spare(0, 0), NO);
        stays("spare(2, 1) cuts nothing", BUSY_ONE, y -> y.spare(2, 1) * 0, 0);
    }

    private static void e24() {
        says(24, "NONE: it does not; -2: there is none such.");
        BellBay x = twelve();
        due("needs(1) of twelve", x.needs(1), 0);
        due("needs(0) of a start", x.needs(0), 0);
        for (int e = 0; e < 11; e++) {
            x.cut(e, 1);
        }
        due("needs(1) of the last", x.needs(1), 2048);
        x.cut(11, 1);
        due("needs(1) of none", x.needs(1), NONE);
        BellBay chain = of("bay churches 9 seconds 30;ear 2 of 1 takes 1 across;ear 1 of 0 takes 1 across;ear 0 of 2 takes 1 across;starts 0 at 0 hour 1;");
        due("needs(2) of two", chain.needs(2), 3);
        due("needs(1) of one", chain.needs(1), 2);
        due("needs(0) of nobody", of("bay churches 1 seconds 9;").needs(0), NONE);
        churches("needs", (y, v) -> y.needs(v), NO);
        noBay("needs(0)", y -> y.needs(0), NO);
    }

    private static void e25() {
        says(25, "By how many fewer STRIKES there are without an EAR (below 0: more). -2,000,000: there is none such.");
        due("harm(1): one of 300 is left", turns(300).harm(1), 299);
        due("harm(0): two of 300 are left", turns(300).harm(0), 298);
        due("harm(0) of one of many", twelve().harm(0), 0);
        due("harm(11) of one of many", twelve().harm(11), 0);
        due("harm(12)", twelve().harm(12), LONE);
        BellBay chain = of("bay churches 3 seconds 9;ear 1 of 0 takes 1 across;ear 2 of 1 takes 1 across;ear 2 of 1 takes 3 across;starts 0 at 0 hour 1;");
        due("harm(1), one way being left", chain.harm(1), 1);
        chain.cut(2, 1);
        due("harm(1), the other being cut", chain.harm(1), 1);
        due("harm(0), the other being cut", chain.harm(0), 2);
        due("harm(2), itself being cut", chain.harm(2), 0);
        due("harm(0), more without", of("bay churches 2 seconds 30;church eager rests 0;church proud rests 0;ear 1 of 0 takes 3 across;starts 0 at 0 hour 9;"
            + "starts 1 at 7 hour 5;starts 1 at 8 hour 6;starts 1 at 9 hour 7;").harm(0), -2);
        ears("harm", (y, v) -> y.harm(v), LONE);
        noBay("harm(0)", y -> y.harm(0), LONE);
    }

    private static void e26() {
        says(26, "with a start more, of a CHURCH in a SECOND with an HOUR (1 .. 99), told last (below 0: fewer). -2,000,000: there are none such.");
        BellBay x = of("bay churches 9 seconds 300;starts 0 at 0 hour 9;starts 0 at 1 hour 9;starts 0 at 2 hour 9;starts 0 at 299 hour 9;");
        due("pan(8, 299, 99): a fifth start", x.pan(8, 299, 99), 1);
        due("pan(8, 0, 1): a fifth start", x.pan(8, 0, 1), 1);
        due("pan(0, 299, 99) at another one", x.pan(0, 299, 99), 0);
        due("count(3)", x.count(3), 4);
        due("strikes()", x.strikes(), 4);
        due("pan at rest", of("bay churches 1 seconds 300;church eager rests 99;starts 0 at 99 hour 1;starts 0 at 199 hour 1;").pan(0, 100, 1), 0);
        due("pan, fewer", of("bay churches 1 seconds 300;church proud rests 0;starts 0 at 1 hour 1;starts 0 at 2 hour 2;starts 0 at 3 hour 3;").pan(0, 0, 99), -2);
        due("pan, as most there are", turns(300).pan(0, 0, 1), 0);
        due("pan of the smallest", of("bay churches 1 seconds 1;").pan(0, 0, 1), 1);
        churches("pan(v, 0, 1)", (y, v) -> y.pan(v, 0, 1), LONE);
        seconds("pan(0, v, 1)", (y, v) -> y.pan(0, v, 1), LONE);
        hours("pan(0, 0, v)", (y, v) -> y.pan(0, 0, v), LONE);
        noBay("pan(0, 0, 1)", y -> y.pan(0, 0, 1), LONE);
        BellBay last = of("bay churches 2 seconds 9;church eager rests 0;church proud rests 0;ear 1 of 0 takes 1 across;starts 0 at 5 hour 5;");
        due("told last, ahead of what is heard: the same in number", last.pan(1, 6, 5), 0);
    }

    private static void e27() {
        says(27, "The CHURCH by which that is most, the first of several. -2: there are none such.");
        due("boy, church 8", of("bay churches 9 seconds 300;ear 7 of 8 takes 60 across;").boy(239, 99), 8);
        due("boy, none better: the first", of("bay churches 9 seconds 300;ear 7 of 8 takes 60 across;").boy(240, 99), 0);
        due("boy, all fewer", of("bay churches 1 seconds 9;church proud rests 0;starts 0 at 1 hour 1;starts 0 at 2 hour 2;").boy(0, 99), 0);
        due("boy of the smallest", of("bay churches 1 seconds 1;").boy(0, 1), 0);
        seconds("boy(v, 1)", (y, v) -> y.boy(v, 1), NO);
        hours("boy(0, v)", (y, v) -> y.boy(0, v), NO);
        noBay("boy(0, 1)", y -> y.boy(0, 1), NO);
    }

    private static final Supplier<BellBay> FAR = () -> of("bay churches 2 seconds 100;ear 1 of 0 takes 40 along;starts 0 at 0 hour 1;");

    private static void e28() {
        says(28, "how many SECONDS sooner the last CHURCH makes its first STRIKE (below 0: later), if all winds were n (-20 .. 20) more along. "
            + "-2,000,000: some CHURCH makes none, as it is or so, there are none such, no BAY.");
        for (int n : new int[] {-20, -19, -1, 0, 1, 19, 20}) {
            due("gain(" + n + ")", FAR.get().gain(n), n);
        }
        bounds(FAR, "gain", (y, n) -> y.gain(n), -20, 20, LONE);
        BellBay near = of("bay churches 2 seconds 60;ear 1 of 0 takes 40 along;starts 0 at 0 hour 1;");
        due("gain(-19), in the last second", near.gain(-19), -19);
        due("gain(-20), behind it", near.gain(-20), LONE);
        BellBay never = of("bay churches 2 seconds 40;ear 1 of 0 takes 40 along;starts 0 at 0 hour 1;");
        due("gain(20), as it is none", never.gain(20), LONE);
        due("gain(0), as it is none", never.gain(0), LONE);
        BellBay least = of("bay churches 2 seconds 40;ear 1 of 0 takes 3 along;wind at 0 along 1;starts 0 at 0 hour 1;");
        due("gain(1): 2 becomes 1", least.gain(1), 1);
        due("gain(2): 1 at least", least.gain(2), 1);
        due("gain(20): 1 at least", least.gain(20), 1);
        due("gain(20) of one", of("bay churches 1 seconds 1;starts 0 at 0 hour 1;").gain(20), 0);
        noBay("gain(0)", y -> y.gain(0), LONE);
    }

    private static void e29() {
        says(29, "STRIKES that an EAR LOSES in fog (what 0), that come to be DUE by it (1), that went out by it at all (2). -2: there are none such.");
        BellBay x = fourIn("fog on 0 from 7 to 7;deaf 1 from 8 to 8;", 5);
        int[] want = {1, 2, 4};
        for (int what = 0; what < 3; what++) {
            due("passes(0, " + what + ")", x.passes(0, what), want[what]);
        }
        x.cut(0, 1);
        for (int what = 0; what < 3; what++) {
            due("passes(0, " + what + ") of one that is cut", x.passes(0, what), 0);
        }
        ears("passes(v, 0)", (y, v) -> y.passes(v, 0), NO);
        bounds("passes(0, v)", (y, v) -> y.passes(0, v), 0, 2, NO);
        noBay("passes(0, 0)", y -> y.passes(0, 0), NO);
        due("passes(11, 2)", twelve().passes(11, 2), 1);
        due("passes(12, 2)", twelve().passes(12, 2), NO);
    }

    // ---------------------------------------------------------------- 30 to 36: what comes of what

    private static void ofStrikes(String call, AskBy ask, long first, long last, long refused) {
        BellBay x = turns(300);
        due(call + "(0)", ask.of(x, 0), first);
        due(call + "(299)", ask.of(x, 299), last);
        for (int i : new int[] {300, 301, -1, MIN, MAX}) {
            due(call + "(" + i + ")", ask.of(x, i), refused);
        }
        due(call + "(0) of nobody", ask.of(of("bay churches 9 seconds 300;"), 0), refused);
        bounds(call, ask, 0, busy().strikes() - 1, refused);
    }

    private static void e30() {
        says(30, "NONE: there is none such; -2: there is no BAY.");
        ofStrikes("wave", (x, i) -> x.wave(i), 300, 1, NONE);
        noBay("wave(0)", y -> y.wave(0), NO);
        noBay("wave(-1)", y -> y.wave(-1), NO);
    }

    private static void e31() {
        says(31, "How many steps STRIKE i is from a start (0: one itself). NONE, -2 likewise.");
        ofStrikes("depth", (x, i) -> x.depth(i), 0, 299, NONE);
        noBay("depth(0)", y -> y.depth(0), NO);
        noBay("depth(-1)", y -> y.depth(-1), NO);
    }

    private static void e32() {
        says(32, "NONE, -2 likewise.");
        ofStrikes("source", (x, i) -> x.source(i), 0, 0, NONE);
        noBay("source(0)", y -> y.source(0), NO);
        noBay("source(-1)", y -> y.source(-1), NO);
    }

    private static void e33() {
        says(33, "NONE: there is none; -2: there is no such CHURCH.");
        due("lap(0)", turns(300).lap(0), 2);
        due("lap(1)", turns(3).lap(1), NONE);
        due("lap(1) in the last second", turns(4).lap(1), 2);
        due("lap of two starts", of("bay churches 1 seconds 300;starts 0 at 0 hour 1;starts 0 at 299 hour 1;").lap(0), NONE);
        due("lap of nobody", of("bay churches 1 seconds 300;").lap(0), NONE);
        due("the longest lap", of("bay churches 3 seconds 300;church late 60 rests 0;church late 60 rests 0;church late 59 rests 0;ear 1 of 0 takes 60 across;"
            + "ear 2 of 1 takes 30 across;ear 0 of 2 takes 30 across;starts 0 at 0 hour 1;").lap(0), 299);
        due("whatever lies between", of("bay churches 2 seconds 30;ear 1 of 0 takes 5 across;ear 0 of 1 takes 5 across;starts 0 at 0 hour 1;starts 0 at 3 hour 1;").lap(0), 10);
        bounds("lap", (y, v) -> y.lap(v), 0, 2, NO);
        noBay("lap(0)", y -> y.lap(0), NO);
    }

    private static void e34() {
        says(34, "NONE: it has not two; -2 likewise.");
        BellBay x = of("bay churches 9 seconds 300;starts 8 at 0 hour 1;starts 8 at 299 hour 1;starts 0 at 5 hour 1;");
        due("gap(8)", x.gap(8), 299);
        due("gap(0) of one", x.gap(0), NONE);
        due("gap(1) of none", x.gap(1), NONE);
        due("gap(9)", x.gap(9), NO);
        due("the least gap", of("bay churches 1 seconds 2;starts 0 at 0 hour 1;starts 0 at 1 hour 1;").gap(0), 1);
        churches("gap", (y, v) -> y.gap(v), NO);
        noBay("gap(0)", y -> y.gap(0), NO);
    }

    private static void e35() {
        says(35, "How many SECONDS from one on till a CHURCH STRIKES next (0: in that one). NONE: it does not; -2: there are none such.");
        BellBay x = of("bay churches 9 seconds 300;starts 8 at 299 hour 1;starts 7 at 298 hour 1;");
        int[][] want = {{8, 0, 299}, {8, 298, 1}, {8, 299, 0}, {7, 298, 0}, {7, 299, NONE}, {0, 0, NONE}, {8, 300, NO}, {9, 0, NO}};
        for (int[] one : want) {
            due("waits(" + one[0] + ", " + one[1] + ")", x.waits(one[0], one[1]), one[2]);
        }
        churches("waits(v, 0)", (y, v) -> y.waits(v, 0), NO);
        seconds("waits(0, v)", (y, v) -> y.waits(0, v), NO);
        noBay("waits(0, 0)", y -> y.waits(0, 0), NO);
    }

    private static void e36() {
        says(36, "(0 the first; of one SECOND the lesser CHURCH ahead). NONE: it has none; -2: there is none such.");
        BellBay x = of("bay churches 9 seconds 300;starts 8 at 299 hour 1;starts 5 at 299 hour 9;starts 3 at 299 hour 1;starts 7 at 298 hour 1;");
        int[] want = {NONE, NONE, NONE, 1, NONE, 2, NONE, 0, 3, NO};
        for (int c = 0; c < 10; c++) {
            due("rank(" + c + ")", x.rank(c), want[c]);
        }
        BellBay y = of(most());
        int sum = 0;
        for (int c = 0; c < 9; c++) {
            sum += 1 << y.rank(c);
        }
        due("all nine places", sum, 511);
        churches("rank", (z, v) -> z.rank(v), NO);
        noBay("rank(0)", z -> z.rank(0), NO);
    }

    // ---------------------------------------------------------------- 37 to 46: hours, what would be

    private static void e37() {
        says(37, "(none aside), the least of several; 0: nobody has struck. -2: there is none such.");
        BellBay x = of("bay churches 9 seconds 300;starts 8 at 1 hour 99;starts 7 at 2 hour 1;starts 6 at 3 hour 99;starts 5 at 299 hour 1;");
        int[][] want = {{0, 0}, {1, 99}, {2, 1}, {3, 99}, {298, 99}, {299, 1}, {300, NO}, {-1, NO}};
        for (int[] one : want) {
            due("common(" + one[0] + ")", x.common(one[0]), one[1]);
        }
        BellBay least = of("bay churches 9 seconds 9;starts 0 at 0 hour 7;starts 1 at 0 hour 5;starts 2 at 0 hour 6;");
        due("common(0), the least of three", least.common(0), 5);
        due("common(0), two of one hour", of("bay churches 9 seconds 9;starts 0 at 0 hour 7;starts 1 at 0 hour 5;starts 2 at 0 hour 7;").common(0), 7);
        due("common(299) of nobody", of("bay churches 9 seconds 300;").common(299), 0);
        seconds("common", (y, v) -> y.common(v), NO);
        noBay("common(0)", y -> y.common(0), NO);
    }

    private static void e38() {
        says(38, "How many CHURCHES have struck last another HOUR than that, or none. -2 likewise.");
        BellBay x = of("bay churches 9 seconds 300;starts 8 at 1 hour 99;starts 7 at 2 hour 1;starts 6 at 3 hour 99;starts 5 at 299 hour 1;");
        int[][] want = {{0, 9}, {1, 8}, {2, 8}, {3, 7}, {298, 7}, {299, 7}, {300, NO}, {-1, NO}};
        for (int[] one : want) {
            due("strayed(" + one[0] + ")", x.strayed(one[0]), one[1]);
        }
        due("strayed(0) of one", of("bay churches 1 seconds 1;starts 0 at 0 hour 1;").strayed(0), 0);
        due("strayed(0) of one that has not struck", of("bay churches 1 seconds 1;").strayed(0), 1);
        seconds("strayed", (y, v) -> y.strayed(v), NO);
        noBay("strayed(0)", y -> y.strayed(0), NO);
    }

    private static void e39() {
        says(39, "-2: there is no BAY.");
        due("splits() of nobody", of("bay churches 9 seconds 300;").splits(), 0);
        due("splits() of one", of("bay churches 9 seconds 300;starts 0 at 0 hour 1;starts 0 at 5 hour 2;").splits(), 0);
        due("splits() in all", of("bay churches 9 seconds 300;starts 0 at 0 hour 1;starts 8 at 0 hour 2;").splits(), 300);
        due("splits() in the last", of("bay churches 9 seconds 300;starts 0 at 0 hour 1;starts 8 at 299 hour 2;").splits(), 1);
        due("splits() of one hour", of("bay churches 2 seconds 300;starts 0 at 0 hour 1;starts 1 at 0 hour 1;").splits(), 0);
        noBay("splits()", BellBay::splits, NO);
    }

    private static void e40() {
        says(40, "how many (what 0), from which on (1, the first of several; NONE: there is none). -2: there is no such what, no BAY.");
        String[] texts = {"bay churches 1 seconds 1;", "bay churches 1 seconds 1;starts 0 at 0 hour 1;", "bay churches 9 seconds 300;",
            "bay churches 1 seconds 300;starts 0 at 0 hour 1;", "bay churches 1 seconds 300;starts 0 at 299 hour 1;",
            "bay churches 1 seconds 5;starts 0 at 2 hour 1;", "bay churches 1 seconds 5;starts 0 at 1 hour 1;starts 0 at 3 hour 1;",
            "bay churches 2 seconds 5;starts 0 at 1 hour 1;starts 1 at 1 hour 1;"};
        int[][] want = {{1, 0}, {0, NONE}, {300, 0}, {299, 1}, {299, 0}, {2, 0}, {1, 0}, {3, 2}};
        for (int i = 0; i < texts.length; i++) {
            BellBay x = of(texts[i]);
            due("silence(0) of " + texts[i], x.silence(0), want[i][0]);
            due("silence(1) of " + texts[i], x.silence(1), want[i][1]);
        }
        due("silence(0) of a strike each second", turns(300).silence(0), 0);
        due("silence(1) of a strike each second", turns(300).silence(1), NONE);
        bounds("silence", (y, v) -> y.silence(v), 0, 1, NO);
        noBay("silence(0)", y -> y.silence(0), NO);
        noBay("silence(1)", y -> y.silence(1), NO);
    }

    private static void e41() {
        says(41, "NONE: there is none; -2: there is no such HOUR, no BAY.");
        BellBay x = of("bay churches 9 seconds 300;starts 8 at 0 hour 99;starts 0 at 299 hour 99;starts 3 at 7 hour 1;");
        due("spread(99)", x.spread(99), 299);
        due("spread(1) of one", x.spread(1), 0);
        due("spread(2) of none", x.spread(2), NONE);
        due("spread(98) of none", x.spread(98), NONE);
        hours("spread", (y, v) -> y.spread(v), NO);
        noBay("spread(1)", y -> y.spread(1), NO);
    }

    private static void e42() {
        says(42, "(below 0: fewer) without any, what 0: fog, 1: deaf, 2: funeral, 3: wind, 4: rest, 5: pride (all proud ones eager), "
            + "6: lateness (all late ones eager). -2,000,000: there is no such what, no BAY.");
        for (int what = 0; what <= 6; what++) {
            int it = what;
            due("without(" + what + ") where there is none", turns(300).without(what), 0);
            due("without(" + what + ") where nobody strikes", of("bay churches 1 seconds 1;").without(what), 0);
            noBay("without(" + what + ")", y -> y.without(it), LONE);
            stays("without(" + what + ") changes nothing", BUSY_ONE, y -> y.without(it) * 0, 0);
        }
        bounds("without", (y, v) -> y.without(v), 0, 6, LONE);
        String[] one = {"fog on 0 from 3 to 3;", "deaf 1 from 3 to 3;", "funeral at 1 from 3 to 3;", "wind at 0 against 17;", "", "", ""};
        String[] kinds = {"eager rests 0", "eager rests 0", "eager rests 0", "eager rests 0", "eager rests 3", "proud rests 0", "late 17 rests 0"};
        for (int what = 0; what <= 6; what++) {
            BellBay x = of("bay churches 2 seconds 20;church eager rests 0;church " + kinds[what] + ";ear 1 of 0 takes 3 along;starts 0 at 0 hour 99;"
                + (what == 4 || what == 5 ? "starts 1 at 0 hour 99;" : "") + one[what]);
            for (int other = 0; other <= 6; other++) {
                due("without(" + other + ") where there is " + what, x.without(other), other == what ? 1 : 0);
            }
        }
        BellBay rest = of("bay churches 2 seconds 300;church eager rests 99;church eager rests 99;ear 0 of 1 takes 1 across;ear 1 of 0 takes 1 across;starts 0 at 0 hour 1;");
        due("without(4): 300 in place of 2", rest.without(4), 298);
        due("without(2), fewer", of("bay churches 2 seconds 9;church eager rests 0;church proud rests 0;ear 1 of 0 takes 1 across;funeral at 1 from 3 to 3;"
            + "starts 0 at 0 hour 1;starts 0 at 2 hour 1;").without(2), -1);
    }

    private static void e43() {
        says(43, "by how many fewer STRIKES there are (below 0: more), if STRIKE i goes out by no EAR. NOTHING (-2,000,000): there is none such.");
        ofStrikes("unheard", (x, i) -> x.unheard(i), 299, 0, LONE);
        due("unheard(298)", turns(300).unheard(298), 1);
        due("unheard(0), more", of("bay churches 2 seconds 30;church eager rests 0;church proud rests 0;ear 1 of 0 takes 3 across;starts 0 at 0 hour 9;"
            + "starts 1 at 7 hour 5;starts 1 at 8 hour 6;starts 1 at 9 hour 7;").unheard(0), -2);
        noBay("unheard(0)", y -> y.unheard(0), LONE);
    }

    private static void e44() {
        says(44, "the first of several. NONE: there are none; -2: there is no BAY.");
        due("key() of nobody", of("bay churches 9 seconds 300;").key(), NONE);
        due("key() of 300", turns(300).key(), 0);
        due("key(), none needed", of("bay churches 2 seconds 9;starts 1 at 0 hour 1;starts 0 at 0 hour 1;").key(), 0);
        due("key(), the last", of("bay churches 3 seconds 9;ear 0 of 2 takes 1 across;starts 1 at 0 hour 1;starts 2 at 7 hour 1;").key(), 1);
        noBay("key()", BellBay::key, NO);
    }

    private static void e45() {
        says(45, "The wind n (-20 .. 20, so much more along) by which gain() is most, the least n of several. NOTHING (-2,000,000): by none.");
        String ear = "bay churches 2 seconds 100;ear 1 of 0 takes %d %s;starts 0 at 0 hour 1;";
        due("along 60", of(String.format(ear, 60, "along")).wise(), 20);
        due("against 60", of(String.format(ear, 60, "against")).wise(), -20);
        due("along 21", of(String.format(ear, 21, "along")).wise(), 20);
        due("along 20", of(String.format(ear, 20, "along")).wise(), 19);
        due("along 1", of(String.format(ear, 1, "along")).wise(), 0);
        due("against 1", of(String.format(ear, 1, "against")).wise(), -20);
        due("across", of(String.format(ear, 60, "across")).wise(), -20);
        due("one church", of("bay churches 1 seconds 1;starts 0 at 0 hour 1;").wise(), -20);
        due("by none: nobody", of("bay churches 1 seconds 1;").wise(), LONE);
        due("by none: as it is one makes none", of("bay churches 2 seconds 40;ear 1 of 0 takes 40 along;starts 0 at 0 hour 1;").wise(), LONE);
        noBay("wise()", BellBay::wise, LONE);
    }

    private static void e46() {
        says(46, "how many SECONDS the first STRIKE of it of a CHURCH is behind that of another one (ahead: below 0), all together (what 0); how many HOURS (1). "
            + "NOTHING (-2,000,000): there are none such, one twice.");
        BellBay x = of("bay churches 9 seconds 300;starts 8 at 0 hour 99;starts 0 at 299 hour 99;starts 0 at 298 hour 1;starts 8 at 1 hour 1;");
        due("behind(0, 8, 0)", x.behind(0, 8, 0), 299 + 297);
        due("behind(8, 0, 0)", x.behind(8, 0, 0), -596);
        due("behind(8, 0, 1)", x.behind(8, 0, 1), 2);
        due("behind(8, 1, 0) without any", x.behind(8, 1, 0), 0);
        due("behind(8, 1, 1) without any", x.behind(8, 1, 1), 0);
        for (int what = 0; what < 2; what++) {
            int it = what;
            due("behind(8, 8, " + what + ")", x.behind(8, 8, what), LONE);
            due("behind(8, 9, " + what + ")", x.behind(8, 9, what), LONE);
            due("behind(9, 9, " + what + ")", x.behind(9, 9, what), LONE);
            churches("behind(v, 1, " + what + ")", (y, v) -> y.behind(v, 1, it), LONE);
            churches("behind(1, v, " + what + ")", (y, v) -> y.behind(1, v, it), LONE);
            noBay("behind(0, 1, " + what + ")", y -> y.behind(0, 1, it), LONE);
        }
        bounds("behind(0, 1, v)", (y, v) -> y.behind(0, 1, v), 0, 1, LONE);
    }

    // ---------------------------------------------------------------- 47 to 55: rows, changes, who began

    interface AskSlot {
        long of(BellBay x, int slot);
    }

    /** Refusals that log, began, first, sure and odd have alike. */
    private static void threes(String call, AskSlot ask) {
        bounds(call + " of slot v", (y, v) -> ask.of(y, v), 0, 3, NO);
        stays(call + " of a slot that has nothing", BUSY_ONE, y -> ask.of(y, 3), -6);
        noBay(call, y -> ask.of(y, 0), NO);
        BellBay none = nothing();
        lay(none, 0, 3, 0, 0, 0);
        due(call + " of a row, no bay", ask.of(none, 0), NO);
        BellBay x = busy();
        for (int n = 0; n <= 60; n++) {
            x.row(3, 3, n);
            asked++;
            if (ask.of(x, 3) == NO ^ n % 3 != 0) {
                complain(call + " of a row of " + n, "answered " + ask.of(x, 3));
            }
        }
        long[] no = {-1, MIN, MAX, Long.MIN_VALUE, Long.MAX_VALUE, 1L << 32, 1L << 40};
        for (int place : new int[] {0, 3, 57}) {
            x.row(3, 3, 60);
            for (long v : no) {
                x.write(3, place, v);
                due(call + " with second " + v, ask.of(x, 3), NO);
                x.write(3, place, 0);
                x.write(3, place + 1, v);
                due(call + " with church " + v, ask.of(x, 3), NO);
                x.write(3, place + 1, 0);
            }
            for (int k = 0; k < 2; k++) {
                x.write(3, place + k, k == 0 ? 40 : 3);
                due(call + (k == 0 ? " with second 40" : " with church 3"), ask.of(x, 3), NO);
                x.write(3, place + k, k == 0 ? 39 : 2);
                asked++;
                if (ask.of(x, 3) == NO) {
                    complain(call + (k == 0 ? " with second 39" : " with church 2"), "is refused");
                }
                x.write(3, place + k, 0);
            }
            for (long v : new long[] {-1, 0, 100, MIN, Long.MAX_VALUE}) {
                x.write(3, place + 2, v);
                asked++;
                if (ask.of(x, 3) == NO) {
                    complain(call + " with hour " + v, "is refused");
                }
            }
        }
    }

    private static void e47() {
        says(47, "(0: none): how many are not so. -2: there is no such SLOT, no BAY, a number is no SECOND, no CHURCH (asked last), not three each; -6: it has nothing.");
        threes("log", (x, slot) -> x.log(slot));
        BellBay x = of("bay churches 9 seconds 300;starts 8 at 299 hour 99;");
        x.row(0, 1, 60);
        due("log(0): twenty times nobody", x.log(0), 0);
        for (int i = 0; i < 20; i++) {
            x.write(0, 3 * i + 2, 99);
        }
        due("log(0): twenty not so", x.log(0), 20);
        lay(x, 0, 1, 299, 8, 99, 298, 8, 0, 299, 8, 98, 299, 7, 99);
        due("log(0): two not so", x.log(0), 2);
        x.row(0, 0, 0);
        due("log(0) of an empty row", x.log(0), 0);
        lay(x, 0, 3, 299, 8, (1L << 32) + 99);
        due("log(0) of an hour too large", x.log(0), 1);
        lay(x, 0, 3, 0, 0, 1L << 32);
        due("log(0) of an hour too large, of none", x.log(0), 1);
    }

    private static void e48() {
        says(48, "An EAR takes n (1 .. 60) from now on: what it took. -2: there are none such.");
        BellBay x = of(most());
        due("tune(11, 60)", x.tune(11, 60), 1);
        due("tune(11, 1)", x.tune(11, 1), 60);
        due("ear(11, 2)", x.ear(11, 2), 1);
        due("tune(12, 1)", x.tune(12, 1), NO);
        ears("tune(v, 1)", (y, v) -> y.tune(v, 1), NO);
        bounds("tune(0, v)", (y, v) -> y.tune(0, v), 1, 60, NO);
        noBay("tune(0, 1)", y -> y.tune(0, 1), NO);
        BellBay later = of("bay churches 2 seconds 60;ear 1 of 0 takes 59 across;starts 0 at 0 hour 1;");
        due("heard in the last second", later.strikes(), 2);
        later.tune(0, 60);
        due("heard behind it from now on", later.strikes(), 1);
        later.tune(0, 1);
        due("heard in second 1 from now on", later.quiet(), 1);
        due("tune(0, 1) without ears", of("bay churches 2 seconds 9;").tune(0, 1), NO);
    }

    private static void e49() {
        says(49, "-2: there are none such.");
        BellBay x = of(most());
        due("shift(3, 299)", x.shift(3, 299), 0);
        due("shift(3, 0)", x.shift(3, 0), 299);
        due("shift(3, 300)", x.shift(3, 300), NO);
        due("shift(4, 0)", x.shift(4, 0), NO);
        bounds("shift(v, 0)", (y, v) -> y.shift(v, 0), 0, 1, NO);
        seconds("shift(0, v)", (y, v) -> y.shift(0, v), NO);
        noBay("shift(0, 0)", y -> y.shift(0, 0), NO);
        BellBay later = of("bay churches 2 seconds 60;ear 1 of 0 takes 10 across;starts 0 at 49 hour 1;");
        due("heard in the last second", later.strikes(), 2);
        later.shift(0, 50);
        due("heard behind it from now on", later.strikes(), 1);
        later.shift(0, 0);
        due("heard in second 10 from now on", later.quiet(), 10);
        due("shift(0, 0) without starts", of("bay churches 2 seconds 9;").shift(0, 0), NO);
    }

    private static void e50() {
        says(50, "the first of several. -2: there is none such.");
        due("soon(0), all alike", of("bay churches 1 seconds 300;starts 0 at 299 hour 1;").soon(0), 0);
        due("soon(0), of one second", of("bay churches 1 seconds 1;starts 0 at 0 hour 1;").soon(0), 0);
        due("soon(0), one strike in any case", of("bay churches 1 seconds 99;church eager rests 99;starts 0 at 5 hour 9;starts 0 at 98 hour 1;").soon(0), 0);
        due("soon(1), behind the fog", of("bay churches 2 seconds 300;ear 1 of 0 takes 1 across;fog on 0 from 0 to 298;starts 1 at 0 hour 1;starts 0 at 5 hour 1;").soon(1), 298);
        bounds("soon", (y, v) -> y.soon(v), 0, 1, NO);
        noBay("soon(0)", y -> y.soon(0), NO);
        due("soon(0) without starts", of("bay churches 1 seconds 9;").soon(0), NO);
        due("soon(3) of four", of(most()).soon(3) >= 0 ? 1 : 0, 1);
        due("soon(4) of four", of(most()).soon(4), NO);
        stays("soon(0) shifts nothing", BUSY_ONE, y -> y.soon(0) * 0, 0);
    }

    private static void e51() {
        says(51, "so that there are no more than n (0 .. 300) STRIKES: how many; NONE: by none. -2: there is no such n, no BAY.");
        BellBay x = twelve();
        due("hush(300)", x.hush(300), 0);
        due("hush(2)", x.hush(2), 0);
        due("hush(1)", x.hush(1), 12);
        due("hush(0)", x.hush(0), NONE);
        due("hush(0) of nobody", of("bay churches 9 seconds 300;").hush(0), 0);
        due("hush(300) of 300", turns(300).hush(300), 0);
        due("hush(299) of 300", turns(300).hush(299), 1);
        due("hush(1) of 300", turns(300).hush(1), 1);
        bounds("hush", (y, v) -> y.hush(v), 0, 300, NO);
        noBay("hush(0)", y -> y.hush(0), NO);
        noBay("hush(300)", y -> y.hush(300), NO);
        stays("hush(3) cuts nothing", BUSY_ONE, y -> y.hush(3) * 0, 0);
    }

    private static void e52() {
        says(52, "-2: there is no such SLOT, limit, HOUR, a number is no SECOND, no CHURCH (asked last), not three each; -6: it has nothing.");
        threes("began", (x, slot) -> x.began(slot, 5, 3));
        seconds("began(0, v, 3)", (y, v) -> y.began(0, v, 3), NO);
        hours("began(0, 5, v)", (y, v) -> y.began(0, 5, v), NO);
        seconds("began(3, v, 3) of nothing", (y, v) -> y.began(3, v, 3), NO);
        hours("began(3, 5, v) of nothing", (y, v) -> y.began(3, 5, v), NO);
        BellBay x = of("bay churches 9 seconds 300;starts 0 at 0 hour 1;");
        x.row(0, 3, 0);
        due("an empty row: all starts", x.began(0, 299, 99), 2700);
        due("an empty row, up to 0", x.began(0, 0, 1), 9);
        lay(x, 0, 1, 299, 8, 99);
        due("in the last second", x.began(0, 299, 99), 1);
        due("up to the one ahead", x.began(0, 298, 99), 0);
        due("another hour", x.began(0, 299, 98), 0);
        lay(x, 0, 1, 0, 0, 1);
        due("in the first second", x.began(0, 0, 1), 1);
        lay(x, 0, 1, 0, 0, 1, 0, 1, 1);
        due("two that no start alone can do", x.began(0, 299, 1), 0);
        x.row(0, 1, 60);
        for (int i = 0; i < 20; i++) {
            x.write(0, 3 * i + 2, 1);
        }
        due("twenty times the same", x.began(0, 299, 1), 1);
        x.write(0, 59, 2);
        due("the last of them is not so", x.began(0, 299, 1), 0);
    }

    private static void e53() {
        says(53, "what 0: CHURCH, 1: SECOND. NONE: there is none; -2, -6 likewise, no such what.");
        threes("first(.., 0)", (x, slot) -> x.first(slot, 5, 3, 0));
        threes("first(.., 1)", (x, slot) -> x.first(slot, 5, 3, 1));
        seconds("first(0, v, 3, 0)", (y, v) -> y.first(0, v, 3, 0), NO);
        hours("first(0, 5, v, 0)", (y, v) -> y.first(0, 5, v, 0), NO);
        bounds("first(0, 5, 3, v)", (y, v) -> y.first(0, 5, 3, v), 0, 1, NO);
        bounds("first(3, 5, 3, v) of nothing", (y, v) -> y.first(3, 5, 3, v), 0, 1, NO);
        BellBay x = of("bay churches 9 seconds 300;starts 0 at 0 hour 1;");
        x.row(0, 3, 0);
        due("an empty row, church", x.first(0, 299, 99, 0), 0);
        due("an empty row, second", x.first(0, 299, 99, 1), 0);
        lay(x, 0, 1, 299, 8, 99);
        due("church", x.first(0, 299, 99, 0), 8);
        due("second", x.first(0, 299, 99, 1), 299);
        due("none, church", x.first(0, 298, 99, 0), NONE);
        due("none, second", x.first(0, 298, 99, 1), NONE);
    }

    private static void e54() {
        says(54, "The CHURCH of all of these; NONE: not the same, there is none. -2, -6 likewise.");
        threes("sure", (x, slot) -> x.sure(slot, 5, 3));
        seconds("sure(0, v, 3)", (y, v) -> y.sure(0, v, 3), NO);
        hours("sure(0, 5, v)", (y, v) -> y.sure(0, 5, v), NO);
        BellBay x = of("bay churches 9 seconds 300;starts 0 at 0 hour 1;");
        x.row(0, 3, 0);
        due("an empty row: not the same", x.sure(0, 299, 99), NONE);
        lay(x, 0, 1, 299, 8, 99);
        due("church 8", x.sure(0, 299, 99), 8);
        due("there is none", x.sure(0, 298, 99), NONE);
        BellBay one = of("bay churches 1 seconds 300;");
        one.row(0, 3, 0);
        due("an empty row of one church", one.sure(0, 299, 99), 0);
        BellBay two = of("bay churches 2 seconds 9;ear 1 of 0 takes 3 across;");
        lay(two, 0, 0, 5, 1, 4);
        due("up to 4: church 0 alone", two.sure(0, 4, 4), 0);
        due("up to 5: church 1, too", two.sure(0, 5, 4), NONE);
        due("up to 1: none", two.sure(0, 1, 4), NONE);
    }

    private static void e55() {
        says(55, "The first of these three (from 0) that is not so by STRIKES as they are; NONE: all are. -2, -6 likewise.");
        threes("odd", (x, slot) -> x.odd(slot));
        BellBay x = of("bay churches 9 seconds 300;starts 8 at 299 hour 99;starts 0 at 0 hour 1;");
        x.row(0, 3, 0);
        due("an empty row", x.odd(0), NONE);
        x.row(0, 1, 60);
        due("twenty without an hour", x.odd(0), 0);
        for (int i = 0; i < 20; i++) {
            x.write(0, 3 * i + 2, 1);
        }
        due("twenty that are so", x.odd(0), NONE);
        x.write(0, 59, 2);
        due("the last is not", x.odd(0), 19);
        x.write(0, 30, 1);
        due("one ahead is not", x.odd(0), 10);
        lay(x, 0, 3, 299, 8, 99, 299, 8, (1L << 32) + 99);
        due("an hour too large", x.odd(0), 1);
        lay(x, 0, 3, 298, 8, 0);
        due("none was struck: not so", x.odd(0), 0);
    }

    // ---------------------------------------------------------------- 56 to 61: draws, bets, counts, images

    private static void e56() {
        says(56, "DRAWN (III) by a seed (0 .. 2,000,000,000) and n (0 .. 20), what 0: STRIKES, 1: the last SECOND with one (NONE), 2: CHURCHES that struck, as bits. "
            + "-2: there are none such, no BAY.");
        bounds("drawn(v, 3, 0)", (y, v) -> y.drawn(v, 3, 0), 0, 2000000000, NO);
        bounds("drawn(5, v, 0)", (y, v) -> y.drawn(5, v, 0), 0, 20, NO);
        bounds("drawn(5, 3, v)", (y, v) -> y.drawn(5, 3, v), 0, 2, NO);
        for (int what = 0; what < 3; what++) {
            int it = what;
            noBay("drawn(0, 0, " + what + ")", y -> y.drawn(0, 0, it), NO);
        }
        BellBay nobody = of("bay churches 9 seconds 300;");
        due("nobody, strikes", nobody.drawn(2000000000, 20, 0), 0);
        due("nobody, the last second", nobody.drawn(2000000000, 20, 1), NONE);
        due("nobody, churches", nobody.drawn(2000000000, 20, 2), 0);
        BellBay all = of(most());
        due("nine churches", all.drawn(0, 0, 2), 511);
        due("as it is without a draw", all.drawn(0, 0, 0), all.strikes());
        due("as it is without a draw", all.drawn(0, 0, 1), all.quiet());
        due("300 strikes", turns(300).drawn(7, 20, 0), 300);
        stays("drawn(5, 20, 0) changes nothing", BUSY_ONE, y -> y.drawn(5, 20, 0) * 0, 0);
    }

    private static int drawnAlong(long seed, int k, int n) {
        int sum = 0;
        for (int i = 0; i < k; i++) {
            sum += draw(seed + i, n, 0) >= 0 ? 1 : 0;
        }
        return sum;
    }

    private static void e57() {
        says(57, "Of k (1 .. 20) such from seeds, the seed and 1, .., in how many a CHURCH strikes an HOUR (1 .. 99) at all. -2: there are none such.");
        BellBay x = of("bay churches 2 seconds 31;ear 1 of 0 takes 30 along;starts 0 at 0 hour 5;");
        for (int seed : new int[] {0, 1, 1999999999, 2000000000}) {
            for (int k : new int[] {1, 2, 19, 20}) {
                for (int n : new int[] {0, 1, 20}) {
                    due("chance(" + seed + ", " + k + ", " + n + ", 1, 5)", x.chance(seed, k, n, 1, 5), drawnAlong(seed, k, n));
                }
            }
        }
        due("always", x.chance(2000000000, 20, 20, 0, 5), 20);
        due("never", x.chance(2000000000, 20, 20, 0, 6), 0);
        bounds("chance(v, 3, 3, 0, 3)", (y, v) -> y.chance(v, 3, 3, 0, 3), 0, 2000000000, NO);
        bounds("chance(5, v, 3, 0, 3)", (y, v) -> y.chance(5, v, 3, 0, 3), 1, 20, NO);
        bounds("chance(5, 3, v, 0, 3)", (y, v) -> y.chance(5, 3, v, 0, 3), 0, 20, NO);
        churches("chance(5, 3, 3, v, 3)", (y, v) -> y.chance(5, 3, 3, v, 3), NO);
        hours("chance(5, 3, 3, 0, v)", (y, v) -> y.chance(5, 3, 3, 0, v), NO);
        noBay("chance(0, 1, 0, 0, 1)", y -> y.chance(0, 1, 0, 0, 1), NO);
    }

    private static void e58() {
        says(58, "the CHURCH whose is nearest (the least of several; without a STRIKE: out). NONE: all are out; -2: there is no such SLOT, no BAY, "
            + "a number is no SECOND (asked last); -6: it has nothing; -7: there are not as many as CHURCHES.");
        BellBay x = of("bay churches 9 seconds 300;starts 8 at 0 hour 1;starts 7 at 299 hour 1;");
        lay(x, 0, 3, 0, 0, 0, 0, 0, 0, 0, 0, 299);
        due("as far as can be, the least", x.bets(0), 7);
        x.write(0, 8, 298);
        due("one nearer", x.bets(0), 8);
        lay(x, 0, 1, 0, 0, 0, 0, 0, 0, 0, 299, 0);
        due("both met, the least", x.bets(0), 7);
        x.write(0, 7, 298);
        due("church 8 met", x.bets(0), 8);
        BellBay two = of("bay churches 2 seconds 9;starts 0 at 0 hour 1;starts 1 at 8 hour 1;");
        lay(two, 0, 0, 8, 0);
        due("both as far as can be, the least", two.bets(0), 0);
        lay(two, 0, 0, 7, 0);
        due("church 0", two.bets(0), 0);
        BellBay nobody = of("bay churches 9 seconds 300;");
        nobody.row(0, 0, 9);
        due("all are out", nobody.bets(0), NONE);
        for (int n = 0; n <= 60; n++) {
            x.row(1, 3, n);
            due("a row of " + n, x.bets(1), n == 9 ? 8 : -7);
        }
        for (int place = 0; place < 9; place++) {
            x.row(1, 3, 9);
            for (long v : new long[] {-1, 300, MIN, MAX, 1L << 32, Long.MIN_VALUE, Long.MAX_VALUE}) {
                x.write(1, place, v);
                due("no second " + v, x.bets(1), NO);
            }
            x.write(1, place, 299);
            due("the last second", x.bets(1), place >= 7 ? 7 : 8);
        }
        lay(x, 1, 3, -1, 300);
        due("not as many, ahead of no seconds", x.bets(1), -7);
        nobody.write(0, 3, -1);
        due("no second, though all are out", nobody.bets(0), NO);
        bounds("bets", (y, v) -> y.bets(v), 0, 3, NO);
        stays("bets of nothing", BUSY_ONE, y -> y.bets(3), -6);
        noBay("bets(0)", y -> y.bets(0), NO);
        BellBay none = nothing();
        none.row(0, 0, 0);
        due("bets of a row, no bay", none.bets(0), NO);
    }

    private static void e59() {
        says(59, "0 CHURCHES, 1 SECONDS, 2 EARS, 3 starts, 4 LINES, 5 bytes of the TAPE, 6 CHURCHES that are muffled, as bits, 7 EARS that are cut, as bits, "
            + "8 SLOTS that have a row. NONE for others.");
        bounds("count", (y, v) -> y.count(v), 0, 8, NONE);
        bounds(NEW_ONE, "count", (y, v) -> y.count(v), 0, 8, NONE);
        BellBay x = of(most());
        for (int c = 0; c < 9; c++) {
            x.muffle(c, 1);
        }
        for (int e = 0; e < 12; e++) {
            x.cut(e, 1);
        }
        for (int slot = 0; slot < 4; slot++) {
            due("count(8)", x.count(8), slot);
            x.row(slot, slot, 0);
        }
        feed(x, " ".repeat(2000));
        int[] want = {9, 300, 12, 4, 50, 2000, 511, 4095, 4};
        for (int what = 0; what < want.length; what++) {
            due("count(" + what + ") of most", x.count(what), want[what]);
        }
        x.row(0, 0, 61);
        x.row(0, 0, -1);
        due("count(8), rows being refused", x.count(8), 4);
        BellBay least = of("bay churches 1 seconds 1;");
        int[] few = {1, 1, 0, 0, 1, 0, 0, 0, 0};
        for (int what = 0; what < few.length; what++) {
            due("count(" + what + ") of least", least.count(what), few[what]);
        }
    }

    private static void e60() {
        says(60, "IMAGE k (0 .. 2) keeps the BAY, who is muffled, which EARS are cut, what they take, SECONDS of starts: 0. -2: no such k.");
        bounds("keep", (y, v) -> y.keep(v), 0, 2, NO);
        bounds(NEW_ONE, "keep", (y, v) -> y.keep(v), 0, 2, NO);
        BellBay x = of(most());
        x.muffle(8, 1);
        x.cut(11, 1);
        x.tune(11, 60);
        x.shift(3, 299);
        List<Long> before = new ArrayList<>();
        see(before, x);
        for (int k = 0; k < 3; k++) {
            due("keep(" + k + ")", x.keep(k), 0);
        }
        x.muffle(8, 0);
        x.muffle(0, 1);
        x.cut(11, 0);
        x.cut(0, 1);
        x.tune(11, 2);
        x.tune(0, 60);
        x.shift(3, 1);
        x.shift(0, 2);
        due("keep(1) in place of another", x.keep(1), 0);
        due("bay() of nothing", x.bay(), 0);
        due("keep(2) of no bay", x.keep(2), 0);
        due("back(0)", x.back(0), 0);
        List<Long> after = new ArrayList<>();
        see(after, x);
        asked++;
        if (!before.equals(after)) {
            complain("back(0)", "has not all that was kept");
        }
        due("shift(3, 299)", x.shift(3, 299), 299);
        due("shift(0, 0)", x.shift(0, 0), 0);
        due("back(1)", x.back(1), 0);
        int[] want = {x.count(6), 1, x.count(7), 1, x.ear(11, 2), 2, x.ear(0, 2), 60, x.shift(3, 1), 1, x.shift(0, 2), 2};
        for (int i = 0; i < want.length; i += 2) {
            due("of image 1, " + i / 2, want[i], want[i + 1]);
        }
        due("back(2)", x.back(2), 0);
        due("no bay", x.strikes(), NO);
    }

    private static void e61() {
        says(61, "These are as IMAGE k has them: 0. -2: no such k; -6: it has nothing.");
        BellBay x = busy();
        due("back(1) that has nothing", x.back(1), -6);
        stays("back(1) that has nothing", BUSY_ONE, y -> y.back(1), -6);
        for (int k = 0; k < 3; k++) {
            int it = k;
            stays("back(" + k + ") of a new one", NEW_ONE, y -> y.back(it), -6);
        }
        bounds("back", (y, v) -> y.back(v), 0, 2, NO);
        bounds(NEW_ONE, "back", (y, v) -> y.back(v), 0, 2, NO);
        int tape = x.count(5);
        due("back(0)", x.back(0), 0);
        due("the tape is as it was", x.count(5), tape);
        due("slots are as they were", x.count(8), 3);
        due("nobody is muffled", x.count(6), 0);
        due("none is cut", x.count(7), 0);
        due("ear 0 takes what it took", x.ear(0, 2), 3);
        due("a start is where it was", x.shift(0, 1), 1);
        x.tune(0, 9);
        x.shift(0, 39);
        due("back(0) again", x.back(0), 0);
        due("the image did not change by that", x.ear(0, 2), 3);
        due("the image did not change by that", x.shift(0, 1), 1);
        due("image 2", x.back(2), 0);
        due("image 2, muffled", x.count(6), 4);
        due("image 2, cut", x.count(7), 2);
        due("image 2, tuned", x.ear(0, 2), 5);
        due("image 2, shifted", x.shift(0, 2), 2);
        BellBay none = nothing();
        none.keep(0);
        due("back(0) to no bay", none.back(0), 0);
        due("no bay", none.strikes(), NO);
        feed(none, "bay churches 1 seconds 9;starts 0 at 8 hour 1;");
        none.bay();
        due("a bay", none.strikes(), 1);
        due("back(0) to no bay", none.back(0), 0);
        due("no bay", none.strikes(), NO);
        due("count(0)", none.count(0), 0);
    }

    // ---------------------------------------------------------------- 62 to 64: slots

    private static void e62() {
        says(62, "A SLOT (0 .. 3) has a row of n numbers of a WIDTH, all 0 (in place of another one): 0.");
        BellBay x = of("bay churches 1 seconds 300;starts 0 at 0 hour 1;");
        for (int slot = 0; slot < 4; slot++) {
            for (int width = 0; width < 4; width++) {
                due("row(" + slot + ", " + width + ", 60)", x.row(slot, width, 60), 0);
                due("all 0: no hour is so", x.log(slot), 20);
                for (int i = 0; i < 20; i++) {
                    x.write(slot, 3 * i + 2, 1);
                }
                due("all are so", x.log(slot), 0);
            }
            due("row of 3 in place of it", x.row(slot, 3, 3), 0);
            due("all 0", x.log(slot), 1);
            due("number 2", x.write(slot, 2, 0), 0);
            due("number 3", x.write(slot, 3, 0), -7);
            due("row of 60 again", x.row(slot, 0, 60), 0);
            due("all 0 again", x.log(slot), 20);
        }
        due("row(0, 0, 0)", x.row(0, 0, 0), 0);
        due("no number 0", x.write(0, 0, 0), -7);
        says(62, "-2: there is no such SLOT or WIDTH (0 .. 3), or n is above 60; -3, and the SLOT stays: n is below 0.");
        bounds("row(v, 0, 3)", (y, v) -> y.row(v, 0, 3), 0, 3, NO);
        bounds("row(0, v, 3)", (y, v) -> y.row(0, v, 3), 0, 3, NO);
        for (int slot = 0; slot < 4; slot++) {
            int it = slot;
            for (int n : new int[] {61, 62, 256, 65536, MAX, MAX - 1}) {
                stays("row(" + slot + ", 0, " + n + ")", BUSY_ONE, y -> y.row(it, 0, n), NO);
            }
            for (int n : new int[] {-1, -2, -60, -256, MIN, MIN + 1, MIN + 60}) {
                stays("row(" + slot + ", 0, " + n + ")", BUSY_ONE, y -> y.row(it, 0, n), -3);
            }
        }
        stays("row(4, 0, -1)", BUSY_ONE, y -> y.row(4, 0, -1), NO);
        stays("row(-1, 0, -1)", BUSY_ONE, y -> y.row(-1, 0, -1), NO);
        stays("row(0, 4, -1)", BUSY_ONE, y -> y.row(0, 4, -1), NO);
        stays("row(0, -1, -1)", BUSY_ONE, y -> y.row(0, -1, -1), NO);
        stays("row(0, 0, -1) of a new one", NEW_ONE, y -> y.row(0, 0, -1), -3);
        stays("row(0, 0, 61) of a new one", NEW_ONE, y -> y.row(0, 0, 61), NO);
    }

    private static void e63() {
        says(63, "Number i of the SLOT's row is v, cut to its WIDTH: 0.");
        BellBay x = of("bay churches 1 seconds 300;starts 0 at 0 hour 99;");
        long[] over = {1L << 8, 1L << 16, 1L << 32};
        for (int width = 0; width < 4; width++) {
            for (int bytes = 0; bytes < 3; bytes++) {
                for (long v : new long[] {99 + over[bytes], 99 - over[bytes]}) {
                    lay(x, 0, width, 0, 0, v);
                    due(v + " of width " + width, x.log(0), width <= bytes ? 0 : 1);
                }
            }
            for (long v : new long[] {Long.MIN_VALUE + 99, 99}) {
                lay(x, 0, width, 0, 0, v);
                due(v + " of width " + width, x.log(0), width < 3 || v == 99 ? 0 : 1);
            }
        }
        int[][] seconds = {{0, 127, 0}, {0, 128, NO}, {0, 255, NO}, {0, 256, 0}, {0, -1, NO}, {0, -129, 0}, {1, 128, 0}, {1, 299, 0}, {1, 300, NO},
            {1, 32768, NO}, {1, 65535, NO}, {1, 65536, 0}, {2, 65536, NO}, {2, MAX, NO}, {2, MIN, NO}, {3, MIN, NO}};
        for (int[] s : seconds) {
            lay(x, 0, s[0], s[1], 0, 99);
            due("second " + s[1] + " of width " + s[0], x.log(0), s[2]);
        }
        lay(x, 0, 2, 1L << 31, 0, 99);
        due("2^31 of width 2", x.log(0), NO);
        lay(x, 0, 2, (1L << 32) - 1, 0, 99);
        due("2^32 less 1 of width 2", x.log(0), NO);
        says(63, "-2: there is no such SLOT; -6: it has nothing; -7: there is no such number.");
        bounds("write(v, 0, 0)", (y, v) -> y.write(v, 0, 1), 0, 3, NO);
        bounds("write(0, v, 1)", (y, v) -> y.write(0, v, 1), 0, 5, -7);
        bounds("write(2, v, 1)", (y, v) -> y.write(2, v, 1), 0, 59, -7);
        for (int i : new int[] {0, -1, 60, MIN, MAX}) {
            stays("write(3, " + i + ", 1) to nothing", BUSY_ONE, y -> y.write(3, i, 1), -6);
            stays("write(4, " + i + ", 1)", BUSY_ONE, y -> y.write(4, i, 1), NO);
            stays("write(0, " + i + ", 1) of a new one", NEW_ONE, y -> y.write(0, i, 1), -6);
        }
        BellBay empty = nothing();
        empty.row(3, 3, 0);
        due("write to an empty row", empty.write(3, 0, 1), -7);
        due("write without a bay", empty.row(2, 0, 1) + empty.write(2, 0, Long.MAX_VALUE), 0);
    }

    private static void e64() {
        says(64, "from one on, are put to another one's (or its own), from one on, as they were: 0.");
        BellBay x = of("bay churches 1 seconds 300;starts 0 at 0 hour 99;");
        x.row(0, 0, 60);
        x.row(1, 0, 60);
        for (int i = 0; i < 20; i++) {
            x.write(0, 3 * i + 2, 99);
        }
        due("paste of all", x.paste(0, 0, 1, 0, 60), 0);
        due("all are so", x.log(1), 0);
        x.row(1, 0, 60);
        due("paste of the last", x.paste(0, 59, 1, 59, 1), 0);
        due("one is so", x.log(1), 19);
        due("paste of all to its own", x.paste(0, 0, 0, 0, 60), 0);
        due("all are so still", x.log(0), 0);
        lay(x, 2, 0, 0, 0, 99, 0, 0, 0, 0, 0, 0, 0, 0, 0);
        due("forward within its own", x.paste(2, 0, 2, 3, 9), 0);
        due("as they were: two are so", x.log(2), 2);
        lay(x, 2, 0, 0, 0, 0, 0, 0, 0, 0, 0, 0, 0, 0, 99);
        due("back within its own", x.paste(2, 3, 2, 0, 9), 0);
        due("as they were: two are so", x.log(2), 2);
        due("none, behind the last", x.paste(0, 60, 1, 60, 0), 0);
        x.row(3, 0, 0);
        due("none of an empty row", x.paste(3, 0, 3, 0, 0), 0);
        due("one of an empty row", x.paste(3, 0, 0, 0, 1), -7);
        due("one to an empty row", x.paste(0, 0, 3, 0, 1), -7);
        says(64, "-2: there is no such SLOT; -6: one has nothing; -8: they are not of one WIDTH; "
            + "-7, and nothing happens: some are beyond their rows, or a place or n is below 0.");
        bounds("paste(v, 0, 0, 0, 0)", (y, v) -> y.paste(v, 0, 0, 0, 0), 0, 3, NO);
        bounds("paste(0, 0, v, 0, 0)", (y, v) -> y.paste(0, 0, v, 0, 0), 0, 3, NO);
        bounds("paste(3, -1, v, 0, 0)", (y, v) -> y.paste(3, -1, v, 0, 0), 0, 3, NO);
        bounds("paste(0, v, 0, 0, 1)", (y, v) -> y.paste(0, v, 0, 0, 1), 0, 5, -7);
        bounds("paste(0, 0, 0, v, 1)", (y, v) -> y.paste(0, 0, 0, v, 1), 0, 5, -7);
        bounds("paste(0, 0, 0, 0, v)", (y, v) -> y.paste(0, 0, 0, 0, v), 0, 6, -7);
        bounds("paste(0, 1, 0, 0, v)", (y, v) -> y.paste(0, 1, 0, 0, v), 0, 5, -7);
        bounds("paste(0, 0, 0, 1, v)", (y, v) -> y.paste(0, 0, 0, 1, v), 0, 5, -7);
        bounds("paste(2, v, 2, 0, 60 less v)", (y, v) -> y.paste(2, v, 2, 0, 60 - v), 0, 60, -7);
        bounds("paste(2, v, 2, 59, 1)", (y, v) -> y.paste(2, v, 2, 59, 1), 0, 59, -7);
        int[][] far = {{MAX, 0, MAX}, {0, MAX, MAX}, {MAX, MAX, MAX}, {1, 1, MAX}, {MIN, MIN, MIN}, {MIN, 0, MAX}, {0, MIN, MAX}, {-1, -1, 2}, {6, 6, 1}, {7, 7, 0}};
        for (int[] f : far) {
            stays("paste(0, " + f[0] + ", 0, " + f[1] + ", " + f[2] + ")", BUSY_ONE, y -> y.paste(0, f[0], 0, f[1], f[2]), -7);
            stays("paste(0, .., 1), not of one width", BUSY_ONE, y -> y.paste(0, f[0], 1, f[1], f[2]), -8);
            stays("paste(0, .., 3), nothing there", BUSY_ONE, y -> y.paste(0, f[0], 3, f[1], f[2]), -6);
            stays("paste(3, .., 0), nothing there", BUSY_ONE, y -> y.paste(3, f[0], 0, f[1], f[2]), -6);
            stays("paste(3, .., 4)", BUSY_ONE, y -> y.paste(3, f[0], 4, f[1], f[2]), NO);
            stays("paste(-1, .., 3)", BUSY_ONE, y -> y.paste(-1, f[0], 3, f[1], f[2]), NO);
        }
    }

    // ---------------------------------------------------------------- all calls

    /** Calls that only ask leave all as it was. */
    private static void asking() {
        promise = TERMS;
        sentence = "asking changes nothing";
        Ask[] all = {x -> x.fault(0), x -> x.church(0, 0), x -> x.ear(0, 0), x -> x.takes(0, 0), BellBay::strikes, x -> x.strike(0, 0), x -> x.lost(0),
            x -> x.hour(0, 0), x -> x.many(0), x -> x.when(0, 0), x -> x.led(0, 0), x -> x.agree(0), x -> x.noon(3, 0), x -> x.ship(0, 1, 0), BellBay::quiet,
            x -> x.night(3, 0), x -> x.spare(1, 0), x -> x.needs(1), x -> x.harm(0), x -> x.pan(0, 0, 1), x -> x.boy(0, 1), x -> x.gain(5), x -> x.passes(0, 0),
            x -> x.wave(0), x -> x.depth(0), x -> x.source(0), x -> x.lap(0), x -> x.gap(0), x -> x.waits(0, 0), x -> x.rank(0), x -> x.common(0),
            x -> x.strayed(0), BellBay::splits, x -> x.silence(0), x -> x.spread(3), x -> x.without(6), x -> x.unheard(0), BellBay::key, BellBay::wise,
            x -> x.behind(0, 1, 0), x -> x.log(0), x -> x.soon(0), x -> x.hush(1), x -> x.began(0, 5, 3), x -> x.first(0, 5, 3, 0), x -> x.sure(0, 5, 3),
            x -> x.odd(0), x -> x.drawn(5, 5, 0), x -> x.chance(5, 5, 5, 0, 3), x -> x.bets(1), x -> x.count(0)};
        for (int i = 0; i < all.length; i++) {
            Ask ask = all[i];
            stays("asking, " + i, BUSY_ONE, x -> ask.of(x) * 0, 0);
            stays("asking a new one, " + i, NEW_ONE, x -> ask.of(x) * 0, 0);
        }
        BellBay x = busy();
        long[] before = new long[all.length];
        for (int i = 0; i < all.length; i++) {
            before[i] = all[i].of(x);
        }
        for (int i = all.length - 1; i >= 0; i--) {
            due("asking again, " + i, all[i].of(x), before[i]);
        }
    }

    public static void main(String[] args) throws Exception {
        readDocument(args.length > 1 ? args[1] : "../shared/DOC.md");
        lines();
        tokens();
        crowds();
        dues();
        unless();
        onTheWay();
        funerals();
        ends();
        draws();
        for (int i = 1; i <= 64; i++) {
            BellBayEdges.class.getDeclaredMethod("e" + i).invoke(null);
        }
        asking();
        nothingIsLeftOut();
        System.out.println(asked + " answers asked, " + wrong + " not as due");
        if (wrong != 0) {
            System.exit(1);
        }
    }
}
