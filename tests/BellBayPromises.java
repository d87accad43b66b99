import java.util.Arrays;

/** Promise by promise: answers that were worked out by hand from the document. */
public final class BellBayPromises {
    private static final int NONE = -1;
    private static final int LONE = -2000000;
    private static int wrong = 0;
    private static int asked = 0;
    private static String promise = "";

    private static void due(String call, long got, long want) {
        asked++;
        if (got != want) {
            wrong++;
            System.out.println(promise + ": " + call + " answered " + got + ", due is " + want);
        }
    }

    // ---------------------------------------------------------------- bays

    private static int put(BellBay x, String text) {
        byte[] bytes = text.getBytes(java.nio.charset.StandardCharsets.ISO_8859_1);
        byte[] padded = Arrays.copyOf(bytes, (bytes.length + 19) / 20 * 20);
        java.nio.IntBuffer ints = java.nio.ByteBuffer.wrap(padded).asIntBuffer();
        int before = x.count(5);
        while (ints.hasRemaining()) {
            x.feed(ints.get(), ints.get(), ints.get(), ints.get(), ints.get());
        }
        return x.end(before + bytes.length);
    }

    private static BellBay of(String text) {
        BellBay x = new BellBay();
        put(x, text);
        if (x.bay() <= 0) {
            wrong++;
            System.out.println(promise + ": a bay that is right was refused: " + text + " at " + x.fault(1));
        }
        return x;
    }

    /**
     * Strikes: 0: second 1, church 0; 1: second 4, church 1; 2: second 10, church 2 (heard at 8, 2 late);
     * 3: second 17, church 0 (5 against a wind of 2 is 7); in second 18 church 1 is too proud. Hour 3 all.
     */
    private static BellBay round() {
        return of("bay churches 3 seconds 20; church eager rests 0; church proud rests 2; church late 2 rests 0;"
            + "ear 1 of 0 takes 3 along; ear 2 of 1 takes 4 across; ear 0 of 2 takes 5 against;"
            + "wind at 5 along 2; starts 0 at 1 hour 3;");
    }

    /** Two churches that hear each other: two strikes a second, the 300th in second 149. */
    private static BellBay full() {
        return of("bay churches 2 seconds 300; ear 0 of 1 takes 1 across; ear 1 of 0 takes 1 across;"
            + "starts 0 at 0 hour 1; starts 1 at 0 hour 1;");
    }

    /** One start, and from church 0 two ways to church 3, by 1 and by 2. */
    private static BellBay fork() {
        return of("bay churches 4 seconds 30; ear 1 of 0 takes 2 across; ear 2 of 0 takes 3 across;"
            + "ear 3 of 1 takes 4 across; ear 3 of 2 takes 4 across; starts 0 at 0 hour 7;");
    }

    private static BellBay nothing() {
        return new BellBay();
    }

    private static void lay(BellBay x, int slot, int width, long... numbers) {
        x.row(slot, width, numbers.length);
        for (int i = 0; i < numbers.length; i++) {
            x.write(slot, i, numbers[i]);
        }
    }

    // ---------------------------------------------------------------- 1 to 5: the tape

    private static void p1() {
        BellBay x = nothing();
        due("NONE", BellBay.NONE, -1);
        for (int what = 0; what <= 8; what++) {
            due("count(" + what + ")", x.count(what), 0);
        }
        due("strikes()", x.strikes(), -2);
        due("church(0, 0)", x.church(0, 0), -2);
        due("back(0)", x.back(0), -6);
    }

    private static void p2() {
        BellBay x = nothing();
        due("feed", x.feed(0x62617920, 0x63687572, 0x63686573, 0x20312073, 0x65636f6e), 20);
        due("feed", x.feed(0x64732039, 0x3b202020, 0x20202020, 0x20202020, 0x20202020), 40);
        due("bay()", x.bay(), 1);
        due("count(1)", x.count(1), 9);
        for (int i = 1; i <= 100; i++) {
            due("feed", x.feed(0x20202020, 0x20202020, 0x20202020, 0x20202020, 0x20202020), 20 * i);
        }
        due("feed beyond", x.feed(0, 0, 0, 0, 0), NONE);
        due("count(5)", x.count(5), 2000);
        due("bay()", x.bay(), 0);
        for (int i = 1; i <= 99; i++) {
            x.feed(0, 0, 0, 0, 0);
        }
        due("end(1981)", x.end(1981), NONE);
        due("end(1979)", x.end(1979), 1979);
        due("feed", x.feed(0, 0, 0, 0, 0), 1999);
        due("feed beyond", x.feed(0, 0, 0, 0, 0), NONE);
        due("end(1980)", x.end(1980), 1980);
        due("feed", x.feed(-1, -1, -1, -1, -1), 2000);
        due("bay()", x.bay(), -4);
        due("fault(1)", x.fault(1), 0);
    }

    private static void p3() {
        BellBay x = nothing();
        due("end(0)", x.end(0), 0);
        due("end(1)", x.end(1), NONE);
        x.feed(0, 0, 0, 0, 0);
        due("end(21)", x.end(21), NONE);
        due("end(-1)", x.end(-1), NONE);
        due("end(min)", x.end(Integer.MIN_VALUE), NONE);
        due("end(max)", x.end(Integer.MAX_VALUE), NONE);
        due("count(5)", x.count(5), 20);
        due("end(20)", x.end(20), 20);
        due("end(7)", x.end(7), 7);
        due("end(8)", x.end(8), NONE);
        due("count(5)", x.count(5), 7);
        due("feed", x.feed(1, 2, 3, 4, 5), 27);
    }

    private static void p4() {
        BellBay x = round();
        due("count(4)", x.count(4), 9);
        due("count(5)", x.count(5), 0);
        x.muffle(1, 1);
        x.cut(2, 1);
        put(x, "bay churches 1 seconds 301;");
        due("bay() faulty", x.bay(), -4);
        due("count(5)", x.count(5), 0);
        due("count(0)", x.count(0), 3);
        due("count(6)", x.count(6), 2);
        due("count(7)", x.count(7), 4);
        put(x, "bay churches 2 seconds 5;ear 0 of 1 takes 1 across;ear 1 of 0 takes 1 across;ear 1 of 0 takes 1 across;");
        due("strikes() of the old one", x.strikes(), 1);
        due("bay() anew", x.bay(), 4);
        due("count(6)", x.count(6), 0);
        due("count(7)", x.count(7), 0);
        due("count(3)", x.count(3), 0);
        due("strikes()", x.strikes(), 0);
        put(x, " \n ");
        due("bay() of blanks", x.bay(), 0);
        due("count(1)", x.count(1), 0);
        due("count(0)", x.count(0), 0);
        due("strikes()", x.strikes(), -2);
        BellBay y = round();
        put(y, "bay churches 2 seconds 9; church late 7 rests 6; church proud rests 5; ear 0 of 1 takes 2 across; starts 1 at 3 hour 8;");
        due("bay() with church LINES in place of one with church LINES", y.bay(), 5);
        int[] churches = {2, 7, 6, 0, 1, 0, 5, 0};
        for (int i = 0; i < churches.length; i++) {
            due("church(" + i / 4 + ", " + i % 4 + ") anew", y.church(i / 4, i % 4), churches[i]);
        }
        put(y, "bay churches 1 seconds 9; church proud rests 1; church");
        due("bay() with a church too many", y.bay(), -4);
        due("fault(0)", y.fault(0), 3);
        put(y, "bay churches 1 seconds 9; church proud rests 1; starts 0 at 0 hour 1; starts 0 at 2 hour 1; starts 0 at 3 hour 2;");
        due("bay() behind that", y.bay(), 5);
        due("strikes() behind that", y.strikes(), 2);
        due("bay() of nothing", nothing().bay(), 0);
        due("bay of most", of("bay churches 9 seconds 300;").count(1), 300);
        due("no blanks", of("bay churches1seconds1;starts0at0hour1;").strikes(), 1);
        due("zeros ahead", of("bay churches 0009\nseconds 0300;").count(0), 9);
    }

    private static void faulty(String text, int kind, int place) {
        BellBay x = nothing();
        put(x, text);
        due("bay() of " + text, x.bay(), kind == 0 ? 1 : -4);
        due("fault(0) of " + text, x.fault(0), kind);
        due("fault(1) of " + text, x.fault(1), place);
        due("count(0) of " + text, x.count(0), kind == 0 ? 1 : 0);
    }

    private static void p5() {
        due("fault(0)", nothing().fault(0), 0);
        due("fault(1)", nothing().fault(1), NONE);
        due("fault(2)", nothing().fault(2), NONE);
        due("fault(-1)", round().fault(-1), NONE);
        String bay = "bay churches 2 seconds 9;";
        faulty("bay churches 1 seconds 9;", 0, NONE);
        faulty("church eager rests 0;", 1, 0);
        faulty("  ;", 1, 2);
        faulty(";", 1, 0);
        faulty("bay", 1, 3);
        faulty("bay churches 1 seconds 9", 1, 24);
        faulty("bay churches 1 seconds 9  ", 1, 26);
        faulty("bay churches 0 seconds 9;", 2, 13);
        faulty("bay churches 10 seconds 9;", 2, 13);
        faulty("bay churches 1 seconds 0;", 2, 23);
        faulty("bay churches 1 seconds 301;", 2, 23);
        faulty("bay churches 1 seconds 99999999999999999999;", 2, 23);
        faulty("bay churches 4294967297 seconds 9;", 2, 13);
        faulty("bay churches -1 seconds 9;", 1, 13);
        faulty("Bay churches 1 seconds 9;", 1, 0);
        faulty("bays churches 1 seconds 9;", 1, 0);
        faulty("bayz churches 1 seconds 9;", 1, 0);
        faulty("bay{churches 1 seconds 9;", 1, 3);
        faulty("bay churches 1/seconds 9;", 1, 14);
        faulty("bay churches 1 seconds 9:", 1, 24);
        faulty("bay churches 1 seconds 9;\t", 1, 25);
        faulty("bay churches 1 seconds 9;" + (char) 233, 1, 25);
        faulty(bay + bay, 1, 25);
        faulty(bay + ";", 1, 25);
        faulty(bay + "bell;", 1, 25);
        faulty(bay + "7;", 1, 25);
        faulty(bay + "church eager rests 100;", 2, 44);
        faulty(bay + "church late 0 rests 1;", 2, 37);
        faulty(bay + "church late 61 rests 1;", 2, 37);
        faulty(bay + "church late rests 1;", 1, 37);
        faulty(bay + "church rests 1;", 1, 32);
        faulty(bay + "ear 0 of 0 takes 1 along;", 2, 34);
        faulty(bay + "ear 2 of 0 takes 1 along;", 2, 29);
        faulty(bay + "ear 0 of 2 takes 1 along;", 2, 34);
        faulty(bay + "ear 0 of 1 takes 0 along;", 2, 42);
        faulty(bay + "ear 0 of 1 takes 61 along;", 2, 42);
        faulty(bay + "ear 0 of 1 takes 1 wide;", 1, 44);
        faulty(bay + "wind at 9 along 1;", 2, 33);
        faulty(bay + "wind at 8 along 21;", 2, 41);
        faulty(bay + "wind at 8 across 1;", 1, 35);
        faulty(bay + "fog on 0 from 1 to 2;", 2, 32);
        faulty(bay + "deaf 2 from 1 to 2;", 2, 30);
        faulty(bay + "deaf 1 from 9 to 9;", 2, 37);
        faulty(bay + "deaf 1 from 3 to 2;", 2, 42);
        faulty(bay + "deaf 1 from 3 to 9;", 2, 42);
        faulty(bay + "deaf 1 from 3 2;", 1, 39);
        faulty(bay + "funeral at 2 from 1 to 2;", 2, 36);
        faulty(bay + "starts 2 at 1 hour 2;", 2, 32);
        faulty(bay + "starts 1 at 9 hour 2;", 2, 37);
        faulty(bay + "starts 1 at 1 hour 0;", 2, 44);
        faulty(bay + "starts 1 at 1 hour 100;", 2, 44);
        due("the last of all", of(bay + "church late 1 rests 99;church late 60 rests 0;ear 1 of 0 takes 60 along;wind at 8 against 20;"
            + "fog on 0 from 8 to 8;deaf 1 from 8 to 8;funeral at 1 from 8 to 8;starts 1 at 8 hour 99;").count(4), 9);
        due("the first of all", of(bay + "church late 1 rests 0;ear 0 of 1 takes 1 along;wind at 0 against 0;"
            + "fog on 0 from 0 to 8;deaf 0 from 0 to 0;funeral at 0 from 0 to 0;starts 0 at 0 hour 1;").count(4), 8);
        crowds(bay);
        BellBay x = nothing();
        put(x, "bay churches 0 seconds 9;");
        x.bay();
        due("fault(0)", x.fault(0), 2);
        put(x, bay);
        x.bay();
        due("fault(0)", x.fault(0), 0);
        due("fault(1)", x.fault(1), NONE);
    }

    private static void crowds(String bay) {
        String[] lines = {"church eager rests 0;", "ear 0 of 1 takes 1 along;", "starts 0 at 0 hour 1;",
            "wind at 0 along 1;", "fog on 0 from 0 to 0;", "deaf 0 from 0 to 0;", "funeral at 0 from 0 to 0;"};
        int[] most = {2, 12, 4, 6, 6, 6, 6};
        for (int k = 0; k < lines.length; k++) {
            String ahead = bay + (k == 4 ? lines[1] : "") + lines[k].repeat(most[k]);
            due("most of " + lines[k], of(ahead).count(4), most[k] + (k == 4 ? 2 : 1));
            faulty(ahead + lines[k], 3, ahead.length());
            faulty(ahead + "  " + lines[k].substring(0, lines[k].indexOf(' ')) + " wrong;", 3, ahead.length() + 2);
        }
    }

    // ---------------------------------------------------------------- 6 to 8: what is told

    private static void p6() {
        BellBay x = of("bay churches 4 seconds 20; church eager rests 99; church proud rests 2; church late 60 rests 0;");
        int[][] all = {{0, 0, 99, 0}, {1, 0, 2, 0}, {2, 60, 0, 1}, {0, 0, 0, 0}};
        x.muffle(2, 1);
        for (int c = 0; c < 4; c++) {
            for (int what = 0; what < 4; what++) {
                due("church(" + c + ", " + what + ")", x.church(c, what), all[c][what]);
            }
        }
        due("church(4, 0)", x.church(4, 0), -2);
        due("church(-1, 0)", x.church(-1, 0), -2);
        due("church(0, 4)", x.church(0, 4), -2);
        due("church(0, -1)", x.church(0, -1), -2);
    }

    private static void p7() {
        BellBay x = round();
        x.cut(2, 1);
        int[][] all = {{1, 0, 3, 1, 0}, {2, 1, 4, 0, 0}, {0, 2, 5, 2, 1}};
        for (int e = 0; e < 3; e++) {
            for (int what = 0; what < 5; what++) {
                due("ear(" + e + ", " + what + ")", x.ear(e, what), all[e][what]);
            }
        }
        due("ear(3, 0)", x.ear(3, 0), -2);
        due("ear(-1, 0)", x.ear(-1, 0), -2);
        due("ear(0, 5)", x.ear(0, 5), -2);
        due("ear(0, -1)", x.ear(0, -1), -2);
    }

    private static void p8() {
        sixWinds();
        BellBay x = round();
        due("takes(0, 4)", x.takes(0, 4), 3);
        due("takes(0, 5)", x.takes(0, 5), 1);
        due("takes(0, 19)", x.takes(0, 19), 1);
        due("takes(1, 5)", x.takes(1, 5), 4);
        due("takes(2, 4)", x.takes(2, 4), 5);
        due("takes(2, 5)", x.takes(2, 5), 7);
        due("takes(3, 0)", x.takes(3, 0), -2);
        due("takes(0, 20)", x.takes(0, 20), -2);
        due("takes(0, -1)", x.takes(0, -1), -2);
        BellBay y = of("bay churches 2 seconds 40; ear 0 of 1 takes 9 along; ear 1 of 0 takes 9 against;"
            + "wind at 30 along 20; wind at 10 against 4; wind at 20 along 8; wind at 20 along 3; wind at 35 along 0;");
        int[][] all = {{0, 9, 9}, {9, 9, 9}, {10, 13, 5}, {19, 13, 5}, {20, 6, 12}, {29, 6, 12}, {30, 1, 29}, {35, 9, 9}};
        for (int[] one : all) {
            due("takes(0, " + one[0] + ")", y.takes(0, one[0]), one[1]);
            due("takes(1, " + one[0] + ")", y.takes(1, one[0]), one[2]);
        }
        BellBay z = of("bay churches 2 seconds 40; ear 0 of 1 takes 5 against; wind at 0 against 20;");
        due("takes against, 1 at least", z.takes(0, 0), 1);
    }

    // ---------------------------------------------------------------- 9 to 19: strikes as they are

    private static void p9() {
        due("strikes()", round().strikes(), 4);
        due("strikes() full", full().strikes(), 300);
        due("strikes() of no start", of("bay churches 1 seconds 1;").strikes(), 0);
        due("strikes()", nothing().strikes(), -2);
    }

    private static void p10() {
        BellBay x = round();
        int[][] all = {{1, 0, 3, NONE, NONE}, {4, 1, 3, 0, 0}, {10, 2, 3, 1, 1}, {17, 0, 3, 2, 2}};
        for (int i = 0; i < 4; i++) {
            for (int what = 0; what < 5; what++) {
                due("strike(" + i + ", " + what + ")", x.strike(i, what), all[i][what]);
            }
        }
        due("strike(4, 0)", x.strike(4, 0), NONE);
        due("strike(-1, 0)", x.strike(-1, 0), NONE);
        due("strike(0, 5)", x.strike(0, 5), -2);
        due("strike(0, -1)", x.strike(0, -1), -2);
        due("strike(9, 5)", x.strike(9, 5), -2);
        due("strike(0, 0) of no bay", nothing().strike(0, 0), -2);
        BellBay y = full();
        due("strike(299, 0)", y.strike(299, 0), 149);
        due("strike(299, 1)", y.strike(299, 1), 1);
        due("strike(299, 3)", y.strike(299, 3), 296);
        due("strike(300, 0)", y.strike(300, 0), NONE);
    }

    /** The order of what is due in one second: the greatest hour, then starts as told, then as it was sent. */
    private static void meetings() {
        BellBay x = of("bay churches 3 seconds 20; ear 2 of 0 takes 5 across; ear 2 of 1 takes 5 across;"
            + "ear 2 of 0 takes 5 across; starts 1 at 0 hour 4; starts 0 at 0 hour 4; starts 2 at 5 hour 3;");
        due("the one of church 0 is sent first", x.strike(2, 3), 0);
        due("by ear 0", x.strike(2, 4), 0);
        due("hour", x.strike(2, 2), 4);
        due("lost(7)", x.lost(7), 3);
        BellBay y = of("bay churches 2 seconds 20; ear 1 of 0 takes 5 across;"
            + "starts 0 at 0 hour 4; starts 1 at 5 hour 4; starts 1 at 5 hour 4;");
        due("a start is ahead of what is heard", y.strike(1, 3), NONE);
        due("lost(7)", y.lost(7), 2);
        BellBay z = of("bay churches 2 seconds 20; ear 1 of 0 takes 5 across; starts 0 at 0 hour 5; starts 1 at 5 hour 4;");
        due("a greater hour is ahead of a start", z.strike(1, 3), 0);
    }

    /** The one start is moved so that it is heard in each SECOND from 1 on; the six are of SECONDS 2 to 4, 12 to 14, .. */
    private static void sixOfEach() {
        String[] lines = {"fog on 0", "deaf 1", "funeral at 1"};
        int[] within = {0, 0, 6};
        for (int kind = 0; kind < 3; kind++) {
            StringBuilder text = new StringBuilder("bay churches 2 seconds 70; ear 1 of 0 takes 1 across; starts 0 at 0 hour 5;");
            for (int i = 0; i < 6; i++) {
                text.append(lines[kind]).append(" from ").append(10 * i + 2).append(" to ").append(10 * i + 4).append(";");
            }
            BellBay x = of(text.toString());
            x.keep(0);
            x.bay();
            x.back(0);
            for (int heard = 1; heard < 70; heard++) {
                boolean in = heard < 60 && heard % 10 >= 2 && heard % 10 <= 4;
                x.shift(0, heard - 1);
                due("six of " + lines[kind] + ", heard in " + heard, x.hour(1, 69), in ? within[kind] : 5);
            }
        }
    }

    private static void sixWinds() {
        StringBuilder text = new StringBuilder("bay churches 2 seconds 70; ear 1 of 0 takes 30 along;");
        for (int i = 5; i >= 0; i--) {
            text.append("wind at ").append(10 * i + 5).append(i % 2 == 0 ? " along " : " against ").append(3 * i + 1).append(";");
        }
        BellBay x = of(text.toString());
        int[] takes = {30, 29, 34, 23, 40, 17, 46};
        for (int second = 0; second < 70; second++) {
            due("takes(0, " + second + ") by six winds", x.takes(0, second), takes[Math.min((second + 5) / 10, 6)]);
        }
    }

    private static void p11() {
        sixOfEach();
        BellBay x = round();
        int[] losses = {0, 0, 0, 1, 0, 0, 0, 0};
        for (int what = 0; what < 8; what++) {
            due("lost(" + what + ")", x.lost(what), losses[what]);
        }
        due("lost(8)", x.lost(8), -2);
        due("lost(-1)", x.lost(-1), -2);
        due("lost(0) of no bay", nothing().lost(0), -2);
        BellBay fog = of("bay churches 2 seconds 9; ear 1 of 0 takes 2 across; ear 1 of 0 takes 3 across;"
            + "fog on 0 from 2 to 4; deaf 1 from 2 to 3; starts 0 at 0 hour 1; starts 0 at 2 hour 1; starts 0 at 3 hour 1;");
        due("fog: at 2 and 4", fog.lost(0), 2);
        due("deaf: at 3", fog.lost(1), 1);
        due("strikes of church 1: at 5 by each, and 6", fog.many(1), 2);
        due("lost(7)", fog.lost(7), 1);
        BellBay rest = of("bay churches 1 seconds 20; church eager rests 3; starts 0 at 2 hour 1; starts 0 at 5 hour 1;"
            + "starts 0 at 6 hour 1; starts 0 at 10 hour 1;");
        due("rest: at 5", rest.lost(2), 1);
        due("no rest: at 2, 6, 10", rest.strikes(), 3);
        BellBay proud = of("bay churches 1 seconds 20; church proud rests 0; starts 0 at 2 hour 4; starts 0 at 5 hour 4;"
            + "starts 0 at 6 hour 5; starts 0 at 7 hour 4;");
        due("proud: at 5, 7", proud.lost(3), 2);
        due("proud strikes: 2, 6", proud.strikes(), 2);
        proud.muffle(0, 1);
        due("muffled", proud.lost(4), 4);
        due("no longer proud", proud.lost(3), 0);
        ends();
        meetings();
    }

    private static void ends() {
        BellBay last = of("bay churches 2 seconds 10; church eager rests 0; church late 3 rests 0;"
            + "ear 1 of 0 takes 2 across; ear 0 of 1 takes 1 across; starts 0 at 4 hour 99; starts 0 at 5 hour 99; starts 0 at 8 hour 99;");
        due("strikes at 4, 5, 8, 9", last.strikes(), 4);
        due("behind the last: heard at 10 twice, late at 10", last.lost(5), 3);
        BellBay high = of("bay churches 2 seconds 10; ear 1 of 0 takes 2 across; ear 1 of 0 takes 3 across;"
            + "funeral at 1 from 0 to 2; funeral at 1 from 2 to 2; starts 0 at 0 hour 99; starts 0 at 1 hour 98;");
        due("hours above 99", high.lost(6), 1);
        due("98 at 3", high.hour(1, 3), 99);
        BellBay order = of("bay churches 2 seconds 9; church eager rests 0; church late 9 rests 0; ear 1 of 0 takes 2 across;"
            + "ear 1 of 0 takes 9 across; fog on 0 from 0 to 8; fog on 1 from 0 to 8; deaf 1 from 0 to 8; starts 0 at 0 hour 99;");
        due("fog ahead of the deaf", order.lost(0), 1);
        due("none on the deaf", order.lost(1), 0);
        due("the end ahead of fog", order.lost(5), 1);
        BellBay longest = of("bay churches 2 seconds 300; ear 1 of 0 takes 1 across; ear 1 of 0 takes 60 across; funeral at 1 from 299 to 299;"
            + "starts 0 at 299 hour 99; starts 0 at 298 hour 98;");
        due("heard at 300, 358 and 359", longest.lost(5), 3);
        due("heard at 299", longest.hour(1, 299), 99);
        due("none above 99", longest.lost(6), 0);
        BellBay late = of("bay churches 2 seconds 9; church eager rests 0; church late 9 rests 0; ear 1 of 0 takes 2 across;"
            + "funeral at 1 from 0 to 8; starts 0 at 0 hour 99;");
        due("99 and one more ahead of lateness", late.lost(6), 1);
        due("not late", late.lost(5), 0);
        BellBay cap = full();
        for (int what = 0; what < 8; what++) {
            due("full: lost(" + what + ")", cap.lost(what), 0);
        }
    }

    private static void p12() {
        BellBay x = round();
        due("hour(0, 0)", x.hour(0, 0), 0);
        due("hour(0, 1)", x.hour(0, 1), 3);
        due("hour(2, 9)", x.hour(2, 9), 0);
        due("hour(2, 10)", x.hour(2, 10), 3);
        due("hour(1, 19)", x.hour(1, 19), 3);
        due("hour(3, 0)", x.hour(3, 0), -2);
        due("hour(0, 20)", x.hour(0, 20), -2);
        due("hour(0, -1)", x.hour(0, -1), -2);
        due("full: hour(1, 299)", full().hour(1, 299), 1);
        BellBay f = of("bay churches 2 seconds 20; ear 1 of 0 takes 1 across; ear 0 of 1 takes 1 across;"
            + "funeral at 0 from 4 to 5; funeral at 0 from 4 to 4; starts 0 at 0 hour 8;");
        due("before the funeral", f.hour(0, 3), 8);
        due("of several at once one", f.hour(0, 4), 9);
        due("it passes on", f.hour(1, 5), 9);
        due("in the end", f.hour(0, 19), 9);
    }

    private static void p13() {
        BellBay x = round();
        due("many(0)", x.many(0), 2);
        due("many(1)", x.many(1), 1);
        due("many(2)", x.many(2), 1);
        due("many(3)", x.many(3), -2);
        due("many(-1)", x.many(-1), -2);
        due("full: many(1)", full().many(1), 150);
    }

    private static void p14() {
        BellBay x = round();
        due("when(0, 0)", x.when(0, 0), 1);
        due("when(0, 1)", x.when(0, 1), 17);
        due("when(0, 2)", x.when(0, 2), 16);
        due("when(1, 1)", x.when(1, 1), 4);
        due("when(1, 2)", x.when(1, 2), NONE);
        due("when(0, 3)", x.when(0, 3), -2);
        due("when(0, -1)", x.when(0, -1), -2);
        due("when(3, 0)", x.when(3, 0), -2);
        due("when of two at once", of("bay churches 1 seconds 9; starts 0 at 1 hour 1; starts 0 at 4 hour 1;").when(0, 2), 3);
        x.muffle(1, 1);
        due("when(1, 0)", x.when(1, 0), NONE);
        due("when(2, 1)", x.when(2, 1), NONE);
    }

    private static void p15() {
        BellBay x = round();
        due("led(2, 0)", x.led(2, 0), 2);
        due("led(2, 1)", x.led(2, 1), 1);
        due("led(2, 2)", x.led(2, 2), 0);
        due("led(2, 3)", x.led(2, 3), NONE);
        due("led(2, max)", x.led(2, Integer.MAX_VALUE), NONE);
        due("led(2, -1)", x.led(2, -1), NONE);
        due("led(0, 0)", x.led(0, 0), 0);
        due("led(0, 1)", x.led(0, 1), NONE);
        due("led(3, 0)", x.led(3, 0), -2);
        x.muffle(2, 1);
        due("led(2, 0)", x.led(2, 0), NONE);
    }

    private static void p16() {
        BellBay x = round();
        due("agree(0)", x.agree(0), 10);
        due("agree(10)", x.agree(10), 10);
        due("agree(19)", x.agree(19), 19);
        due("agree(20)", x.agree(20), -2);
        due("agree(-1)", x.agree(-1), -2);
        x.muffle(2, 1);
        due("agree(0)", x.agree(0), NONE);
        due("agree(0) of nobody", of("bay churches 1 seconds 3;").agree(0), NONE);
        BellBay y = of("bay churches 2 seconds 20; starts 0 at 2 hour 5; starts 1 at 4 hour 5; starts 0 at 6 hour 6; starts 1 at 9 hour 6;");
        due("agree(0)", y.agree(0), 4);
        due("agree(5)", y.agree(5), 5);
        due("agree(6)", y.agree(6), 9);
    }

    private static void p17() {
        BellBay x = round();
        due("noon(3, 0)", x.noon(3, 0), 1);
        due("noon(3, 1)", x.noon(3, 1), 0);
        due("noon(3, 2)", x.noon(3, 2), 17);
        due("noon(3, 3)", x.noon(3, 3), 4);
        due("noon(4, 0)", x.noon(4, 0), NONE);
        due("noon(4, 1)", x.noon(4, 1), NONE);
        due("noon(4, 2)", x.noon(4, 2), NONE);
        due("noon(4, 3)", x.noon(4, 3), 0);
        due("noon(99, 0)", x.noon(99, 0), NONE);
        due("noon(0, 0)", x.noon(0, 0), -2);
        due("noon(100, 0)", x.noon(100, 0), -2);
        due("noon(3, 4)", x.noon(3, 4), -2);
        due("noon(3, -1)", x.noon(3, -1), -2);
        due("noon(3, 3) of no bay", nothing().noon(3, 3), -2);
    }

    private static void p18() {
        BellBay x = of("bay churches 3 seconds 9; starts 0 at 1 hour 7; starts 1 at 3 hour 9;");
        due("ship(0, 1, 0)", x.ship(0, 1, 0), 0);
        due("ship(0, 1, 1)", x.ship(0, 1, 1), 7);
        due("ship(0, 1, 3)", x.ship(0, 1, 3), -2);
        due("ship(1, 0, 8)", x.ship(1, 0, 8), 2);
        due("ship(2, 1, 8)", x.ship(2, 1, 8), -9);
        due("ship(0, 0, 1)", x.ship(0, 0, 1), LONE);
        due("ship(0, 3, 1)", x.ship(0, 3, 1), LONE);
        due("ship(-1, 0, 1)", x.ship(-1, 0, 1), LONE);
        due("ship(0, 1, 9)", x.ship(0, 1, 9), LONE);
        due("ship(0, 1, -1)", x.ship(0, 1, -1), LONE);
    }

    private static void p19() {
        due("quiet()", round().quiet(), 17);
        due("quiet() full", full().quiet(), 149);
        due("quiet() of nobody", of("bay churches 1 seconds 1;").quiet(), NONE);
        due("quiet()", nothing().quiet(), -2);
        due("quiet() at the last", of("bay churches 1 seconds 300; starts 0 at 299 hour 1;").quiet(), 299);
    }

    // ---------------------------------------------------------------- 20 to 29: muffling, cutting, pans, winds

    private static void p20() {
        BellBay x = round();
        due("muffle(1, 1)", x.muffle(1, 1), 0);
        due("muffle(1, 1)", x.muffle(1, 1), 1);
        due("strikes()", x.strikes(), 1);
        due("lost(4)", x.lost(4), 1);
        due("muffle(1, 0)", x.muffle(1, 0), 1);
        due("muffle(1, 0)", x.muffle(1, 0), 0);
        due("strikes()", x.strikes(), 4);
        due("muffle(3, 1)", x.muffle(3, 1), -2);
        due("muffle(-1, 1)", x.muffle(-1, 1), -2);
        due("muffle(0, 2)", x.muffle(0, 2), -2);
        due("muffle(0, -1)", x.muffle(0, -1), -2);
        due("count(6)", x.count(6), 0);
    }

    private static void p21() {
        BellBay x = round();
        due("cut(1, 1)", x.cut(1, 1), 0);
        due("cut(1, 1)", x.cut(1, 1), 1);
        due("strikes()", x.strikes(), 2);
        due("passes(1, 2)", x.passes(1, 2), 0);
        due("cut(1, 0)", x.cut(1, 0), 1);
        due("cut(1, 0)", x.cut(1, 0), 0);
        due("strikes()", x.strikes(), 4);
        due("cut(3, 1)", x.cut(3, 1), -2);
        due("cut(-1, 1)", x.cut(-1, 1), -2);
        due("cut(0, 2)", x.cut(0, 2), -2);
        due("cut(0, -1)", x.cut(0, -1), -2);
        due("count(7)", x.count(7), 0);
    }

    /** Strikes of the fork: 0 at 0; 1 at 2; 2 at 3; 3 at 6 and at 7. */
    private static void p22() {
        BellBay x = fork();
        due("night(0, 0)", x.night(0, 0), 1);
        due("night(0, 1)", x.night(0, 1), 1);
        due("night(6, 1)", x.night(6, 1), 1);
        due("night(7, 0)", x.night(7, 0), 1);
        due("night(8, 0)", x.night(8, 0), 0);
        due("night(8, 1)", x.night(8, 1), 0);
        due("night(29, 0)", x.night(29, 0), 0);
        due("night(30, 0)", x.night(30, 0), -2);
        due("night(-1, 0)", x.night(-1, 0), -2);
        due("night(0, 2)", x.night(0, 2), -2);
        due("night(0, -1)", x.night(0, -1), -2);
        due("nobody is muffled by asking", x.count(6), 0);
        x.muffle(0, 1);
        due("night(0, 0)", x.night(0, 0), 0);
        BellBay y = of("bay churches 4 seconds 30; starts 3 at 9 hour 1; starts 1 at 9 hour 1; starts 0 at 2 hour 1;");
        due("night(5, 0)", y.night(5, 0), 2);
        due("night(5, 1)", y.night(5, 1), 10);
        due("night(0, 1)", y.night(0, 1), 11);
        y.muffle(3, 1);
        due("night(5, 0)", y.night(5, 0), 1);
        due("night(5, 1)", y.night(5, 1), 2);
        BellBay proud = of("bay churches 2 seconds 30; church eager rests 0; church proud rests 0; ear 1 of 0 takes 3 across;"
            + "starts 0 at 0 hour 9; starts 1 at 7 hour 5;");
        due("church 0 keeps church 1 still", proud.night(5, 0), 0);
        proud.muffle(0, 1);
        due("without it church 1 is needed", proud.night(5, 1), 2);
    }

    private static void p23() {
        BellBay x = round();
        due("spare(2, 0)", x.spare(2, 0), 1);
        due("spare(2, 1)", x.spare(2, 1), 1);
        due("spare(1, 1)", x.spare(1, 1), 1);
        due("spare(0, 0)", x.spare(0, 0), NONE);
        due("spare(0, 1)", x.spare(0, 1), NONE);
        due("spare(3, 0)", x.spare(3, 0), -2);
        due("spare(-1, 0)", x.spare(-1, 0), -2);
        due("spare(0, 2)", x.spare(0, 2), -2);
        due("spare(0, -1)", x.spare(0, -1), -2);
        x.cut(0, 1);
        due("spare(2, 0)", x.spare(2, 0), 0);
        due("spare(2, 1)", x.spare(2, 1), 0);
        BellBay y = fork();
        due("spare(3, 0)", y.spare(3, 0), 2);
        due("spare(3, 1)", y.spare(3, 1), 3);
        y.cut(1, 1);
        due("spare(3, 0)", y.spare(3, 0), 1);
        due("spare(3, 1)", y.spare(3, 1), 1);
        due("nothing is cut by asking", y.count(7), 2);
    }

    private static void p24() {
        BellBay x = round();
        due("needs(2)", x.needs(2), 3);
        due("needs(1)", x.needs(1), 1);
        due("needs(0)", x.needs(0), 0);
        due("needs(3)", x.needs(3), -2);
        due("needs(-1)", x.needs(-1), -2);
        x.cut(0, 1);
        due("needs(2)", x.needs(2), NONE);
        due("needs(0) with one strike in all", x.needs(0), 0);
        BellBay y = fork();
        due("needs(3)", y.needs(3), 0);
        y.cut(3, 1);
        due("needs(3)", y.needs(3), 5);
    }

    private static void p25() {
        BellBay x = round();
        due("harm(0)", x.harm(0), 3);
        due("harm(1)", x.harm(1), 2);
        due("harm(2)", x.harm(2), 1);
        due("harm(3)", x.harm(3), LONE);
        due("harm(-1)", x.harm(-1), LONE);
        due("harm(0) of no bay", nothing().harm(0), LONE);
        x.cut(0, 1);
        due("harm(0) of a cut one", x.harm(0), 0);
        due("harm(1) of none behind a cut one", x.harm(1), 0);
        BellBay y = of("bay churches 2 seconds 30; church eager rests 0; church proud rests 0; ear 1 of 0 takes 3 across;"
            + "starts 0 at 0 hour 9; starts 1 at 7 hour 5; starts 1 at 8 hour 6;");
        due("harm(0) below 0", y.harm(0), -1);
        BellBay z = fork();
        z.cut(0, 1);
        due("harm(2), one being cut", z.harm(2), 0);
        due("harm(1), one being cut", z.harm(1), 2);
    }

    private static void p26() {
        BellBay x = round();
        due("pan(0, 0, 5)", x.pan(0, 0, 5), 1);
        due("pan(1, 0, 5)", x.pan(1, 0, 5), 0);
        due("pan(1, 0, 1)", x.pan(1, 0, 1), 3);
        due("pan(2, 0, 1)", x.pan(2, 0, 1), 2);
        due("pan(0, 1, 3)", x.pan(0, 1, 3), 0);
        due("strikes()", x.strikes(), 4);
        due("count(3)", x.count(3), 1);
        due("pan(3, 0, 1)", x.pan(3, 0, 1), LONE);
        due("pan(0, 20, 1)", x.pan(0, 20, 1), LONE);
        due("pan(0, 0, 0)", x.pan(0, 0, 0), LONE);
        due("pan(0, 0, 100)", x.pan(0, 0, 100), LONE);
        due("pan(0, 0, 1) of no bay", nothing().pan(0, 0, 1), LONE);
        BellBay four = of("bay churches 1 seconds 9; starts 0 at 0 hour 1; starts 0 at 1 hour 1; starts 0 at 2 hour 1; starts 0 at 3 hour 1;");
        due("a fifth start", four.pan(0, 8, 99), 1);
        due("at a start", four.pan(0, 3, 99), 0);
        BellBay fewer = of("bay churches 1 seconds 9; church proud rests 0; starts 0 at 1 hour 1; starts 0 at 2 hour 2;");
        due("fewer", fewer.pan(0, 0, 9), -1);
    }

    private static void p27() {
        BellBay x = round();
        due("boy(0, 1)", x.boy(0, 1), 1);
        due("boy(19, 5)", x.boy(19, 5), 0);
        due("boy(20, 5)", x.boy(20, 5), -2);
        due("boy(-1, 5)", x.boy(-1, 5), -2);
        due("boy(0, 0)", x.boy(0, 0), -2);
        due("boy(0, 100)", x.boy(0, 100), -2);
        due("boy(0, 1) of no bay", nothing().boy(0, 1), -2);
        x.muffle(0, 1);
        due("boy(19, 5) without church 0", x.boy(19, 5), 1);
        BellBay fewer = of("bay churches 1 seconds 9; church proud rests 0; starts 0 at 1 hour 1; starts 0 at 2 hour 2;");
        due("boy of fewer", fewer.boy(0, 9), 0);
    }

    private static void p28() {
        BellBay x = round();
        due("gain(0)", x.gain(0), 0);
        due("gain(1)", x.gain(1), 1);
        due("gain(2)", x.gain(2), 2);
        due("gain(20)", x.gain(20), 2);
        due("gain(-1)", x.gain(-1), -1);
        due("gain(-9)", x.gain(-9), -9);
        due("gain(-10)", x.gain(-10), LONE);
        due("gain(21)", x.gain(21), LONE);
        due("gain(-21)", x.gain(-21), LONE);
        due("gain(0) of no bay", nothing().gain(0), LONE);
        x.muffle(2, 1);
        due("gain(0) with one that makes none", x.gain(0), LONE);
        BellBay y = of("bay churches 1 seconds 9; starts 0 at 8 hour 1;");
        due("gain(-20)", y.gain(-20), 0);
        due("gain(-21)", y.gain(-21), LONE);
        due("gain(20)", y.gain(20), 0);
        due("gain(21)", y.gain(21), LONE);
    }

    private static void p29() {
        BellBay x = round();
        due("passes(0, 0)", x.passes(0, 0), 0);
        due("passes(0, 1)", x.passes(0, 1), 2);
        due("passes(0, 2)", x.passes(0, 2), 2);
        due("passes(2, 1)", x.passes(2, 1), 1);
        due("passes(3, 0)", x.passes(3, 0), -2);
        due("passes(-1, 0)", x.passes(-1, 0), -2);
        due("passes(0, 3)", x.passes(0, 3), -2);
        due("passes(0, -1)", x.passes(0, -1), -2);
        BellBay y = of("bay churches 2 seconds 9; ear 1 of 0 takes 2 across; fog on 0 from 2 to 3; deaf 1 from 4 to 4;"
            + "starts 0 at 0 hour 1; starts 0 at 1 hour 1; starts 0 at 2 hour 1; starts 0 at 3 hour 1;");
        due("fog", y.passes(0, 0), 2);
        due("due", y.passes(0, 1), 1);
        due("out", y.passes(0, 2), 4);
        BellBay z = full();
        due("the 300th does not go out", z.passes(0, 2), 149);
        due("those ahead do", z.passes(1, 2), 150);
    }

    // ---------------------------------------------------------------- 30 to 36: what comes of what

    private static void p30() {
        BellBay x = round();
        due("wave(0)", x.wave(0), 4);
        due("wave(1)", x.wave(1), 3);
        due("wave(3)", x.wave(3), 1);
        due("wave(4)", x.wave(4), NONE);
        due("wave(-1)", x.wave(-1), NONE);
        due("wave(0) of no bay", nothing().wave(0), -2);
        due("fork: wave(0)", fork().wave(0), 5);
        due("fork: wave(1)", fork().wave(1), 2);
        due("full: wave(1)", full().wave(1), 150);
    }

    private static void p31() {
        BellBay x = round();
        due("depth(0)", x.depth(0), 0);
        due("depth(3)", x.depth(3), 3);
        due("depth(4)", x.depth(4), NONE);
        due("depth(-1)", x.depth(-1), NONE);
        due("depth(0) of no bay", nothing().depth(0), -2);
        due("full: depth(299)", full().depth(299), 149);
    }

    private static void p32() {
        BellBay x = round();
        due("source(0)", x.source(0), 0);
        due("source(3)", x.source(3), 0);
        due("source(4)", x.source(4), NONE);
        due("source(-1)", x.source(-1), NONE);
        due("source(0) of no bay", nothing().source(0), -2);
        due("full: source(299)", full().source(299), 0);
        due("full: source(298)", full().source(298), 1);
    }

    private static void p33() {
        BellBay x = round();
        due("lap(0)", x.lap(0), 16);
        due("lap(1)", x.lap(1), NONE);
        due("lap(3)", x.lap(3), -2);
        due("lap(-1)", x.lap(-1), -2);
        due("full: lap(0): not by the other's", full().lap(0), 2);
        BellBay y = of("bay churches 2 seconds 9; starts 0 at 0 hour 1; starts 0 at 2 hour 1;");
        due("lap(0) of two starts", y.lap(0), NONE);
        due("lap(1) without a strike", y.lap(1), NONE);
    }

    private static void p34() {
        BellBay x = round();
        due("gap(0)", x.gap(0), 16);
        due("gap(1)", x.gap(1), NONE);
        due("gap(3)", x.gap(3), -2);
        due("gap(-1)", x.gap(-1), -2);
        BellBay y = of("bay churches 2 seconds 30; starts 0 at 1 hour 1; starts 0 at 4 hour 1; starts 0 at 20 hour 1; starts 0 at 25 hour 1;");
        due("gap(0)", y.gap(0), 16);
        due("gap(1)", y.gap(1), NONE);
    }

    private static void p35() {
        BellBay x = round();
        due("waits(0, 0)", x.waits(0, 0), 1);
        due("waits(0, 1)", x.waits(0, 1), 0);
        due("waits(0, 2)", x.waits(0, 2), 15);
        due("waits(0, 18)", x.waits(0, 18), NONE);
        due("waits(0, 20)", x.waits(0, 20), -2);
        due("waits(0, -1)", x.waits(0, -1), -2);
        due("waits(3, 0)", x.waits(3, 0), -2);
    }

    private static void p36() {
        BellBay x = of("bay churches 5 seconds 30; starts 3 at 1 hour 1; starts 4 at 1 hour 1; starts 0 at 5 hour 1; starts 1 at 5 hour 1;");
        int[] places = {2, 3, NONE, 0, 1};
        for (int c = 0; c < 5; c++) {
            due("rank(" + c + ")", x.rank(c), places[c]);
        }
        due("rank(5)", x.rank(5), -2);
        due("rank(-1)", x.rank(-1), -2);
    }

    // ---------------------------------------------------------------- 37 to 46: hours, what would be

    private static BellBay hours() {
        return of("bay churches 5 seconds 9; starts 3 at 1 hour 8; starts 4 at 2 hour 6; starts 0 at 3 hour 8; starts 1 at 4 hour 6;");
    }

    private static void p37() {
        BellBay x = hours();
        int[] want = {0, 8, 6, 8, 6, 6};
        for (int s = 0; s < want.length; s++) {
            due("common(" + s + ")", x.common(s), want[s]);
        }
        due("common(9)", x.common(9), -2);
        due("common of church 0", of("bay churches 2 seconds 9; starts 0 at 0 hour 4;").common(0), 4);
        due("common(-1)", x.common(-1), -2);
    }

    private static void p38() {
        BellBay x = hours();
        int[] want = {5, 4, 4, 3, 3, 3};
        for (int s = 0; s < want.length; s++) {
            due("strayed(" + s + ")", x.strayed(s), want[s]);
        }
        due("strayed(9)", x.strayed(9), -2);
        due("strayed(-1)", x.strayed(-1), -2);
    }

    private static void p39() {
        due("splits()", hours().splits(), 7);
        due("splits() of one hour", round().splits(), 0);
        due("splits() of no bay", nothing().splits(), -2);
        due("splits() from 0 on", of("bay churches 2 seconds 9; starts 0 at 0 hour 8; starts 1 at 0 hour 9;").splits(), 9);
        due("splits() that end", of("bay churches 3 seconds 9; starts 0 at 1 hour 8; starts 1 at 2 hour 9; starts 0 at 5 hour 9;").splits(), 3);
    }

    private static void p40() {
        BellBay x = round();
        due("silence(0)", x.silence(0), 6);
        due("silence(1)", x.silence(1), 11);
        due("silence(2)", x.silence(2), -2);
        due("silence(-1)", x.silence(-1), -2);
        due("silence(0) of no bay", nothing().silence(0), -2);
        due("all silence", of("bay churches 1 seconds 300;").silence(0), 300);
        due("all silence, from", of("bay churches 1 seconds 300;").silence(1), 0);
        BellBay none = of("bay churches 1 seconds 2; starts 0 at 0 hour 1; starts 0 at 1 hour 1;");
        due("no silence", none.silence(0), 0);
        due("no silence, from", none.silence(1), NONE);
        BellBay two = of("bay churches 1 seconds 8; starts 0 at 0 hour 1; starts 0 at 3 hour 1; starts 0 at 6 hour 1;");
        due("the first of several", two.silence(1), 1);
        BellBay end = of("bay churches 1 seconds 8; starts 0 at 2 hour 1;");
        due("the end's", end.silence(0), 5);
        due("the end's, from", end.silence(1), 3);
        due("full", full().silence(1), 150);
    }

    private static void p41() {
        BellBay x = round();
        due("spread(3)", x.spread(3), 16);
        due("spread(4)", x.spread(4), NONE);
        due("spread(0)", x.spread(0), -2);
        due("spread(100)", x.spread(100), -2);
        due("spread(3) of no bay", nothing().spread(3), -2);
        due("spread(8) of two", hours().spread(8), 2);
        due("spread of one", of("bay churches 1 seconds 8; starts 0 at 2 hour 99;").spread(99), 0);
    }

    private static void p42() {
        BellBay x = round();
        int[] plain = {0, 0, 0, 0, 0, 1, 0};
        for (int what = 0; what < 7; what++) {
            due("without(" + what + ")", x.without(what), plain[what]);
        }
        due("without(7)", x.without(7), LONE);
        due("without(-1)", x.without(-1), LONE);
        due("without(0) of no bay", nothing().without(0), LONE);
        String base = "bay churches 2 seconds 10;";
        String ear = "ear 1 of 0 takes 3 along;starts 0 at 0 hour 99;starts 0 at 1 hour 99;";
        due("fog", of(base + "ear 1 of 0 takes 3 along;fog on 0 from 3 to 3;starts 0 at 0 hour 9;").without(0), 1);
        due("deaf", of(base + ear + "deaf 1 from 3 to 4;").without(1), 2);
        due("funeral", of(base + ear + "funeral at 1 from 4 to 4;").without(2), 1);
        due("wind", of(base + ear + "wind at 0 against 6; wind at 1 against 7;").without(3), 1);
        due("rest", of(base + "church eager rests 0; church eager rests 1;" + ear).without(4), 1);
        due("pride", of(base + "church proud rests 0; church proud rests 0;" + ear).without(5), 2);
        due("lateness", of(base + "church late 60 rests 0; church late 6 rests 0;" + ear).without(6), 1);
        due("wind, to the last second", of(base + "ear 1 of 0 takes 9 along;wind at 0 against 1;starts 0 at 0 hour 9;").without(3), 1);
        due("wind, beyond it", of(base + "ear 1 of 0 takes 10 along;wind at 0 along 1;starts 0 at 0 hour 9;").without(3), -1);
        due("lateness, to the last", of(base + "church eager rests 0;church late 1 rests 0;ear 1 of 0 takes 9 along;starts 0 at 0 hour 9;").without(6), 1);
        due("fewer", of(base + "church eager rests 0; church proud rests 0; deaf 1 from 3 to 3;"
            + "ear 1 of 0 takes 3 across; starts 0 at 0 hour 9; starts 1 at 4 hour 3; starts 1 at 5 hour 4;").without(1), -1);
    }

    private static void p43() {
        BellBay x = round();
        due("unheard(0)", x.unheard(0), 3);
        due("unheard(1)", x.unheard(1), 2);
        due("unheard(3)", x.unheard(3), 0);
        due("unheard(4)", x.unheard(4), LONE);
        due("unheard(-1)", x.unheard(-1), LONE);
        due("unheard(0) of no bay", nothing().unheard(0), LONE);
        BellBay y = of("bay churches 2 seconds 30; church eager rests 0; church proud rests 0; ear 1 of 0 takes 3 across;"
            + "starts 0 at 0 hour 9; starts 1 at 7 hour 5; starts 1 at 8 hour 6;");
        due("unheard(0) below 0", y.unheard(0), -1);
        due("full: unheard(298)", full().unheard(298), 0);
        due("full: unheard(0): what is left has 301", full().unheard(0), 0);
    }

    private static void p44() {
        due("key()", round().key(), 0);
        due("key() of nobody", of("bay churches 1 seconds 1;").key(), NONE);
        due("key() of no bay", nothing().key(), -2);
        BellBay y = of("bay churches 4 seconds 30; church eager rests 0; church proud rests 0; ear 1 of 0 takes 3 across;"
            + "ear 3 of 2 takes 1 across; starts 0 at 0 hour 9; starts 1 at 7 hour 5; starts 1 at 8 hour 6; starts 2 at 20 hour 1;");
        due("key(), others being 0 or below", y.key(), 2);
        BellBay z = of("bay churches 2 seconds 9; starts 0 at 0 hour 1; starts 1 at 0 hour 1;");
        due("key(), the first of several", z.key(), 0);
        due("full: key(), each leaving 300", full().key(), 0);
    }

    private static void p45() {
        due("wise()", round().wise(), 2);
        due("wise() of no bay", nothing().wise(), LONE);
        due("wise() by none", of("bay churches 2 seconds 9; starts 0 at 0 hour 1;").wise(), LONE);
        due("wise(), all alike", of("bay churches 1 seconds 9; starts 0 at 0 hour 1;").wise(), -20);
        BellBay y = of("bay churches 2 seconds 60; ear 1 of 0 takes 9 against; starts 0 at 0 hour 1;");
        due("wise() against", y.wise(), -20);
        BellBay z = of("bay churches 2 seconds 60; ear 1 of 0 takes 30 along; starts 0 at 0 hour 1;");
        due("wise() along", z.wise(), 20);
    }

    private static void p46() {
        BellBay x = of("bay churches 3 seconds 30; ear 1 of 0 takes 4 across; ear 0 of 1 takes 9 across;"
            + "starts 0 at 0 hour 1; starts 0 at 2 hour 2; starts 1 at 1 hour 7; starts 1 at 2 hour 1;");
        due("behind(1, 0, 0): of 1: 2, of 2: 4, of 7: -9", x.behind(1, 0, 0), -3);
        due("behind(1, 0, 1)", x.behind(1, 0, 1), 3);
        due("behind(0, 1, 0)", x.behind(0, 1, 0), 3);
        due("behind(0, 2, 0)", x.behind(0, 2, 0), 0);
        due("behind(0, 2, 1)", x.behind(0, 2, 1), 0);
        BellBay y = of("bay churches 2 seconds 9; starts 0 at 0 hour 99; starts 1 at 5 hour 99;");
        due("hour 99", y.behind(1, 0, 0), 5);
        due("behind(0, 0, 0)", x.behind(0, 0, 0), LONE);
        due("behind(0, 3, 0)", x.behind(0, 3, 0), LONE);
        due("behind(-1, 0, 0)", x.behind(-1, 0, 0), LONE);
        due("behind(0, 1, 2)", x.behind(0, 1, 2), LONE);
        due("behind(0, 1, -1)", x.behind(0, 1, -1), LONE);
    }

    // ---------------------------------------------------------------- 47 to 51: logs and changes

    private static void p47() {
        BellBay x = round();
        due("log(0) of nothing", x.log(0), -6);
        due("log(4)", x.log(4), -2);
        due("log(-1)", x.log(-1), -2);
        lay(x, 0, 0, 9, 2, 0, 10, 2, 3, 19, 0, 3, 0, 0, 3, 4, 1, 2);
        due("log(0)", x.log(0), 2);
        lay(x, 1, 3);
        due("log(1) of an empty row", x.log(1), 0);
        lay(x, 1, 3, 0, 0);
        due("log(1): not three each", x.log(1), -2);
        lay(x, 1, 3, 20, 0, 0);
        due("log(1): no second", x.log(1), -2);
        lay(x, 1, 3, 0, 3, 0);
        due("log(1): no church", x.log(1), -2);
        lay(x, 1, 3, 0, -1, 0);
        due("log(1): no church", x.log(1), -2);
        lay(x, 1, 3, 4294967296L, 0, 0);
        due("log(1): no second", x.log(1), -2);
        lay(x, 1, 3, 1, 0, 4294967299L);
        due("log(1): no such hour", x.log(1), 1);
        due("log(0) of no bay", nothing().log(0), -2);
    }

    private static void p48() {
        BellBay x = round();
        due("strikes()", x.strikes(), 4);
        due("tune(1, 6)", x.tune(1, 6), 4);
        due("tune(1, 5)", x.tune(1, 5), 6);
        due("ear(1, 2)", x.ear(1, 2), 5);
        due("when(2, 0)", x.when(2, 0), 11);
        due("tune(1, 0)", x.tune(1, 0), -2);
        due("tune(1, 61)", x.tune(1, 61), -2);
        due("tune(3, 1)", x.tune(3, 1), -2);
        due("tune(-1, 1)", x.tune(-1, 1), -2);
        due("tune(0, 60)", x.tune(0, 60), 3);
        due("tune(0, 1)", x.tune(0, 1), 60);
    }

    private static void p49() {
        BellBay x = round();
        due("strikes()", x.strikes(), 4);
        due("shift(0, 19)", x.shift(0, 19), 1);
        due("when(0, 0)", x.when(0, 0), 19);
        due("shift(0, 0)", x.shift(0, 0), 19);
        due("when(0, 0)", x.when(0, 0), 0);
        due("shift(0, 20)", x.shift(0, 20), -2);
        due("shift(0, -1)", x.shift(0, -1), -2);
        due("shift(1, 0)", x.shift(1, 0), -2);
        due("shift(-1, 0)", x.shift(-1, 0), -2);
        due("when(0, 0)", x.when(0, 0), 0);
    }

    private static void p50() {
        BellBay x = round();
        due("soon(0): 4 from 0 to 3", x.soon(0), 0);
        due("soon(1)", x.soon(1), -2);
        due("soon(-1)", x.soon(-1), -2);
        due("it is not shifted by asking", x.shift(0, 1), 1);
        BellBay y = of("bay churches 2 seconds 30; church proud rests 0; church eager rests 0; ear 1 of 0 takes 3 across;"
            + "fog on 0 from 0 to 9; starts 0 at 2 hour 9; starts 0 at 12 hour 5;");
        due("soon(0): behind the other and the fog", y.soon(0), 13);
        due("soon(1): ahead of the other", y.soon(1), 0);
    }

    private static void p51() {
        BellBay x = round();
        due("hush(4)", x.hush(4), 0);
        due("hush(300)", x.hush(300), 0);
        due("hush(3)", x.hush(3), 1);
        due("hush(1)", x.hush(1), 1);
        due("hush(0)", x.hush(0), NONE);
        due("hush(-1)", x.hush(-1), -2);
        due("hush(301)", x.hush(301), -2);
        due("hush(0) of no bay", nothing().hush(0), -2);
        BellBay y = fork();
        due("hush(4)", y.hush(4), 1);
        due("hush(3)", y.hush(3), 1);
        due("hush(2)", y.hush(2), 2);
        due("hush(1)", y.hush(1), 2);
        y.cut(0, 1);
        due("hush(1)", y.hush(1), 1);
    }

    // ---------------------------------------------------------------- 52 to 58: who began, draws, bets

    private static void p52() {
        BellBay x = round();
        due("began(0, 5, 3) of nothing", x.began(0, 5, 3), -6);
        lay(x, 0, 0, 10, 2, 3);
        due("began: church 0 at 1, church 1 at 4", x.began(0, 9, 3), 2);
        due("began: up to 3", x.began(0, 3, 3), 1);
        due("began: church 2 itself at 10", x.began(0, 10, 3), 3);
        due("began: up to the last", x.began(0, 19, 3), 3);
        due("began: another hour", x.began(0, 19, 4), 0);
        due("began(0, 20, 3)", x.began(0, 20, 3), -2);
        due("began(0, -1, 3)", x.began(0, -1, 3), -2);
        due("began(0, 5, 0)", x.began(0, 5, 0), -2);
        due("began(0, 5, 100)", x.began(0, 5, 100), -2);
        due("began(4, 5, 3)", x.began(4, 5, 3), -2);
        due("began(1, 20, 3), nothing there", x.began(1, 20, 3), -2);
        lay(x, 1, 2);
        due("an empty row: all", x.began(1, 5, 3), 18);
        lay(x, 1, 2, 1, 1);
        due("not three each", x.began(1, 5, 3), -2);
        lay(x, 1, 2, 20, 1, 1);
        due("no second", x.began(1, 5, 3), -2);
        lay(x, 1, 2, 1, 3, 1);
        due("no church", x.began(1, 5, 3), -2);
        lay(x, 1, 2, 10, 2, 3, 4, 1, 3);
        due("two", x.began(1, 9, 3), 2);
        lay(x, 1, 2, 10, 2, 3, 4, 1, 3, 17, 0, 3, 1, 0, 3);
        due("all four", x.began(1, 9, 3), 1);
        lay(x, 1, 2, 1, 0, 3, 17, 0, 3);
        due("the later behind the sooner", x.began(1, 19, 3), 1);
        lay(x, 1, 2, 1, 0, 3, 4, 1, 3, 10, 2, 3, 17, 0, 3);
        due("all four, in order", x.began(1, 19, 3), 1);
        lay(x, 1, 2, 10, 2, 3, 17, 0, 3);
        due("by 0 at 1, 1 at 4, 2 at 10", x.began(1, 19, 3), 3);
        lay(x, 1, 2, 10, 2, 3, 17, 0, 3, 18, 0, 3);
        due("the last is not so", x.began(1, 19, 3), 0);
        due("nothing is changed by asking", x.strikes(), 4);
        due("began(0, 5, 3) of no bay", nothing().began(0, 5, 3), -2);
        BellBay y = of("bay churches 1 seconds 9;");
        lay(y, 0, 1, 4, 0, 2);
        due("without any start told", y.began(0, 8, 2), 1);
    }

    private static void p53() {
        BellBay x = round();
        due("first of nothing", x.first(0, 5, 3, 0), -6);
        due("first of nothing, no such what", x.first(0, 5, 3, 2), -2);
        lay(x, 0, 0, 10, 2, 3);
        due("church", x.first(0, 9, 3, 0), 0);
        due("second", x.first(0, 9, 3, 1), 1);
        x.cut(0, 1);
        due("church, ear 0 cut", x.first(0, 19, 3, 0), 1);
        due("second, ear 0 cut", x.first(0, 19, 3, 1), 4);
        due("none", x.first(0, 3, 3, 0), NONE);
        due("none", x.first(0, 3, 3, 1), NONE);
        due("first(0, 9, 3, -1)", x.first(0, 9, 3, -1), -2);
        due("first(0, 20, 3, 0)", x.first(0, 20, 3, 0), -2);
        due("first(0, 9, 0, 0)", x.first(0, 9, 0, 0), -2);
        due("first(-1, 9, 3, 0)", x.first(-1, 9, 3, 0), -2);
        due("first of no bay", nothing().first(0, 9, 3, 0), -2);
    }

    private static void p54() {
        BellBay x = round();
        due("sure of nothing", x.sure(0, 5, 3), -6);
        lay(x, 0, 0, 10, 2, 3);
        due("not the same", x.sure(0, 9, 3), NONE);
        due("church 0", x.sure(0, 3, 3), 0);
        due("none", x.sure(0, 0, 3), NONE);
        x.cut(0, 1);
        due("church 1", x.sure(0, 9, 3), 1);
        due("sure(0, 20, 3)", x.sure(0, 20, 3), -2);
        due("sure(0, 9, 100)", x.sure(0, 9, 100), -2);
        due("sure(4, 9, 3)", x.sure(4, 9, 3), -2);
        lay(x, 0, 0, 10, 3, 3);
        due("no church", x.sure(0, 9, 3), -2);
        due("sure of no bay", nothing().sure(0, 9, 3), -2);
    }

    private static void p55() {
        BellBay x = round();
        due("odd of nothing", x.odd(0), -6);
        lay(x, 0, 1, 10, 2, 3, 4, 1, 3);
        due("all are", x.odd(0), NONE);
        lay(x, 0, 1, 10, 2, 3, 5, 1, 3, 4, 1, 2);
        due("the second", x.odd(0), 1);
        lay(x, 0, 1, 10, 2, 4);
        due("the first", x.odd(0), 0);
        lay(x, 0, 1);
        due("an empty row", x.odd(0), NONE);
        lay(x, 0, 1, 10);
        due("not three each", x.odd(0), -2);
        lay(x, 0, 1, 10, 2, 3, -1, 2, 3);
        due("no second", x.odd(0), -2);
        due("odd(4)", x.odd(4), -2);
        due("odd(0) of no bay", nothing().odd(0), -2);
    }

    /** Of seed 0 and n 3: draws 0, 21468, 9988, .. (modulo 7: 0, 6, 6): -3, 3, 3. */
    private static void p56() {
        BellBay x = of("bay churches 2 seconds 100; ear 1 of 0 takes 10 along; starts 0 at 0 hour 1; starts 0 at 29 hour 2;"
            + "starts 0 at 30 hour 3; starts 0 at 60 hour 4;");
        due("drawn(0, 3, 0)", x.drawn(0, 3, 0), 8);
        due("drawn(0, 3, 1): 60 and 7", x.drawn(0, 3, 1), 67);
        due("drawn(0, 3, 2)", x.drawn(0, 3, 2), 3);
        due("drawn(0, 0, 1): as it is", x.drawn(0, 0, 1), 70);
        due("drawn(2000000000, 20, 0)", x.drawn(2000000000, 20, 0), 8);
        due("drawn(2000000001, 0, 0)", x.drawn(2000000001, 0, 0), -2);
        due("drawn(-1, 0, 0)", x.drawn(-1, 0, 0), -2);
        due("drawn(0, 21, 0)", x.drawn(0, 21, 0), -2);
        due("drawn(0, -1, 0)", x.drawn(0, -1, 0), -2);
        due("drawn(0, 0, 3)", x.drawn(0, 0, 3), -2);
        due("drawn(0, 0, -1)", x.drawn(0, 0, -1), -2);
        due("drawn(0, 0, 0) of no bay", nothing().drawn(0, 0, 0), -2);
        BellBay short1 = of("bay churches 2 seconds 13; ear 1 of 0 takes 10 along; starts 0 at 0 hour 1;");
        due("13 is behind the last", short1.drawn(0, 3, 0), 1);
        due("church 0 alone", short1.drawn(0, 3, 2), 1);
        BellBay windy = of("bay churches 2 seconds 13; ear 1 of 0 takes 10 along; wind at 0 along 4; starts 0 at 0 hour 1;");
        due("besides winds told: 9", windy.drawn(0, 3, 1), 9);
        due("nobody", of("bay churches 1 seconds 9;").drawn(0, 3, 1), NONE);
        due("nobody, bits", of("bay churches 1 seconds 9;").drawn(0, 3, 2), 0);
    }

    /** First draws of seeds 0 to 4: 0, 16838, 908, 17747, 1817; modulo 7 less 3: -3, 0, 2, -1, 1. */
    private static void p57() {
        BellBay x = of("bay churches 2 seconds 11; ear 1 of 0 takes 10 along; starts 0 at 0 hour 5;");
        due("chance(0, 1, ..)", x.chance(0, 1, 3, 1, 5), 0);
        due("chance(0, 2, ..)", x.chance(0, 2, 3, 1, 5), 1);
        due("chance(0, 5, ..)", x.chance(0, 5, 3, 1, 5), 3);
        due("chance(2, 1, ..)", x.chance(2, 1, 3, 1, 5), 1);
        due("another hour", x.chance(0, 5, 3, 1, 6), 0);
        due("church 0 always", x.chance(2000000000, 20, 20, 0, 5), 20);
        due("k 0", x.chance(0, 0, 3, 1, 5), -2);
        due("k 21", x.chance(0, 21, 3, 1, 5), -2);
        due("seed -1", x.chance(-1, 1, 3, 1, 5), -2);
        due("seed too high", x.chance(2000000001, 1, 3, 1, 5), -2);
        due("n 21", x.chance(0, 1, 21, 1, 5), -2);
        due("n -1", x.chance(0, 1, -1, 1, 5), -2);
        due("church 2", x.chance(0, 1, 3, 2, 5), -2);
        due("hour 0", x.chance(0, 1, 3, 1, 0), -2);
        due("hour 100", x.chance(0, 1, 3, 1, 100), -2);
        due("no bay", nothing().chance(0, 1, 3, 0, 5), -2);
    }

    private static void p58() {
        BellBay x = round();
        due("bets of nothing", x.bets(0), -6);
        lay(x, 0, 1, 4, 6, 9);
        due("church 2 is 1 off", x.bets(0), 2);
        lay(x, 0, 1, 4, 6, 8);
        due("of several the least", x.bets(0), 1);
        lay(x, 0, 1, 2, 6, 8);
        due("church 0", x.bets(0), 0);
        x.muffle(2, 1);
        lay(x, 0, 1, 19, 19, 10);
        due("church 2 is out", x.bets(0), 1);
        lay(x, 0, 1, 4, 6);
        due("two", x.bets(0), -7);
        lay(x, 0, 1, 4, 6, 10, 3);
        due("four", x.bets(0), -7);
        lay(x, 0, 1, 4, 6, 20, 3);
        due("four, one no second", x.bets(0), -7);
        lay(x, 0, 1);
        due("none", x.bets(0), -7);
        lay(x, 0, 1, 4, 6, 20);
        due("no second", x.bets(0), -2);
        lay(x, 0, 1, -1, 6, 10);
        due("no second", x.bets(0), -2);
        due("bets(4)", x.bets(4), -2);
        due("bets(-1)", x.bets(-1), -2);
        lay(x, 0, 1, 1, 1, 1);
        x.muffle(0, 1);
        due("all are out", x.bets(0), NONE);
        due("bets(0) of no bay", nothing().bets(0), -2);
    }

    // ---------------------------------------------------------------- 59 to 64: counts, images, slots

    private static void p59() {
        BellBay x = round();
        x.muffle(0, 1);
        x.muffle(2, 1);
        x.cut(1, 1);
        x.row(0, 0, 0);
        x.row(3, 0, 1);
        x.feed(1, 2, 3, 4, 5);
        int[] want = {3, 20, 3, 1, 9, 20, 5, 2, 2};
        for (int what = 0; what < want.length; what++) {
            due("count(" + what + ")", x.count(what), want[what]);
        }
        due("count(9)", x.count(9), NONE);
        due("count(-1)", x.count(-1), NONE);
    }

    private static void p60() {
        BellBay x = round();
        due("keep(0)", x.keep(0), 0);
        due("keep(2)", x.keep(2), 0);
        due("keep(3)", x.keep(3), -2);
        due("keep(-1)", x.keep(-1), -2);
        x.muffle(0, 1);
        x.cut(0, 1);
        x.tune(1, 60);
        x.shift(0, 9);
        due("keep(1)", x.keep(1), 0);
        put(x, "bay churches 1 seconds 1;");
        x.bay();
        x.back(0);
        due("muffled", x.count(6), 0);
        due("cut", x.count(7), 0);
        due("tuned", x.ear(1, 2), 4);
        due("strikes()", x.strikes(), 4);
        due("when(0, 0)", x.when(0, 0), 1);
        due("takes(2, 5)", x.takes(2, 5), 7);
        x.back(1);
        due("muffled", x.count(6), 1);
        due("cut", x.count(7), 1);
        due("tuned", x.ear(1, 2), 60);
        due("shifted", x.shift(0, 3), 9);
        x.keep(0);
        x.back(2);
        due("in place of another", x.shift(0, 5), 1);
        x.back(0);
        due("image 0 anew", x.shift(0, 5), 3);
    }

    private static void p61() {
        BellBay x = round();
        due("back(0)", x.back(0), -6);
        due("back(2)", x.back(2), -6);
        due("back(3)", x.back(3), -2);
        due("back(-1)", x.back(-1), -2);
        x.keep(0);
        x.muffle(1, 1);
        due("back(0)", x.back(0), 0);
        due("count(6)", x.count(6), 0);
        x.muffle(2, 1);
        due("back(0) again", x.back(0), 0);
        due("count(6)", x.count(6), 0);
        due("back(1)", x.back(1), -6);
        BellBay y = nothing();
        y.keep(1);
        put(y, "bay churches 1 seconds 9;starts 0 at 0 hour 1;");
        y.bay();
        y.row(2, 0, 3);
        y.feed(0, 0, 0, 0, 0);
        due("back(1) to no bay", y.back(1), 0);
        due("strikes()", y.strikes(), -2);
        due("count(4)", y.count(4), 0);
        due("the tape stays", y.count(5), 20);
        due("slots stay", y.count(8), 1);
    }

    private static void p62() {
        BellBay x = of("bay churches 3 seconds 9;");
        due("row(0, 0, 60)", x.row(0, 0, 60), 0);
        due("row(3, 3, 0)", x.row(3, 3, 0), 0);
        due("row(0, 0, 61)", x.row(0, 0, 61), -2);
        due("row(4, 0, 1)", x.row(4, 0, 1), -2);
        due("row(-1, 0, 1)", x.row(-1, 0, 1), -2);
        due("row(0, 4, 1)", x.row(0, 4, 1), -2);
        due("row(0, -1, 1)", x.row(0, -1, 1), -2);
        due("row(4, 0, -1)", x.row(4, 0, -1), -2);
        due("row(0, 4, -1)", x.row(0, 4, -1), -2);
        due("row(0, 1, -1)", x.row(0, 1, -1), -3);
        due("row(1, 1, min)", x.row(1, 1, Integer.MIN_VALUE), -3);
        due("the slot stays", x.write(0, 59, 1), 0);
        due("the width stays", x.paste(0, 0, 3, 0, 0), -8);
        due("count(8)", x.count(8), 2);
        lay(x, 0, 0, 5, 5, 5);
        due("row anew", x.row(0, 1, 3), 0);
        due("all 0: seconds 0, church 0, hour 0", x.log(0), 0);
    }

    private static void p63() {
        BellBay x = of("bay churches 3 seconds 300; starts 0 at 1 hour 7; starts 0 at 127 hour 8; starts 0 at 257 hour 9;");
        due("write of nothing", x.write(0, 0, 1), -6);
        due("write(4, ..)", x.write(4, 0, 1), -2);
        due("write(-1, ..)", x.write(-1, 0, 1), -2);
        x.row(0, 0, 60);
        due("write(0, 60, 1)", x.write(0, 60, 1), -7);
        due("write(0, -1, 1)", x.write(0, -1, 1), -7);
        due("write(0, 59, 1)", x.write(0, 59, 1), 0);
        long[] over = {256 + 1, 65536 + 1, 4294967296L + 1};
        for (int width = 0; width < 3; width++) {
            lay(x, 1, width, over[width], 0, 7);
            due("cut to width " + width, x.log(1), 0);
        }
        lay(x, 1, 3, over[2], 0, 7);
        due("8 bytes are not cut", x.log(1), -2);
        lay(x, 1, 0, 127, 0, 8);
        due("127 in a byte", x.log(1), 0);
        lay(x, 1, 0, 128, 0, 8);
        due("128 in a byte is below 0", x.log(1), -2);
        lay(x, 1, 1, 257, 0, 9);
        due("257 in two bytes", x.log(1), 0);
        lay(x, 1, 2, 257, 0, 9);
        due("257 in four bytes", x.log(1), 0);
        lay(x, 1, 3, 257, 0, 9);
        due("257 in eight bytes", x.log(1), 0);
    }

    private static void p64() {
        BellBay x = of("bay churches 3 seconds 50; starts 0 at 1 hour 7; starts 1 at 2 hour 8; starts 2 at 3 hour 9;");
        lay(x, 0, 1, 1, 0, 7, 2, 1, 8);
        lay(x, 1, 1, 0, 0, 0, 0, 0, 0, 0, 0, 0);
        due("paste", x.paste(0, 0, 1, 3, 6), 0);
        due("put there", x.odd(1), 0);
        lay(x, 2, 1, 3, 2, 9);
        due("paste", x.paste(2, 0, 1, 0, 3), 0);
        due("all are so", x.odd(1), NONE);
        due("within itself, as they were", x.paste(1, 0, 1, 3, 6), 0);
        due("3 2 9, 3 2 9, 1 0 7", x.odd(1), NONE);
        due("of 3 at 3: sum", x.log(1), 0);
        lay(x, 1, 1, 1, 0, 7, 2, 1, 8, 3, 2, 9);
        due("back within itself", x.paste(1, 3, 1, 0, 6), 0);
        due("2 1 8, 3 2 9, 3 2 9", x.odd(1), NONE);
        due("none", x.paste(0, 6, 1, 9, 0), 0);
        due("beyond the row", x.paste(0, 1, 1, 0, 6), -7);
        due("beyond the other", x.paste(0, 0, 1, 4, 6), -7);
        due("place below 0", x.paste(0, -1, 1, 0, 1), -7);
        due("place below 0", x.paste(0, 0, 1, -1, 1), -7);
        due("n below 0", x.paste(0, 0, 1, 0, -1), -7);
        due("far beyond", x.paste(0, Integer.MAX_VALUE, 1, 0, Integer.MAX_VALUE), -7);
        due("far beyond", x.paste(0, 0, 1, Integer.MAX_VALUE, 1), -7);
        due("none, beyond", x.paste(0, 7, 1, 0, 0), -7);
        due("nothing happened", x.odd(1), NONE);
        due("nothing in 3", x.paste(0, 0, 3, 0, 1), -6);
        due("nothing in 3", x.paste(3, 0, 0, 0, 1), -6);
        due("no slot", x.paste(4, 0, 3, 0, 1), -2);
        due("no slot", x.paste(3, 0, -1, 0, 1), -2);
        x.row(3, 2, 2);
        due("not of one width", x.paste(0, 0, 3, 0, 9), -8);
    }

    public static void main(String[] args) throws Exception {
        for (int i = 1; i <= 64; i++) {
            promise = "promise " + i;
            BellBayPromises.class.getDeclaredMethod("p" + i).invoke(null);
        }
        System.out.println(asked + " answers asked, " + wrong + " not as due");
        if (wrong != 0) {
            System.exit(1);
        }
    }
}
