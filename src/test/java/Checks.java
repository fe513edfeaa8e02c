import java.nio.charset.StandardCharsets;

/** What the tests share: a LAND told from a text, and answers held against those that are due. */
final class Checks {
    private static int asked = 0;
    private static int wrong = 0;

    private Checks() { }

    static void same(String what, long got, long due) {
        asked++;
        if (got != due) {
            wrong++;
            System.out.println(what + ": answered " + got + ", due is " + due);
        }
    }

    static void yes(String what, boolean got) {
        same(what, got ? 1 : 0, 1);
    }

    static void no(String what, boolean got) {
        same(what, got ? 1 : 0, 0);
    }

    /** Feeds a text (characters 0 to 255) and cuts what was too much of the last twenty bytes. */
    static int feed(RestDays x, String text) {
        byte[] bytes = text.getBytes(StandardCharsets.ISO_8859_1);
        int before = x.about(15);
        for (int i = 0; i < bytes.length; i += 20) {
            if (x.feed(four(bytes, i), four(bytes, i + 4), four(bytes, i + 8), four(bytes, i + 12),
                    four(bytes, i + 16)) == RestDays.NONE) {
                return RestDays.NONE;
            }
        }
        return x.end(before + bytes.length);
    }

    static int four(byte[] bytes, int at) {
        int all = 0;
        for (int i = at; i < at + 4; i++) {
            all = all << 8 | (i < bytes.length ? bytes[i] & 255 : 0);
        }
        return all;
    }

    static int land(RestDays x, String text) {
        feed(x, text);
        return x.land();
    }

    /** A new object with this LAND, which has to be without a FAULT. */
    static RestDays told(String text) {
        RestDays x = new RestDays();
        land(x, text);
        same("fault of " + text, x.fault(0), 0);
        return x;
    }

    /** What lies there has to be these numbers, and no others. */
    static void lie(String what, RestDays x, int... due) {
        same(what + ": how many lie there", x.about(17), due.length);
        for (int i = 0; i < due.length; i++) {
            same(what + ": lies(" + i + ")", x.lies(i), due[i]);
        }
        same(what + ": lies behind the last", x.lies(due.length), RestDays.GAP);
        same(what + ": lies(-1)", x.lies(-1), RestDays.GAP);
    }

    static String many(String part, int n) {
        return part.repeat(n);
    }

    static void finish() {
        System.out.println(asked - wrong + " passed, " + wrong + " failed");
        if (wrong != 0) {
            System.exit(1);
        }
    }
}
