import java.util.List;

/** Promises 2 to 5 at their edges: TOKENS byte by byte, NAMES, numbers, how many of a sort, FAULTS. */
final class TextEdgesTest extends Texts {
    private static final String SIGNS = ";()<>=+-*/%";
    private static final String A = "thing a 1 to 2;";
    private static final List<String> RESERVED = List.of("week", "hours", "thing", "to", "law", "rests", "if",
        "then", "and", "deed", "ban", "goal", "gain", "guild", "of", "wants", "becomes", "or", "also", "not",
        "day", "hour");
    private static final String[] FREE = {"a", "z", "azazazaz", "zzzzzzzz", "land", "line", "set", "any", "both",
        "sum", "term", "unit", "e", "n", "name", "weeks", "hou", "things", "t", "too", "laws", "la", "rest",
        "iff", "the", "thens", "an", "ands", "deeds", "bans", "goals", "gains", "guilds", "o", "off", "want",
        "become", "becomess", "ore", "als", "alsos", "no", "nots", "days", "da"};

    public static void main(String[] args) {
        bytesOfATape();
        eachByteAlone();
        eachByteBetween();
        lengthsOfWords();
        lengthsOfNumbers();
        reservedWords();
        freeWords();
        weeks();
        thingNumbers();
        restDays();
        atOnePlaceTheLeast();
        firstByPlace();
        eachSortAlone();
        fullLand();
        fullText();
        cutAnywhere();
        cutOffIsGone();
        thirtyUnits();
        withinEachOther();
        anewInEach();
        Checks.finish();
    }

    private static int bytes(String four) {
        return Checks.four(four.getBytes(java.nio.charset.StandardCharsets.ISO_8859_1), 0);
    }

    /** The highest byte of each number first, a number's highest bit too. */
    private static void bytesOfATape() {
        RestDays x = new RestDays();
        Checks.same("five times four", x.feed(bytes("goal"), bytes(" 123"), bytes("4-56"), bytes("*7+8"), bytes("9;\n ")), 20);
        Checks.same("land of twenty", x.land(), 0);
        Checks.same("as they were", x.says(0), 1234 - 56 * 7 + 89);
        int[] odd = {0x80000000, 0x00800000, 0x00008000, 0x00000080, -1, 0};
        for (int i = 0; i < 20; i++) {
            int[] n = new int[5];
            java.util.Arrays.fill(n, 0x20202020);
            n[i / 4] = n[i / 4] & ~(255 << 24 - i % 4 * 8) | 255 << 24 - i % 4 * 8;
            x = new RestDays();
            x.feed(n[0], n[1], n[2], n[3], n[4]);
            Checks.same("byte 255 at " + i, x.land(), RestDays.NONE);
            Checks.same("place of byte 255 at " + i, x.fault(1), i);
        }
        for (int i = 0; i < odd.length; i++) {
            x = new RestDays();
            Checks.same("odd number", x.feed(0x20202020, odd[i], odd[i], odd[i], odd[i]), 20);
            x.land();
            Checks.same("fault of an odd number", x.fault(0), 1);
            Checks.same("place of an odd number", x.fault(1), 4);
        }
        x = new RestDays();
        x.feed(bytes("goal"), bytes(" 1;;"), 0, 0, 0);
        Checks.same("cut", x.end(7), 7);
        Checks.same("and fed on", x.feed(bytes("gain"), bytes(" 2; "), bytes("    "), bytes("    "), bytes("    ")), 27);
        Checks.same("two lines", x.land(), 0);
        Checks.same("the second", x.says(1), 2);
    }

    private static boolean isLetter(int c) {
        return c >= 'a' && c <= 'z';
    }

    private static boolean isDigit(int c) {
        return c >= '0' && c <= '9';
    }

    private static void eachByteAlone() {
        for (int c = 0; c < 256; c++) {
            String text = "goal " + (char) c;
            if (c == 32 || c == 10 || isDigit(c) || c == '(') {
                fault(text, 2, 6);
            } else if (isLetter(c)) {
                fault(text, 5, 5);
            } else {
                fault(text, SIGNS.indexOf(c) >= 0 ? 2 : 1, 5);
            }
        }
    }

    private static void eachByteBetween() {
        for (int c = 0; c < 256; c++) {
            String text = "goal 8" + (char) c + "1;";
            if (isDigit(c) || SIGNS.indexOf(c) > 2) {
                good(text);
            } else if (c == 32 || c == 10) {
                fault(text, 2, 7);
            } else if (isLetter(c)) {
                fault(text, 1, 5);
            } else if (c == ';') {
                fault(text, 2, 7);
            } else {
                fault(text, SIGNS.indexOf(c) >= 0 ? 2 : 1, 6);
            }
        }
        Checks.same("a number behind a NAME", good("thing a1 to 2;goal a;").says(0), 1);
        Checks.same("a NAME behind a blank behind a number", good("thing a 1 to 2;goal 1 or a;").says(0), 1);
        Checks.same("a blank of 10", good("thing\na\n1\nto\n2\n;\n").thing(0), 1);
        Checks.same("many blanks", good("  \n goal \n\n  3  ;  ").says(0), 3);
        Checks.same("signs one behind the other", good(A + "goal(a)*(a)-(a);gain((a));").says(0), 0);
        fault("goal 1 2;", 2, 7);
        fault("go al 1;", 2, 0);
    }

    private static void lengthsOfWords() {
        String word = "";
        for (int n = 1; n <= 24; n++) {
            word += (char) ('a' + n - 1);
            if (n <= 8) {
                Checks.same("a NAME of " + n, good("thing " + word + " 7 to 7;goal " + word + ";").says(0), 7);
            } else {
                fault("thing " + word + " 7 to 7;", 1, 6);
                fault(A + "goal " + word, 1, 20);
                fault(A + "ban " + word, 1, 19);
                fault("guild g of " + word, 1, 11);
                fault(word + " 7 to 7;", 1, 0);
            }
        }
        RestDays x = good("thing aaaaaaaa 1 to 9;thing aaaaaaab 2 to 9;thing baaaaaaa 3 to 9;thing aaaaaaa 4 to 9;"
                + "goal aaaaaaaa*1000+aaaaaaab*100+baaaaaaa*10+aaaaaaa;");
        Checks.same("NAMES of 8 that differ in one letter", x.says(0), 1234);
        fault("thing zzzzzzzz 1 to 2;thing zzzzzzzz", 3, 28);
        fault("weekhours", 1, 0);
        fault("goalgain 1;", 2, 0);
    }

    private static void lengthsOfNumbers() {
        String nines = "";
        for (int n = 1; n <= 12; n++) {
            nines += "9";
            if (n <= 4) {
                Checks.same("a number of " + n, good("goal " + nines + ";").says(0), Integer.parseInt(nines));
                fault("goal " + nines + "a;", 1, 5);
            } else {
                fault("goal " + nines + ";", 1, 5);
                fault("week " + nines, 1, 5);
            }
        }
        Checks.same("0000", good("goal 0000;").says(0), 0);
        Checks.same("0010", good("goal 0010;").says(0), 10);
        fault("goal 00000;", 1, 5);
        Checks.same("0002 to 0009", good("week 0002 hours 0001;thing a 0007 to 0009;").thing(0), 7);
        fault("goal 1z;", 1, 5);
        fault("thing a 1to 2;", 1, 8);
    }

    private static void reservedWords() {
        String law = A + "law k rests 0 if 1 then a becomes 1;";
        for (String w : RESERVED) {
            fault("thing " + w + " 1 to 2;", 2, 6);
            fault(A + "law " + w + " rests 0", 2, 19);
            fault(A + "deed " + w + " if 1", 2, 20);
            fault("ban " + w + " rests 0", 2, 4);
            fault(law + "guild " + w + " of k", 2, law.length() + 6);
            fault(law + "guild g of " + w, 2, law.length() + 11);
            fault(A + "law k rests 0 if 1 then " + w, 2, 39);
            if (w.equals("day") || w.equals("hour")) {
                Checks.same(w, good("goal " + w + ";").says(0), 0);
            } else {
                fault("goal " + w + ";", 2, w.equals("not") ? 8 : 5);
                fault("goal 1+" + w + ";", 2, 7);
            }
        }
    }

    private static void freeWords() {
        for (String w : FREE) {
            RestDays x = good("thing " + w + " 3 to 9;law " + w + " rests 0 if " + w + " then " + w + " becomes " + w
                    + "+1;deed " + w + " if " + w + "=3 then " + w + " becomes 5;ban " + w + " rests 1 if " + w
                    + ";guild " + w + " of " + w + " wants " + w + ";goal " + w + ";");
            Checks.same("the goal of " + w, x.says(0), 3);
            Checks.yes("the DEED " + w, x.deed(0));
            Checks.same("the THING " + w, x.thing(0), 5);
        }
    }

    private static void weeks() {
        for (int days = 0; days <= 12; days++) {
            for (int hours = 0; hours <= 8; hours++) {
                String text = "week " + days + " hours " + hours + ";";
                if (days < 2 || days > 9) {
                    fault(text, 4, 5);
                } else if (hours < 1 || hours > 6) {
                    fault(text, 4, 13);
                } else {
                    RestDays x = good(text);
                    Checks.same("DAYS of " + text, x.about(5), days);
                    Checks.same("HOURS of " + text, x.about(6), hours);
                }
            }
        }
        Checks.same("DAYS not told", good("goal 1;").about(5), 7);
        Checks.same("HOURS not told", good("goal 1;").about(6), 4);
        RestDays x = good("week 2 hours 1;");
        Checks.land(x, "goal 1;");
        Checks.same("DAYS not told again", x.about(5), 7);
        Checks.same("HOURS not told again", x.about(6), 4);
        fault("week 9999 hours 1;", 4, 5);
        fault("week 2 hours 9999;", 4, 13);
    }

    private static void thingNumbers() {
        int[] numbers = {0, 1, 5, 998, 999, 1000, 1001, 9999};
        for (int is : numbers) {
            for (int most : numbers) {
                String text = "thing a " + is + " to " + most + ";";
                if (is > 999) {
                    fault(text, 4, 8);
                } else if (most < is || most > 999) {
                    fault(text, 4, text.indexOf("to") + 3);
                } else {
                    RestDays x = good(text + "deed d if 1 then a becomes 9999;");
                    Checks.same("is, of " + text, x.thing(0), is);
                    x.deed(0);
                    Checks.same("its most, of " + text, x.thing(0), most);
                }
            }
        }
    }

    private static void restDays() {
        for (int days = 2; days <= 9; days++) {
            String week = "week " + days + " hours 1;thing a 0 to 1;";
            for (int day = 0; day <= 10; day++) {
                String law = week + "law k rests " + day + " if 1 then a becomes 1;";
                String ban = week + "ban n rests " + day + " if 1;";
                if (day >= days) {
                    fault(law, 4, week.length() + 12);
                    fault(ban, 4, week.length() + 12);
                } else {
                    Checks.same("feast of " + law, good(law).feast(0), day);
                    Checks.same("broken of " + ban, good(ban).broken(), day == 0 ? 0 : 1);
                }
            }
        }
        fault("ban n rests 9999 if 1;", 4, 12);
    }

    private static void atOnePlaceTheLeast() {
        String thirty = "1" + Checks.many("+1", 29);
        // 1 ahead of 2: what is no TOKEN can't stand there either
        fault("abcdefghi", 1, 0);
        fault("thing 1x", 1, 6);
        fault("goal 1 1x", 1, 7);
        fault("goal " + thirty + "+99999", 1, 65);
        // 1 ahead of 3, 4, 5: a word told already, a number that can't be, a NAME that none has
        fault("week 10000", 1, 5);
        fault("thing a 99999", 1, 8);
        fault("goal abcdefghi", 1, 5);
        fault("guild g of abcdefghi", 1, 11);
        // 2 ahead of 4: no number may stand there at all
        fault("week hours 1;", 2, 5);
        fault("thing 1000 1 to 2;", 2, 6);
        // 2 ahead of 5: a unit too many that is a NAME that none has
        fault("goal " + thirty + "+b", 2, 65);
        fault("goal b", 5, 5);
        // 2 ahead of 3: the sort is full, at its first word; behind it NAMES are not looked at
        String six = "";
        for (char c = 'a'; c < 'g'; c++) {
            six += "thing " + c + " 1 to 2;";
        }
        fault(six + "thing a 1 to 2;", 2, six.length());
        fault(six + "thing $", 2, six.length());
    }

    private static void firstByPlace() {
        fault("goal b;$", 5, 5);
        fault("$goal b;", 1, 0);
        fault("week 1 hours 9;", 4, 5);
        fault("thing a 5 to 4;thing a 1 to 2;", 4, 13);
        fault(A + "thing a 5 to 4;", 3, 21);
        fault("goal 1 goal b;", 2, 7);
        fault("goal c+b", 5, 5);
        fault("goal 1+b", 5, 7);
        fault(A + "law k rests 7 if b then b", 4, 27);
        fault(A + "law k rests 6 if b then b", 5, 32);
        fault(A + "law k rests 6 if a then b", 5, 39);
        fault(A + "law k rests 6 if a then a becomes b", 5, 49);
        fault(A + "law k rests 6 if a then a becomes a and b", 5, 55);
        fault("ban n rests 6 if 1;ban n rests 7", 3, 23);
        fault("ban n rests 6 if 1;ban o rests 7", 4, 31);
        fault("guild g of k wants b;", 5, 11);
        fault(A + "law k rests 6 if a then a becomes a;guild g of k wants b;", 5, 70);
        fault("goal 1;week 1 hours 1;", 2, 7);
        fault("\n\n  then", 2, 4);
        RestDays x = good("   \n");
        Checks.same("no FAULT has no place", x.fault(1), RestDays.NONE);
    }

    private static String lines(String line, int n) {
        StringBuilder s = new StringBuilder();
        for (int i = 0; i < n; i++) {
            s.append(line.replace("?", "" + (char) ('p' + i)));
        }
        return s.toString();
    }

    /** Each sort with one less than is at most, as many, and one more. */
    private static void eachSortAlone() {
        String k = A + "law k rests 0 if 1 then a becomes 1;";
        String[] ahead = {"", A, A, "", k};
        String[] line = {"thing ? 1 to 2;", "law ? rests 0 if 1 then a becomes 1;", "deed ? if 1 then a becomes 1;",
            "ban ? rests 0 if 1;", "guild ? of k wants 1;"};
        int[] most = {6, 5, 6, 4, 4};
        for (int sort = 0; sort < 5; sort++) {
            for (int n = 0; n <= most[sort]; n++) {
                String text = ahead[sort] + lines(line[sort], n);
                Checks.same("how many of " + text, good(text).about(sort), n);
            }
            String text = ahead[sort] + lines(line[sort], most[sort]);
            fault(text + line[sort].replace("?", "h"), 2, text.length());
            fault(text + lines(line[sort], 1), 2, text.length());
        }
        for (String actor : new String[] {"law k rests 0", "deed d"}) {
            String sets = A + actor + " if 1 then a becomes 0";
            for (int n = 1; n <= 4; n++) {
                good(sets + ";");
                fault(sets + " and", 2, n < 4 ? sets.length() + 4 : sets.length() + 1);
                sets += " and a becomes 0";
            }
            fault(sets + ";", 2, sets.length() - 15);
        }
    }

    /** All sorts full, four sets in each LAW and DEED, 150 units. */
    private static String full() {
        StringBuilder s = new StringBuilder("week 9 hours 6;");
        for (int i = 0; i < 6; i++) {
            s.append("thing ").append((char) ('a' + i)).append(' ').append(i).append(" to 999;");
        }
        for (int l = 0; l < 5; l++) {
            s.append("law ").append((char) ('a' + l)).append(" rests ").append(l).append(" if 1 then ");
            s.append(sets(l));
        }
        for (int d = 0; d < 6; d++) {
            s.append("deed ").append((char) ('a' + d)).append(" if 1 then ").append(sets(d));
        }
        for (int b = 0; b < 4; b++) {
            s.append("ban ").append((char) ('a' + b)).append(" rests ").append(8 - b).append(" if a>").append(b).append(";");
        }
        s.append("goal f;gain a+b;");
        for (int g = 0; g < 4; g++) {
            s.append("guild ").append((char) ('a' + g)).append(" of ").append((char) ('e' - g)).append(" wants day;");
        }
        return s.toString();
    }

    /** Four THINGS from the one of this number on become one more each. */
    private static String sets(int from) {
        StringBuilder s = new StringBuilder();
        for (int i = 0; i < 4; i++) {
            char c = (char) ('a' + (from + i) % 6);
            s.append(i > 0 ? "and " : "").append(c).append(" becomes ").append(c).append("+1").append(i < 3 ? " " : ";");
        }
        return s.toString();
    }

    private static void fullLand() {
        String text = full();
        RestDays x = good(text);
        int[] due = {6, 5, 6, 4, 4, 9, 6};
        for (int i = 0; i < due.length; i++) {
            Checks.same("full: about(" + i + ")", x.about(i), due[i]);
        }
        // 11 e and 44 sets of two units each, 4 bans of two, goal, gain, 4 guilds
        Checks.same("full: units", x.about(16), 11 + 88 + 8 + 1 + 2 + 4);
        int[] things = {0, 1, 2, 3, 4, 5};
        for (int d = 0; d < 6; d++) {
            Checks.yes("full: deed " + d, x.deed(d));
            for (int i = 0; i < 4; i++) {
                things[(d + i) % 6]++;
            }
            hold("full: behind deed " + d, x, things);
        }
        for (int day = 0; day < 9; day++) {
            x.hours(6);
            for (int l = 0; l < 5; l++) {
                for (int i = 0; i < 4 && l != day; i++) {
                    things[(l + i) % 6] += 6;
                }
            }
            hold("full: behind DAY " + day, x, things);
        }
        for (int l = 0; l < 5; l++) {
            Checks.same("full: feast " + l, x.feast(l), l);
        }
        Checks.same("full: broken", x.broken(), 15);
        Checks.same("full: crime of DAY 5, o", x.crime(5 * 6, 1), 15 - 8);
        Checks.same("full: crime of DAY 8, a", x.crime(8 * 6 - 1, 1), 15 - 2);
        Checks.same("full: crime of DAY 8", x.crime(8 * 6, 1), 15 - 1);
        for (String more : new String[] {"thing g 1 to 2;", "law g rests 0 if 1", "deed g if 1", "ban g rests 0 if 1",
            "goal 1;", "gain 1;", "guild g of a wants 1;", "week 2 hours 1;"}) {
            fault(text + more, 2, text.length());
        }
    }

    private static void hold(String what, RestDays x, int[] things) {
        for (int i = 0; i < things.length; i++) {
            Checks.same(what + ": thing(" + i + ")", x.thing(i), things[i]);
        }
    }

    /** 1,700 bytes, the last of which counts, and as many codes as a text has room for. */
    private static void fullText() {
        String text = full();
        String last = text + Checks.many(" ", 1700 - 8 - text.length()) + "goal 17;";
        Checks.same("1,700 bytes", last.length(), 1700);
        fault(last, 2, 1692);
        last = "goal 1;" + Checks.many("\n", 1700 - 14) + "gain 1;";
        Checks.same("1,700 bytes with gain", good(last).says(1), 1);
        fault(last.substring(0, 1699), 2, 1699);
        fault(last.substring(0, 1699) + "+", 2, 1700);
        fault(last.substring(0, 1699) + "$", 1, 1699);
        fault(Checks.many(";", 1700), 2, 0);
        fault("goal " + Checks.many("(", 1695), 2, 12);
        fault("goal 1" + Checks.many(")", 1694), 2, 6);
        fault(Checks.many("a", 1700), 1, 0);
        fault("goal " + Checks.many("1", 1695), 1, 5);
        Checks.same("blanks alone", good(Checks.many(" ", 1700)).about(0), 0);
        // seven nots ahead of each unit: 391 nots and 60 units in 13 formulas
        StringBuilder s = new StringBuilder();
        String nots = Checks.many("not ", 7) + "1";
        String each = "if " + nots + " or " + nots + " or " + nots + " or " + nots + " or " + nots + " or " + nots;
        for (int b = 0; b < 4; b++) {
            s.append("ban ").append((char) ('a' + b)).append(" rests 6 ").append(each).append(';');
        }
        s.append("goal ").append(each.substring(3)).append(" or ").append(nots).append(" or ").append(nots).append(';');
        s.append("gain ").append(each.substring(3)).append(" or ").append(nots).append(" or not ").append(nots.substring(4));
        s.append(" or 1-1;");
        Checks.yes("in 1,700 bytes: " + s.length(), s.length() <= 1700);
        RestDays x = good(s.toString());
        Checks.same("nots: goal", x.says(0), 0);
        Checks.same("nots: gain", x.says(1), 0);
        Checks.same("nots: bans", x.broken(), 0);
        x = good(s.toString().replace("1-1;", "3;"));
        Checks.same("nots: the last unit counts", x.says(1), 1);
    }

    /** A text that is cut is good behind a line alone; its FAULT is at its end or at its last word, else. */
    private static void cutAnywhere() {
        String text = full();
        RestDays x = new RestDays();
        int lines = 0;
        for (int n = 0; n <= text.length(); n++) {
            boolean whole = n == 0 || text.charAt(n - 1) == ';';
            // an object has 512 calls
            if (n % 6 == 0) {
                x = new RestDays();
            }
            int answer = Checks.land(x, text.substring(0, n));
            Checks.same("cut at " + n, answer == RestDays.NONE ? 0 : 1, whole ? 1 : 0);
            lines += whole ? 1 : 0;
            if (!whole) {
                int start = n;
                while (start > 0 && isLetter(text.charAt(start - 1))) {
                    start--;
                }
                Checks.yes("place of cut at " + n + ": " + x.fault(1), x.fault(1) == n || x.fault(1) == start);
            }
        }
        Checks.same("lines", lines, 1 + 1 + 6 + 5 + 6 + 4 + 2 + 4);
    }

    /** What end(n) cuts off does not count, whatever it was; nor does what an earlier text had there. */
    private static void cutOffIsGone() {
        String[] whole = {"goal 1a", "goal 12345", "goal 1 or 2", "thing abcdefghi", "goal 1;$", "goal 1;goal 2;", "goal 1;;",
            "weekhours", "week 10", "week 3 hours 66;", "thing aa 1 to 2;"};
        int[] bytes = {6, 9, 6, 14, 7, 7, 7, 4, 6, 14, 7};
        int[] what = {2, 2, 2, 2, 0, 0, 0, 2, 4, 2, 2};
        int[] place = {6, 9, 6, 14, -1, -1, -1, 4, 5, 14, 7};
        for (int i = 0; i < whole.length; i++) {
            RestDays x = new RestDays();
            Checks.feed(x, whole[i]);
            Checks.same("cut: " + whole[i], x.end(bytes[i]), bytes[i]);
            x.land();
            Checks.same("FAULT of what is left of: " + whole[i], x.fault(0), what[i]);
            Checks.same("place in what is left of: " + whole[i], x.fault(1), place[i]);
            x = new RestDays();
            Checks.land(x, whole[i]);
            Checks.feed(x, whole[i].substring(0, bytes[i]));
            x.land();
            Checks.same("FAULT behind an earlier text: " + whole[i], x.fault(0), what[i]);
            Checks.same("place behind an earlier text: " + whole[i], x.fault(1), place[i]);
        }
        RestDays x = new RestDays();
        Checks.feed(x, "goal 1;gain 2;");
        x.end(7);
        x.land();
        Checks.same("the line that is left", x.says(0), 1);
        Checks.same("the line that is gone", x.says(1), 0);
        Checks.same("an empty text behind it", x.land(), 0);
        Checks.same("has none of its lines", x.says(0), 0);
    }

    private static String units(int n) {
        return "1" + Checks.many("+1", n - 1);
    }

    /** In each e of a line 30 units at most, whatever the others have. */
    private static void thirtyUnits() {
        String k = A + "law k rests 0 if 1 then a becomes 1;";
        String[] head = {A + "law k rests 0 if ", A + "law k rests 0 if 1 then a becomes ",
            A + "law k rests 0 if " + units(30) + " then a becomes " + units(30) + " and a becomes ",
            A + "deed d if ", A + "deed d if 1 then a becomes ", A + "deed d if 1 then a becomes 1 and a becomes ",
            "ban n rests 0 if ", "goal ", "gain ", k + "guild g of k wants ", "goal " + units(30) + ";gain "};
        String[] tail = {" then a becomes 1;", ";", ";", " then a becomes 1;", ";", ";", ";", ";", ";", ";", ";"};
        for (int i = 0; i < head.length; i++) {
            good(head[i] + units(29) + tail[i]);
            good(head[i] + units(30) + tail[i]);
            fault(head[i] + units(31) + tail[i], 2, head[i].length() + 60);
        }
        String[] joints = {"+", "-", "*", "/", "%", " or ", " also "};
        for (String j : joints) {
            String thirty = "2" + Checks.many(j + "2", 29);
            Checks.same("30 by" + j, good("goal " + thirty + ";").about(16), 30);
            fault("goal " + thirty + j + "2;", 2, 5 + thirty.length() + j.length());
        }
        // 150 in all: the 151st wherever it stands
        String full = "goal " + units(30) + ";gain " + units(30) + ";ban m rests 0 if " + units(30) + ";ban n rests 0 if "
                + units(30) + ";";
        String[] more = {"ban o rests 0 if ", "ban o rests 0 if not ", "ban o rests 0 if ("};
        for (String m : more) {
            int close = m.endsWith("(") ? 1 : 0;
            good(full + m + units(30 - close) + (close == 1 ? ")" : "") + ";");
            fault(full + m + units(31 - close), 2, full.length() + m.length() + 60 - 2 * close);
        }
        String most = full + A + "deed d if " + units(15) + " then a becomes " + units(13) + " and a becomes 1+";
        Checks.same("150", good(most + "a;").about(16), 150);
        fault(most + "a+a;", 2, most.length() + 2);
        fault(most + "a and a becomes a;", 2, most.length() + 16);
        fault(most + "a;deed e if 1", 2, most.length() + 12);
        fault(most + "a;law l rests 0 if 1", 2, most.length() + 19);
        fault(most + "a;ban o rests 0 if (", 2, most.length() + 19);
        fault(most + "a;ban o rests 0 if $", 1, most.length() + 19);
        fault(most + "a;ban o rests 0 if ;", 2, most.length() + 19);
        good(most + "a;thing b 1 to 2;");
    }

    private static void withinEachOther() {
        // a bit of n tells whether a not or a ( ) stands there
        for (int n = 0; n < 256; n++) {
            StringBuilder open = new StringBuilder("goal ");
            StringBuilder close = new StringBuilder();
            int nots = 0;
            for (int i = 0; i < 7; i++) {
                boolean not = (n >> i & 1) == 1;
                open.append(not ? "not " : "(");
                close.append(not ? "" : ")");
                nots += not ? 1 : 0;
            }
            Checks.same("seven of " + n, good(open + "1" + close + ";").says(0), 1 - nots % 2);
            boolean eighth = (n >> 7 & 1) == 1;
            String text = open + (eighth ? "not 1" : "(1)") + close + ";";
            fault(text, 2, open.length());
        }
        fault("goal 1+((((((((1", 2, 14);
        fault("goal 1<((((((((1", 2, 14);
        fault("goal 1*((((((((1", 2, 14);
        fault("goal 1 or ((((((((1", 2, 17);
        fault("goal 1 also " + Checks.many("not ", 8), 2, 40);
        fault("goal (1+((((((((1", 2, 14);
        fault("goal not 1 or ((((((((1", 2, 21);
    }

    private static void anewInEach() {
        String seven = Checks.many("(", 7) + "1" + Checks.many(")", 7);
        String nots = Checks.many("not ", 7) + "1";
        Checks.same("behind ( )", good("goal " + seven + "+" + seven + "*" + seven + ";").says(0), 2);
        Checks.same("behind nots", good("goal " + nots + " or " + nots + " also " + nots + ";").says(0), 0);
        Checks.same("behind both", good("goal not " + seven.substring(1, 14) + " or " + seven + ";").says(0), 1);
        RestDays x = good(A + "law k rests 0 if " + seven + " then a becomes " + seven + " and a becomes " + seven
                + ";deed d if " + seven + " then a becomes " + seven + ";goal " + seven + ";");
        Checks.same("in each e", x.about(16), 48);
        Checks.yes("the deed", x.deed(0));
    }
}
