import java.util.ArrayList;
import java.util.List;
import java.util.Random;

/** Writes random LANDS, most of them without a FAULT. */
final class Writer {
    private static final String[] NAMES = {"a", "b", "c", "salt", "wood", "e", "zzzzzzzz", "g", "w", "nots"};
    private static final String[] WORDS = {"week", "hours", "thing", "to", "law", "rests", "if", "then", "and",
        "deed", "ban", "goal", "gain", "guild", "of", "wants", "becomes", "or", "also", "not", "day", "hour",
        ";", "(", ")", "<", ">", "=", "+", "-", "*", "/", "%", "a", "q", "0", "7", "9999", "12345", "5x",
        "abcdefghi", "$", "\t", "\u00ff", "A", "1A", " ", "\n"};

    private final Random random;
    private final List<String> things = new ArrayList<>();
    private int units;
    private int unitsLeft;
    // with many ways and few standstills
    private boolean lively;

    Writer(Random random) {
        this.random = random;
    }

    private boolean one(int of) {
        return random.nextInt(of) == 0;
    }

    String land() {
        things.clear();
        unitsLeft = one(40) ? 400 : 140;
        lively = one(2);
        StringBuilder s = new StringBuilder();
        int days = 7;
        if (!one(4)) {
            days = one(8) ? 8 + random.nextInt(2) : 2 + random.nextInt(one(3) ? 6 : 3);
            s.append("week ").append(days).append(" hours ").append(1 + random.nextInt(one(2) ? 6 : 2)).append(";");
        }
        int n = one(120) ? 7 : 1 + random.nextInt(one(3) ? 6 : 3);
        for (int i = 0; i < n; i++) {
            int most = one(3) ? random.nextInt(1000) : lively ? 5 + random.nextInt(15) : random.nextInt(12);
            s.append("thing ").append(NAMES[i]).append(' ').append(random.nextInt(most + 1));
            s.append(" to ").append(most).append(one(3) ? ";\n" : ";");
            things.add(NAMES[i]);
        }
        int laws = one(150) ? 6 : (lively ? 1 : 0) + random.nextInt(days > 5 ? one(20) ? 5 : 3 : one(3) ? 5 : 3);
        for (int i = 0; i < laws; i++) {
            s.append("law ").append(NAMES[i + 1]).append(" rests ").append(random.nextInt(days));
            s.append(" if ").append(when()).append(then());
        }
        int deeds = one(150) ? 7 : lively ? 2 + random.nextInt(5) : random.nextInt(one(3) ? 7 : 4);
        for (int i = 0; i < deeds; i++) {
            s.append("deed ").append(NAMES[i + 1]).append(" if ").append(when()).append(then());
        }
        int bans = one(150) ? 5 : random.nextInt(one(3) ? 5 : 2);
        for (int i = 0; i < bans; i++) {
            s.append("ban ").append(NAMES[i]).append(" rests ").append(random.nextInt(days));
            s.append(" if ").append(seldom()).append(";");
        }
        if (!one(6)) {
            s.append("goal ").append(one(3) ? when() : seldom()).append(";");
        }
        if (!one(6)) {
            s.append("gain ").append(e()).append(";");
        }
        int guilds = laws == 0 ? 0 : one(150) ? 5 : random.nextInt(5);
        for (int i = 0; i < guilds; i++) {
            s.append("guild ").append(NAMES[i]).append(" of ").append(NAMES[1 + random.nextInt(laws)]);
            s.append(" wants ").append(e()).append(";");
        }
        return s.toString();
    }

    private String then() {
        StringBuilder s = new StringBuilder(" then ");
        int n = one(400) ? 5 : 1 + random.nextInt(one(4) ? 4 : 2);
        for (int i = 0; i < n; i++) {
            String thing = things.get(random.nextInt(things.size()));
            s.append(i > 0 ? " and " : "").append(thing).append(" becomes ");
            switch (lively ? random.nextInt(6) : random.nextInt(4)) {
                case 4 -> s.append(thing).append("+").append(1 + random.nextInt(3));
                case 5 -> s.append(thing).append("*2+").append(random.nextInt(3)).append("-").append(things.get(0));
                case 0 -> s.append(thing).append(one(2) ? "+" : "-").append(small());
                case 1 -> s.append("(").append(thing).append("+").append(small()).append(")%").append(1 + random.nextInt(9));
                default -> s.append(e());
            }
        }
        return s.append(";").toString();
    }

    private String small() {
        unitsLeft -= 4;
        return "" + random.nextInt(5);
    }

    private String when() {
        return one(3) || lively && one(2) ? "" + (one(9) ? 0 : 1) : e();
    }

    private String seldom() {
        String thing = things.get(random.nextInt(things.size()));
        unitsLeft -= 4;
        return thing + (one(2) ? ">" : "=") + random.nextInt(one(2) ? 12 : 100) + (one(3) ? " also day<" + random.nextInt(8) : "");
    }

    private String e() {
        units = unitsLeft < 8 ? 1 : one(200) ? 60 : 8;
        int before = units;
        String s = level(0, 0);
        unitsLeft -= before - units;
        return s;
    }

    private static final String[][] JOINTS = {{" or "}, {" also "}, {"<", ">", "="}, {"+", "-"}, {"*", "/", "%"}};

    private String level(int level, int depth) {
        if (level == 5) {
            return unit(depth);
        }
        if (level == 2 && one(8) && depth < 9) {
            return "not " + level(2, depth + 1);
        }
        StringBuilder s = new StringBuilder(level(level + 1, depth));
        int joints = units > 30 ? 4 : 7;
        while (units > 0 && one(joints)) {
            s.append(JOINTS[level][random.nextInt(JOINTS[level].length)]).append(level(level + 1, depth));
            if (level == 2 && !one(200)) {
                break;
            }
        }
        return s.toString();
    }

    private String unit(int depth) {
        units--;
        if (units > 0 && depth < 9 && one(5)) {
            return "(" + level(0, depth + 1) + ")";
        }
        switch (random.nextInt(6)) {
            case 0: return "day";
            case 1: return "hour";
            case 2: return "" + (one(5) ? random.nextInt(10000) : random.nextInt(8));
            default: return one(900) ? "nothing" : things.get(random.nextInt(things.size()));
        }
    }

    private void changeNumber(StringBuilder s, int from) {
        for (int i = from; i < s.length(); i++) {
            if (Character.isDigit(s.charAt(i))) {
                s.replace(i, i + 1, "" + random.nextInt(one(2) ? 10 : 20000));
                return;
            }
        }
    }

    /** A NAME behind the first word of a line becomes one that another line may have. */
    private void takeName(StringBuilder s, int from) {
        for (int i = from; i < s.length(); i++) {
            int word = s.indexOf(" ", i + 2);
            int end = s.indexOf(" ", word + 1);
            if (s.charAt(i) == ';' && word > 0 && end > 0) {
                s.replace(word + 1, end, NAMES[random.nextInt(3)]);
                return;
            }
        }
    }

    /** With one or two places put in, taken out or changed. */
    String spoilt(String text) {
        StringBuilder s = new StringBuilder(text);
        for (int i = random.nextInt(2); i >= 0; i--) {
            int at = random.nextInt(s.length() + 1);
            switch (random.nextInt(8)) {
                case 4, 5 -> changeNumber(s, at);
                case 6 -> takeName(s, at);
                case 0 -> s.insert(at, WORDS[random.nextInt(WORDS.length)]);
                case 1 -> s.insert(at, " " + WORDS[random.nextInt(WORDS.length)] + " ");
                case 2 -> s.delete(at, Math.min(s.length(), at + 1 + random.nextInt(4)));
                case 3 -> s.setLength(at);
                default -> {
                    int from = random.nextInt(s.length() + 1);
                    int to = Math.min(s.length(), from + random.nextInt(40));
                    s.insert(at, s.substring(from, to));
                }
            }
            if (s.length() == 0) {
                s.append(" ");
            }
        }
        return s.toString();
    }
}
