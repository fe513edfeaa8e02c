/** Promises 6 to 38 at their edges: numbers that wrap, the clock, what is full, the last HOUR asked. */
final class EdgesTest extends Texts {
    private static final int NONE = RestDays.NONE;
    private static final int GAP = RestDays.GAP;
    private static final int MAX = Integer.MAX_VALUE;
    private static final int MIN = Integer.MIN_VALUE;
    private static final String TOP = "(2048*1024*1024-1)";
    private static final String BOTTOM = "(2048*1024*1024)";
    // a is as many as the HOURS at work, of each two one
    private static final String TICK = "week 2 hours 1;thing a 0 to 999;law k rests 1 if 1 then a becomes a+1;";

    public static void main(String[] args) {
        wrapping();
        byNought();
        partsOfParts();
        truths();
        sets();
        theClock();
        eachFeast();
        leapDays();
        hours();
        everyAct();
        fortyOfAllKinds();
        crimes();
        lastHourOfWill();
        lastHourOfRound();
        lastHourOfPlan();
        lastHourOfMost();
        loopholeOfWhichOneIsSpent();
        loopholeOfWhichOneIsNone();
        lastHourOfAWish();
        lastHourOfGuilds();
        lastHourOfMore();
        noDayOfRest();
        looks();
        whatLies();
        boxes();
        crimesOfABox();
        manyCalls();
        Checks.finish();
    }

    private static void wrapping() {
        comes(TOP, MAX);
        comes(BOTTOM, MIN);
        comes(TOP + "+1", MIN);
        comes(BOTTOM + "-1", MAX);
        comes("0-" + BOTTOM, MIN);
        comes(BOTTOM + "*(0-1)", MIN);
        comes(BOTTOM + "/(0-1)", MIN);
        comes(BOTTOM + "%(0-1)", 0);
        comes(TOP + "*2", -2);
        comes(TOP + "*" + TOP, 1);
        comes("9999*9999*9999*9999", 9999 * 9999 * 9999 * 9999);
        comes(BOTTOM + "+" + BOTTOM, 0);
        comes(BOTTOM + "<" + TOP, 1);
        comes(TOP + "<" + BOTTOM, 0);
        comes(TOP + ">" + BOTTOM, 1);
        comes(BOTTOM + ">" + TOP, 0);
        comes(TOP + "+1<" + TOP, 1);
        comes(TOP + "+1=" + BOTTOM, 1);
        comes(TOP + "=" + BOTTOM, 0);
        comes(BOTTOM + "/2", MIN / 2);
        comes(BOTTOM + "%7", MIN % 7);
        comes(TOP + "%7", MAX % 7);
        RestDays x = Checks.told("goal " + BOTTOM + ";gain " + BOTTOM + "-1;");
        Checks.same("goal of MIN", x.says(0), MIN);
        Checks.same("a goal of MIN is not 0", x.plan(1), 0);
        Checks.same("most of MAX", x.most(1), MAX);
        Checks.same("more of MAX", x.more(0, 0, 0), MAX);
        x = Checks.told("gain " + BOTTOM + ";");
        Checks.same("most of MIN", x.most(1), MIN);
        Checks.lie("most of MIN", x, NONE);
        x = Checks.told("thing a 0 to 1;deed d if 1 then a becomes 1;gain " + BOTTOM + "+a;");
        Checks.same("more than MIN", x.most(1), MIN + 1);
        Checks.lie("more than MIN", x, 0);
    }

    private static void byNought() {
        for (String n : new String[] {"0", "7", "(0-7)", TOP, BOTTOM}) {
            comes(n + "/0", 0);
            comes(n + "%0", 0);
            comes(n + "/o", 0);
            comes(n + "%o", 0);
            comes(n + "/day", 0);
            comes(n + "%hour", 0);
            comes(n + "/(a-7)", 0);
            comes(n + "%(a-7)", 0);
        }
        comes("7/(0-2)", -3);
        comes("(0-7)/2", -3);
        comes("(0-7)/(0-2)", 3);
        comes("7%(0-2)", 1);
        comes("(0-7)%2", -1);
        comes("(0-7)%(0-2)", -1);
        comes("1/2", 0);
        comes("(0-1)/2", 0);
        RestDays x = Checks.told("thing a 5 to 9;law k rests 6 if 1/(a-5)=0 then a becomes a/0+3;"
                + "ban n rests 6 if 9%(a-3)+1;");
        x.hours(1);
        Checks.same("a LAW by 0", x.thing(0), 3);
        Checks.same("a BAN by 0", x.crime(0, 1), 1);
    }

    /** Each sign between the second part of another and what is in ( ), late in a week. */
    private static void partsOfParts() {
        String[] signs = {"+", "-", "*", "/", "%", "<", ">", "=", " also ", " or "};
        int[][] pairs = {{7, 2}, {2, 7}, {3, 3}, {0, 4}, {4, 0}, {0, 0}};
        for (String sign : signs) {
            for (int[] p : pairs) {
                String e = p[0] + sign + p[1];
                int due = by(sign, p[0], p[1]);
                String land = "week 9 hours 6;gain 5000-(" + e + ");goal 9*(8-(100-(" + e + ")*3));ban n rests 0 if 70=70+("
                        + e + ");";
                RestDays x = Checks.told(land);
                x.hours(7 * 6 + 4);
                Checks.same("behind another: " + e, x.says(1), 5000 - due);
                Checks.same("within others: " + e, x.says(0), 9 * (8 - (100 - due * 3)));
                Checks.same("in a BAN: " + e, x.broken(), due == 0 ? 1 : 0);
            }
        }
        RestDays x = Checks.told("week 9 hours 6;gain day*1000+hour*100+7/2+9%5*2-(1 or 0);");
        x.hours(3 * 6 + 5);
        Checks.same("one behind the other", x.says(1), 3000 + 500 + 3 + 8 - 1);
    }

    private static int by(String sign, int a, int b) {
        switch (sign) {
            case "+": return a + b;
            case "-": return a - b;
            case "*": return a * b;
            case "/": return b == 0 ? 0 : a / b;
            case "%": return b == 0 ? 0 : a % b;
            case "<": return a < b ? 1 : 0;
            case ">": return a > b ? 1 : 0;
            case "=": return a == b ? 1 : 0;
            case " also ": return a != 0 && b != 0 ? 1 : 0;
            default: return a != 0 || b != 0 ? 1 : 0;
        }
    }

    private static void truths() {
        String[] some = {"1", "7", "(0-1)", TOP, BOTTOM};
        for (String s : some) {
            comes(s + " also 1", 1);
            comes(s + " or 0", 1);
            comes("0 or " + s, 1);
            comes("not " + s, 0);
            comes("not not " + s, 1);
            comes(s + " also 0", 0);
            comes("0 also " + s, 0);
        }
        int[][] pairs = {{3, 4}, {4, 4}, {5, 4}, {0, 0}, {0, 1}, {9999, 9999}};
        for (int[] p : pairs) {
            comes(p[0] + "<" + p[1], p[0] < p[1] ? 1 : 0);
            comes(p[0] + ">" + p[1], p[0] > p[1] ? 1 : 0);
            comes(p[0] + "=" + p[1], p[0] == p[1] ? 1 : 0);
            comes("not " + p[0] + "<" + p[1], p[0] < p[1] ? 0 : 1);
        }
        // what can do something, is BROKEN, a goal, is not 0: below 0, too
        RestDays x = Checks.told("thing a 0 to 9;law k rests 6 if 0-1 then a becomes a+1;deed d if 0-1 then a becomes 5;"
                + "ban n rests 6 if 0-1;goal 0-1;");
        Checks.same("does of -1", x.does(0), 1);
        Checks.same("can of -1", x.can(0), 1);
        Checks.same("broken of -1", x.broken(), 1);
        Checks.same("plan of -1", x.plan(1), 0);
        Checks.yes("deed of -1", x.deed(0));
        x.hours(1);
        Checks.same("LAW of -1", x.thing(0), 6);
        Checks.same("CRIME of -1", x.about(10), 1);
        x = Checks.told("thing a 0 to 9;law k rests 6 if 0 then a becomes a+1;deed d if 0 then a becomes 5;"
                + "ban n rests 6 if 0;goal 0;");
        Checks.same("does of 0", x.does(0), 0);
        Checks.same("can of 0", x.can(0), 0);
        Checks.same("broken of 0", x.broken(), 0);
        Checks.same("plan of 0", x.plan(20), NONE);
        x.hours(6);
        Checks.same("LAW of 0", x.thing(0), 0);
        Checks.same("CRIME of 0", x.about(10), 0);
    }

    /** 0 at least, its most at most. */
    private static void sets() {
        for (int most : new int[] {0, 1, 2, 7, 998, 999}) {
            String[] e = {"0-1", "0", "1", "" + (most - 1), "" + most, "" + (most + 1), "9999", TOP, BOTTOM};
            int[] n = {-1, 0, 1, most - 1, most, most + 1, 9999, MAX, MIN};
            for (int i = 0; i < e.length; i++) {
                if (n[i] != -1 || i == 0) {
                    int due = n[i] < 0 ? 0 : n[i] > most ? most : n[i];
                    String text = "thing b 5 to 5;thing a 0 to " + most + ";";
                    RestDays x = Checks.told(text + "deed d if 1 then a becomes " + e[i] + ";");
                    x.deed(0);
                    Checks.same("by a DEED, of " + most + ": " + e[i], x.thing(1), due);
                    x = Checks.told(text + "law k rests 6 if 1 then a becomes " + e[i] + ";");
                    x.hours(1);
                    Checks.same("by a LAW, of " + most + ": " + e[i], x.thing(1), due);
                    Checks.same("the other THING", x.thing(0), 5);
                }
            }
        }
        RestDays x = Checks.told("thing a 0 to 5;thing b 0 to 9;deed d if 1 then a becomes 9 and b becomes a and a becomes 0-9 "
                + "and b becomes b+a+1;");
        x.deed(0);
        Checks.same("each within its bounds ahead of the next: a", x.thing(0), 0);
        Checks.same("each within its bounds ahead of the next: b", x.thing(1), 6);
    }

    private static void clockIs(String what, RestDays x, int day, int hour) {
        Checks.same(what + ": DAY", x.about(7), day);
        Checks.same(what + ": HOUR", x.about(8), hour);
        Checks.same(what + ": day*10+hour", x.says(1), day * 10 + hour);
    }

    /** HOUR by HOUR, for each week that there can be, till DAY 0 comes round. */
    private static void theClock() {
        for (int days = 2; days <= 9; days++) {
            for (int dayHours = 1; dayHours <= 6; dayHours++) {
                String week = "week " + days + " hours " + dayHours + ";";
                RestDays x = Checks.told(week + "gain day*10+hour;");
                for (int h = 0; h <= days * dayHours; h++) {
                    clockIs(week + " behind " + h, x, h / dayHours % days, h % dayHours);
                    Checks.same("HOURS", x.about(9), h);
                    x.hours(1);
                }
                Checks.same(week + ": comes round", x.round(0), days * dayHours);
                Checks.same(week + ": from now", x.round(1), days * dayHours);
            }
        }
        RestDays x = Checks.told("week 9 hours 6;gain day*10+hour;");
        x.hours(53);
        clockIs("the last HOUR of the longest week", x, 8, 5);
        x.hours(1);
        clockIs("DAY 0 again", x, 0, 0);
        x = new RestDays();
        x.hours(27);
        Checks.same("the last DAY of no LAND", x.about(7), 6);
        Checks.same("the last HOUR of no LAND", x.about(8), 3);
        x.hours(1);
        Checks.same("DAY 0 of no LAND", x.about(7), 0);
        Checks.same("HOUR 0 of no LAND", x.about(8), 0);
    }

    /** A LAW and a BAN that rest on each DAY: on all others the one works, the other is BROKEN. */
    private static void eachFeast() {
        for (int feast = 0; feast < 9; feast++) {
            RestDays x = Checks.told("week 9 hours 2;thing a 0 to 999;law k rests " + feast
                    + " if 1 then a becomes a+1;ban n rests " + feast + " if 1;");
            int due = 0;
            for (int h = 0; h < 20; h++) {
                boolean rests = h / 2 % 9 == feast;
                Checks.same("does on DAY " + x.about(7) + " of " + feast, x.does(0), rests ? 0 : 1);
                Checks.same("broken on DAY " + x.about(7) + " of " + feast, x.broken(), rests ? 0 : 1);
                due += rests ? 0 : 1;
                x.hours(1);
                Checks.same("a, of " + feast, x.thing(0), due);
                Checks.same("CRIMES of " + feast, x.about(10), due);
            }
        }
    }

    private static void leapDays() {
        String land = "week 3 hours 2;thing a 0 to 999;law k rests 0 if 1 then a becomes a+1;law l rests 2 if 1 then a becomes a+10;"
                + "ban n rests 0 if 1;ban o rests 2 if day=3;gain day*10+hour;";
        for (int before = 0; before <= 6; before += 2) {
            RestDays x = Checks.told(land);
            x.hours(before);
            int a = x.thing(0);
            int crimes = x.about(10);
            Checks.yes("leap behind " + before, x.leap());
            clockIs("in it", x, 3, 0);
            Checks.same("k", x.does(0), 1);
            Checks.same("l", x.does(1), 1);
            Checks.same("n and o", x.broken(), 3);
            x.hours(1);
            clockIs("still in it", x, 3, 1);
            Checks.same("n and o still", x.broken(), 3);
            Checks.no("no LEAP DAY in it", x.leap());
            x.hours(1);
            clockIs("the DAY that was to come", x, before / 2 % 3, 0);
            Checks.same("none rested", x.thing(0), a + 22);
            Checks.same("CRIMES in it", x.about(10), crimes + 2);
            Checks.same("both BANS", x.crime(crimes + 1, 1), 3);
            Checks.same("in which HOUR", x.crime(crimes + 1, 0), before + 1);
            Checks.yes("another behind it", x.leap());
            x.hours(2);
            clockIs("the same DAY to come", x, before / 2 % 3, 0);
            x.hours(2);
            clockIs("and then the next", x, (before / 2 + 1) % 3, 0);
        }
        RestDays x = Checks.told("week 9 hours 6;gain day*10+hour;");
        x.leap();
        x.hours(5);
        clockIs("its last HOUR", x, 9, 5);
        x.undo();
        clockIs("its first HOUR", x, 9, 0);
        x.undo();
        clockIs("put out", x, 0, 0);
        x.redo();
        clockIs("put in again", x, 9, 0);
    }

    private static void hours() {
        for (int n = 0; n <= 60; n++) {
            RestDays x = Checks.told(TICK);
            Checks.same("hours(" + n + ")", x.hours(n), n);
            Checks.same("a of " + n, x.thing(0), (n + 1) / 2);
            Checks.same("one ACT of " + n, x.about(11), 1);
            Checks.yes("undo of " + n, x.undo());
            Checks.same("a undone of " + n, x.thing(0), 0);
        }
        RestDays x = Checks.told(TICK);
        for (int i = 0; i < 40; i++) {
            Checks.same("50 HOURS", x.hours(50), 50 * i + 50);
        }
        Checks.same("one too many", x.hours(1), NONE);
        Checks.same("sixty too many", x.hours(60), NONE);
        Checks.same("none too many", x.hours(0), 2000);
        Checks.same("HOURS", x.about(9), 2000);
        Checks.same("a has its most", x.thing(0), 999);
        Checks.same("but what will be can be asked", x.will(0, 300), 999);
        Checks.same("DAY 0", x.about(7), 0);
        Checks.yes("a LEAP DAY can be put in", x.leap());
        Checks.same("kept", x.image(0), 2000);
        Checks.same("and back", x.back(0), 2000);
        Checks.same("still one too many", x.hours(1), NONE);
    }

    private interface Call {
        void on(RestDays x);
    }

    /** Each of the four ACTS is kept as one, is undone, done again, and ends what could be done again. */
    private static void everyAct() {
        Call[] acts = {x -> x.hours(3), x -> x.deed(0), x -> x.shift(0, 0), x -> x.leap(), x -> x.hours(0)};
        for (int i = 0; i < acts.length; i++) {
            RestDays x = Checks.told(TICK + "deed d if 1 then a becomes a+50;");
            RestDays y = Checks.told(TICK + "deed d if 1 then a becomes a+50;");
            acts[i].on(x);
            Checks.same("one ACT " + i, x.about(11), 1);
            Checks.same("none to do again " + i, x.about(12), 0);
            Checks.yes("undone " + i, x.undo());
            Checks.same("no ACT " + i, x.about(11), 0);
            Checks.same("one to do again " + i, x.about(12), 1);
            Checks.same("a " + i, x.thing(0), 0);
            Checks.same("feast " + i, x.feast(0), 1);
            Checks.same("DAY " + i, x.about(7), 0);
            Checks.same("HOURS " + i, x.about(9), 0);
            Checks.yes("done again " + i, x.redo());
            acts[i].on(y);
            Seen.alike("done again " + i, x, y, true);
            for (int j = 0; j < acts.length; j++) {
                x = Checks.told(TICK + "deed d if 1 then a becomes a+50;");
                acts[i].on(x);
                x.undo();
                acts[j].on(x);
                Checks.no("no more to do again " + i + ", " + j, x.redo());
                Checks.same("the other ACT alone " + i + ", " + j, x.about(11), 1);
            }
        }
    }

    private static void fortyOfAllKinds() {
        for (int more = 0; more <= 4; more++) {
            RestDays x = Checks.told("week 2 hours 1;thing a 0 to 999;deed d if 1 then a becomes a+1;law k rests 0 if 0 then a becomes 0;");
            for (int i = 0; i < 40 + more; i++) {
                if (i % 4 == 0) {
                    x.deed(0);
                } else if (i % 4 == 1) {
                    x.shift(0, 1 - x.feast(0));
                } else if (i % 4 == 2) {
                    Checks.yes("leap " + i, x.leap());
                } else {
                    x.hours(1);
                }
            }
            Checks.same("40 are kept of " + (40 + more), x.about(11), 40);
            int undone = 0;
            while (undone < 50 && x.undo()) {
                undone++;
            }
            Checks.same("40 undone of " + (40 + more), undone, 40);
            Checks.same("none left", x.about(11), 0);
            Checks.same("40 to do again", x.about(12), 40);
            Checks.same("a of the oldest, " + more, x.thing(0), more > 0 ? 1 : 0);
            Checks.same("feast of the oldest, " + more, x.feast(0), more > 1 ? 1 : 0);
            Checks.same("DAY of the oldest, " + more, x.about(7), more == 3 ? 2 : 0);
            Checks.same("HOURS of the oldest, " + more, x.about(9), more > 3 ? 1 : 0);
        }
        RestDays x = Checks.told(TICK);
        for (int i = 0; i < 40; i++) {
            x.hours(1);
        }
        for (int i = 0; i < 15; i++) {
            x.undo();
        }
        Checks.same("25 to undo", x.about(11), 25);
        Checks.same("15 to do again", x.about(12), 15);
        for (int i = 1; i <= 16; i++) {
            x.hours(2);
            Checks.same("kept " + i, x.about(11), Math.min(40, 25 + i));
            Checks.same("gone " + i, x.about(12), 0);
        }
        for (int i = 0; i < 40; i++) {
            Checks.yes("undo " + i, x.undo());
        }
        Checks.no("undo 41", x.undo());
        Checks.same("one HOUR is not undone", x.about(9), 1);
    }

    private static void crimes() {
        String land = "week 2 hours 1;ban m rests 1 if day=0;ban n rests 0 if day=1;ban o rests 1 if 1;ban p rests 0 if day;";
        RestDays x = Checks.told(land);
        x.hours(59);
        Checks.same("59 CRIMES", x.about(10), 59);
        Checks.same("crime(59, 0) of 59", x.crime(59, 0), NONE);
        x.hours(1);
        Checks.same("60 CRIMES", x.about(10), 60);
        Checks.same("the 60th: its HOUR", x.crime(59, 0), 59);
        Checks.same("the 60th: BANS", x.crime(59, 1), 2 + 8);
        Checks.same("the 59th: BANS", x.crime(58, 1), 1 + 4);
        x.image(0);
        x.hours(60);
        Checks.same("no more than 60", x.about(10), 60);
        Checks.same("crime(60, 0)", x.crime(60, 0), NONE);
        Checks.same("crime(60, 1)", x.crime(60, 1), NONE);
        for (int i = 0; i < 60; i++) {
            Checks.same("the first are noted: " + i, x.crime(i, 0), i);
        }
        x.undo();
        x.undo();
        Checks.same("59 again", x.about(10), 59);
        Checks.same("back to 60", x.back(0), 60);
        Checks.same("60 of the BOX", x.about(10), 60);
        Checks.same("the 60th of the BOX", x.crime(59, 1), 10);
        x = Checks.told("ban m rests 6 if 1;ban n rests 6 if 1;ban o rests 6 if 1;ban p rests 6 if 1;");
        Checks.same("all four now", x.broken(), 15);
        x.hours(1);
        Checks.same("all four", x.crime(0, 1), 15);
        x = Checks.told(land);
        Checks.same("no CRIME", x.crime(0, 0), NONE);
        x.hours(0);
        Checks.same("no CRIME in no HOUR", x.about(10), 0);
    }

    private static void lastHourOfWill() {
        RestDays x = Checks.told("week 2 hours 1;thing a 0 to 999;thing b 7 to 7;law k rests 1 if 1 then a becomes a+1;"
                + "law l rests 0 if 1 then a becomes a+1;");
        for (int n : new int[] {0, 1, 2, 60, 61, 299, 300}) {
            Checks.same("will(0, " + n + ")", x.will(0, n), n);
            Checks.same("will(1, " + n + ")", x.will(1, n), 7);
        }
        Checks.same("will(0, 301)", x.will(0, 301), NONE);
        Checks.same("will(2, 300)", x.will(2, 300), NONE);
        x.hours(60);
        Checks.same("from now", x.will(0, 300), 360);
        Checks.same("now", x.will(0, 0), 60);
        Checks.same("without THINGS", new RestDays().will(0, 0), NONE);
        x = Checks.told("thing a 3 to 9;law k rests 0 if 0 then a becomes 0;law l rests 0 if 0 then a becomes 0;");
        Checks.same("fewer THINGS than LAWS: the last", x.will(0, 1), 3);
        Checks.same("fewer THINGS than LAWS: none such", x.will(1, 1), NONE);
        x = Checks.told("thing a 3 to 9;thing b 4 to 9;law k rests 0 if 0 then a becomes 0;");
        Checks.same("more THINGS than LAWS", x.will(1, 1), 4);
        Checks.same("without LAWS", Checks.told("thing a 3 to 9;").will(0, 300), 3);
    }

    /** a grows six a week of twelve HOURS, on DAY 0, till it is as much as it can be: then a week more. */
    private static void lastHourOfRound() {
        for (int most = 140; most <= 150; most++) {
            RestDays x = Checks.told("week 2 hours 6;thing a 0 to " + most + ";law k rests 1 if 1 then a becomes a+1;");
            int full = (most - 1) / 6 * 12 + (most - 1) % 6 + 1;
            for (int gone = 0; gone < 8; gone++) {
                int due = full - gone + 12;
                Checks.same("round(0) of " + most + " behind " + gone, x.round(0), due <= 300 ? due : NONE);
                Checks.same("round(1) of " + most + " behind " + gone, x.round(1), due <= 300 ? 12 : NONE);
                x.hours(1);
            }
        }
        // 300 and 302 HOURS of a week of 2
        String week = "week 2 hours 1;thing a 0 to 999;law k rests 0 if 1 then a becomes (a+1)%";
        RestDays x = Checks.told(week + "150;");
        Checks.same("at HOUR 300", x.round(0), 300);
        Checks.same("from HOUR 0", x.round(1), 300);
        Checks.same("behind HOUR 300", Checks.told(week + "151;").round(0), NONE);
        x = Checks.told("week 2 hours 1;");
        Checks.same("the shortest", x.round(0), 2);
        x.leap();
        Checks.same("from a LEAP DAY", x.round(0), 3);
        Checks.same("the week alone", x.round(1), 2);
    }

    private static void lastHourOfPlan() {
        for (int n = 1; n <= 20; n++) {
            RestDays x = Checks.told("thing a 0 to 99;deed d if 1 then a becomes a+1;goal a>" + (n - 1) + ";");
            Checks.same("plan(" + n + ")", x.plan(n), n);
            Checks.same("lie there of " + n, x.about(17), n);
            Checks.same("the last of " + n, x.lies(n - 1), 0);
            Checks.same("behind the last of " + n, x.lies(n), GAP);
            Checks.same("plan(" + (n - 1) + ") of " + n, x.plan(n - 1), NONE);
            Checks.lie("plan(" + (n - 1) + ") of " + n, x);
        }
        RestDays x = Checks.told("thing a 0 to 99;deed d if 1 then a becomes a+1;goal a>20;");
        Checks.same("in 21 HOURS", x.plan(20), NONE);
        Checks.same("more than 20", x.plan(21), NONE);
        x.deed(0);
        Checks.same("in 20 HOURS", x.plan(20), 20);
        // the goal is 0 now, and not 0 behind no HOUR but the first
        x = Checks.told("goal hour=1;");
        Checks.same("behind the first", x.plan(1), 1);
        x.hours(1);
        Checks.same("now", x.plan(1), 0);
        x.hours(1);
        Checks.same("a DAY on", x.plan(2), NONE);
        Checks.same("a DAY on, of 3", x.plan(3), 3);
    }

    private static void lastHourOfMost() {
        for (int n = 1; n <= 6; n++) {
            RestDays x = Checks.told("thing a 0 to 99;deed d if 1 then a becomes a+1;gain a*10+hour;");
            Checks.same("most(" + n + ")", x.most(n), n * 10 + n % 4);
            Checks.same("lie there of " + n, x.about(17), n);
            Checks.same("the last of " + n, x.lies(n - 1), 0);
            Checks.same("behind the last of " + n, x.lies(n), GAP);
        }
        // what was more behind an earlier HOUR is gone behind the n-th
        RestDays x = Checks.told("thing a 4 to 9;deed x if hour=0 then a becomes 5;deed y if hour=0 then a becomes 6;"
                + "deed z if hour=0 then a becomes 7;law k rests 6 if hour=1 then a becomes a%5;gain a;");
        Checks.same("behind the first", x.most(1), 7);
        Checks.lie("behind the first", x, 2);
        for (int n = 2; n <= 4; n++) {
            Checks.same("behind HOUR " + n, x.most(n), 4);
            int[] due = new int[n];
            java.util.Arrays.fill(due, NONE);
            Checks.lie("behind HOUR " + n, x, due);
        }
        Checks.same("on another DAY", x.most(5), 7);
        Checks.lie("on another DAY", x, 0, NONE, NONE, NONE, 2);
    }

    private static String keep(int hours, String laws) {
        StringBuilder s = new StringBuilder("week 2 hours " + hours + ";");
        for (char c = 'b'; c < 'g'; c++) {
            s.append("thing ").append(c).append(" 0 to 6;");
        }
        s.append(laws).append("gain b+c+d+e+f;");
        for (char c = '1'; c < '7'; c++) {
            s.append("deed ").append((char) (c + 'p' - '1')).append(" if 1 then b becomes ").append(c).append(";");
        }
        return s.toString();
    }

    /** Where the DEEDS of four HOURS are kept: 1, 7, 49, 343, 2,401 and 2,401 THINGS as they are; else 1 each. */
    private static void loopholeOfWhichOneIsSpent() {
        String kept = " rests 1 if 1 then f becomes e and e becomes d and d becomes c and c becomes b;";
        String lost = " rests 1 if 1 then f becomes 0 and e becomes 0 and d becomes 0 and c becomes 0;";
        String last = "law z rests 1 if 1 then b becomes 0;";
        String one = "law k" + lost + "law l" + kept + last;
        String both = "law j" + kept + "law k" + lost + "law l" + lost + last;
        for (int hours = 4; hours <= 6; hours++) {
            boolean spent = hours > 4;
            RestDays x = Checks.told(keep(hours, one));
            Checks.same("SPENT if the first alone rests", x.loophole(0, 1), spent ? GAP - 1 : -24);
            Checks.same("SPENT if the second alone rests", x.loophole(1, 0), spent ? GAP - 1 : -24);
            // both: b of 6; the second alone: c besides
            Checks.same("of another two", x.loophole(1, 2), 6 - 12);
            x = Checks.told(keep(hours, both));
            Checks.same("SPENT if both rest", x.loophole(1, 2), spent ? GAP - 1 : 24);
            Checks.same("SPENT if both rest, the other way", x.loophole(2, 1), spent ? GAP - 1 : 24);
            // where none is kept, the last HOUR is no lawful one: SPENT is ahead of none
            x = Checks.told(keep(hours, one + "ban n rests 1 if hour=" + (hours - 1) + " also c+d+e+f=0;"));
            Checks.same("SPENT ahead of none", x.loophole(0, 1), spent ? GAP - 1 : GAP);
            Checks.same("SPENT ahead of none, the other way", x.loophole(1, 0), spent ? GAP - 1 : GAP);
        }
    }

    private static void loopholeOfWhichOneIsNone() {
        String land = "week 2 hours 1;thing p 0 to 1;thing q 0 to 1;law k rests 0 if 1 then p becomes 1;"
                + "law l rests 0 if 1 then q becomes 1;gain p*10+q;";
        Checks.same("none is none", Checks.told(land).loophole(0, 1), -10);
        for (String ban : new String[] {"p+q=0", "p=0 also q=1", "p=1 also q=0", "p+q=1", "1"}) {
            RestDays x = Checks.told(land + "ban n rests 0 if " + ban + ";");
            Checks.same("none if " + ban, x.loophole(0, 1), GAP);
            Checks.same("the other way, none if " + ban, x.loophole(1, 0), GAP);
        }
        Checks.same("no other way", Checks.told(land + "ban n rests 0 if p+q=2;").loophole(0, 1), -10);
    }

    /** A LAW that never rests would do; but a DAY is one of the week. */
    private static void noDayOfRest() {
        RestDays x = Checks.told("week 2 hours 1;thing a 0 to 99;law k rests 0 if 1 then a becomes a+1;"
                + "law l rests 0 if 1 then a becomes a+10;guild g of k wants a;");
        Checks.same("one each", x.amend(0, 11, 11, 2), 0);
        Checks.same("k never rests", x.amend(0, 12, 12, 2), NONE);
        Checks.same("l never rests", x.amend(0, 21, 21, 2), NONE);
        Checks.same("both never rest", x.amend(0, 22, 22, 2), NONE);
        Checks.same("no calendar", x.all(0, 12, 99, 2), 0);
        Checks.same("all calendars", x.all(0, 11, 11, 2), 4);
        Checks.same("a GUILD that would have none", x.guilds(2), 1);
        Checks.lie("a GUILD that would have none", x, 0, 0);
        x.look(2, 0, 12);
        Checks.same("none FITS", x.fit(0), 0);
    }

    private static void lastHourOfAWish() {
        RestDays x = Checks.told(TICK + "thing b 3 to 9;");
        Checks.same("in 100 HOURS", x.amend(0, 50, 50, 100), 0);
        Checks.same("in 99 HOURS", x.amend(0, 50, 50, 99), 0);
        Checks.same("in 98 HOURS", x.amend(0, 49, 49, 98), 0);
        Checks.same("in 99 HOURS, one FEAST", x.amend(0, 49, 49, 99), 1);
        Checks.lie("in 99 HOURS, one FEAST", x, 0);
        Checks.same("never in 100 HOURS", x.amend(0, 51, 999, 100), NONE);
        Checks.same("all in 100 HOURS", x.all(0, 50, 50, 100), 2);
        Checks.lie("all in 100 HOURS", x, 0);
        Checks.same("all in 99 HOURS", x.all(0, 50, 50, 99), 1);
        Checks.lie("all in 99 HOURS", x, 1);
        Checks.same("all in 101 HOURS", x.all(0, 50, 51, 101), NONE);
        for (int[] w : new int[][] {{0, 3}, {3, 3}, {3, 999}, {0, 999}, {2, 4}}) {
            Checks.same("from " + w[0] + " to " + w[1], x.amend(1, w[0], w[1], 0), 0);
            Checks.same("all from " + w[0] + " to " + w[1], x.all(1, w[0], w[1], 0), 2);
        }
        for (int[] w : new int[][] {{0, 2}, {4, 4}, {4, 999}, {999, 999}, {0, 0}}) {
            Checks.same("not from " + w[0] + " to " + w[1], x.amend(1, w[0], w[1], 0), NONE);
            Checks.same("none from " + w[0] + " to " + w[1], x.all(1, w[0], w[1], 0), 0);
        }
        // the DAY is as many as the first THING is
        x = Checks.told("week 3 hours 1;thing a 1 to 9;thing b 0 to 9;law k rests 0 if 1 then b becomes b+1;"
                + "law l rests 0 if 1 then b becomes b+2;");
        Checks.same("both to DAY 1", x.amend(1, 3, 3, 1), 2);
        Checks.lie("both to DAY 1", x, 1, 11);
        // a FEAST on the last DAY of the longest week, of the last LAW
        StringBuilder s = new StringBuilder("week 9 hours 1;thing a 0 to 9;");
        for (char c = 'p'; c < 'u'; c++) {
            s.append("law ").append(c).append(" rests 0 if day=").append(c == 't' ? 8 : 7).append(" then a becomes a+1;");
        }
        x = Checks.told(s.toString());
        Checks.same("all work", x.amend(0, 5, 5, 9), 0);
        Checks.same("the last LAW on the last DAY, another on 7", x.amend(0, 3, 3, 9), 2);
        Checks.lie("the last LAW on the last DAY, another on 7", x, 7, 17);
        Checks.same("on HOUR 8", x.amend(0, 3, 3, 8), 1);
        x.shift(0, 7);
        x.shift(1, 7);
        x.shift(2, 7);
        Checks.same("two of them left", x.amend(0, 0, 0, 9), 2);
        Checks.lie("two of them left", x, 37, 48);
        x.shift(3, 7);
        Checks.same("one of them left", x.amend(0, 0, 0, 9), 1);
        Checks.lie("one of them left", x, 48);
    }

    private static void lastHourOfGuilds() {
        String land = "week 2 hours 1;thing a 0 to 999;law k rests 0 if 1 then a becomes a+1;guild g of k wants ";
        RestDays x = Checks.told(land + "a=50;");
        Checks.same("in 99 HOURS", x.guilds(99), 2);
        Checks.lie("in 99 HOURS", x, 1);
        Checks.same("in 100 HOURS", x.guilds(100), 1);
        Checks.lie("in 100 HOURS", x, 0);
        Checks.same("in 101 HOURS", x.guilds(101), NONE);
        Checks.lie("in 101 HOURS", x);
        Checks.same("in no HOUR", x.guilds(0), 1);
        Checks.same("wants MIN", Checks.told(land + BOTTOM + ";").guilds(1), 1);
        // the first GUILD is of the last LAW, the last one of the first; one LAW has two, one has none
        x = Checks.told("week 3 hours 1;thing a 0 to 9;thing b 0 to 9;thing c 0 to 9;"
                + "law k rests 0 if day=0 then a becomes 1;law l rests 0 if day=0 then b becomes 1;"
                + "law m rests 1 if day=1 then c becomes 1;guild g of m wants c;guild h of m wants c*2;guild i of k wants a;");
        Checks.same("GUILDS of other numbers", x.guilds(2), 2);
        Checks.lie("GUILDS of other numbers", x, 1, 0, 0);
        Checks.same("in one HOUR", x.guilds(1), 2);
        Checks.lie("in one HOUR", x, 1, 0, 1);
        // of all DAYS alike the one on which it is, whatever another FEAST would bring
        x = Checks.told("week 2 hours 1;thing a 0 to 1;law k rests 0 if day=0 then a becomes 1;"
                + "law l rests 1 if 0 then a becomes 0;guild g of l wants 0-a;");
        Checks.same("all DAYS alike", x.guilds(2), 1);
        Checks.lie("all DAYS alike", x, 0, 1);
        // in the second turn DAY 0 would do for k again, but it stays on DAY 1, as it is by then
        x = Checks.told("week 2 hours 1;thing a 0 to 1;thing b 0 to 1;law k rests 0 if day=0 then a becomes 1;"
                + "law l rests 0 if day=0 then b becomes 1;guild g of k wants a*(b=0);guild h of l wants b;");
        Checks.same("as it is by then", x.guilds(2), 2);
        Checks.lie("as it is by then", x, 1, 1);
        x = Checks.told(land + TOP + "+a;");
        // MAX rather than MIN: it rests on DAY 0 still
        Checks.same("wants what wraps", x.guilds(1), 1);
        Checks.lie("wants what wraps", x, 0);
        x = Checks.told("week 9 hours 1;thing a 0 to 9;law k rests 0 if day=8 then a becomes 9;guild g of k wants 0-a;");
        Checks.same("the last DAY", x.guilds(9), 2);
        Checks.lie("the last DAY", x, 8);
    }

    private static void lastHourOfMore() {
        RestDays x = Checks.told("week 2 hours 1;thing a 0 to 999;law k rests 1 if 1 then a becomes a+1;gain a*10+day;");
        // of three DAYS two: 67 of 100, and DAY 1 then
        Checks.same("what 0 in 100", x.more(0, 0, 100), 671);
        Checks.same("what 0 in 99", x.more(0, 0, 99), 660);
        Checks.same("what 1 in 100", x.more(1, 0, 100), 671);
        Checks.same("what 1 in 2", x.more(1, 0, 2), 22);
        Checks.same("what 0 in 2", x.more(0, 0, 2), 12);
        Checks.same("what 0 in 3", x.more(0, 0, 3), 20);
        Checks.same("what 1 in 3", x.more(1, 0, 3), 20);
        Checks.same("what 0 in 0", x.more(0, 0, 0), 0);
        Checks.same("in 101", x.more(0, 0, 101), GAP);
        Checks.same("law is no matter for what 0", x.more(0, MIN, 100), 671);
        Checks.same("nor the greatest", x.more(0, MAX, 100), 671);
        Checks.same("for what 1 it is", x.more(1, 1, 100), GAP);
        Checks.same("nothing is done", x.about(5), 2);
        x = Checks.told("week 9 hours 6;ban n rests 8 if 1;gain day*10+hour;");
        Checks.same("the tenth DAY", x.more(0, 0, 54), 90);
        Checks.same("its last HOUR", x.more(0, 0, 59), 95);
        Checks.same("DAY 0 behind it", x.more(0, 0, 60), 0);
    }

    private static void looks() {
        RestDays x = Checks.told("week 2 hours 1;thing a 0 to 999;thing b 0 to 999;law k rests 1 if 1 then a becomes a+1;");
        Checks.same("of nothing less", x.fit(0), 2);
        Checks.same("look(60, 0, 30)", x.look(60, 0, 30), 0);
        Checks.same("by both", x.fit(0), 2);
        Checks.same("look(59, 0, 30)", x.look(59, 0, 30), 1);
        Checks.same("k on DAY 1 alone", x.fit(0), 1);
        Checks.same("which is DAY 1", x.rests(0, 0), 2);
        Checks.yes("untell(1)", x.untell(1));
        Checks.same("look(0, 0, 0)", x.look(0, 0, 0), 2);
        Checks.same("still both", x.fit(0), 2);
        Checks.same("look(0, 1, 999)", x.look(0, 1, 999), 3);
        Checks.same("none", x.fit(0), 0);
        Checks.same("rests of none", x.rests(0, 0), 0);
        Checks.same("ask of none", x.ask(0, 0, 0), NONE);
        Checks.yes("untell(3)", x.untell(3));
        Checks.same("ask(60, 0, 0)", x.ask(60, 0, 0), 0);
        Checks.same("ask(60, 1, 0)", x.ask(60, 1, 0), 2);
        Checks.same("ask(59, 1, 0)", x.ask(59, 1, 0), 1);
        Checks.same("ask(0, 1, 0)", x.ask(0, 1, 0), 2);
        x = Checks.told("thing a 999 to 999;thing b 998 to 998;");
        Checks.same("look(60, 0, 999)", x.look(60, 0, 999), 0);
        Checks.same("999 is so", x.fit(0), 1);
        Checks.same("ask of 999", x.ask(60, 1, 0), 1);
        Checks.same("look(60, 1, 999)", x.look(60, 1, 999), 1);
        Checks.same("998 is not 999", x.fit(0), 0);
        // a LOOK at a later HOUR told ahead of one at an earlier
        x = Checks.told(TICK);
        x.look(59, 0, 30);
        x.look(0, 0, 0);
        x.look(2, 0, 1);
        Checks.same("the latest HOUR counts, told first", x.fit(0), 1);
        Checks.same("on DAY 1", x.rests(0, 0), 2);
        x.untell(2);
        x.untell(0);
        Checks.same("what is left", x.fit(0), 2);
        for (int k : new int[] {-1, MIN, 0, -1}) {
            Checks.same("ask(1, 1, " + k + ")", x.ask(1, 1, k), 1);
            Checks.same("ask(2, 1, " + k + ")", x.ask(2, 1, k), 2);
        }
        // by ask, the last THING, and of like ones the first
        x = Checks.told("week 2 hours 1;thing a 0 to 9;thing b 0 to 9;thing c 0 to 9;thing d 0 to 9;thing e 0 to 9;thing f 0 to 9;"
                + "law k rests 0 if day=0 then f becomes 1;");
        Checks.same("the last THING tells", x.ask(1, 0, 0), 5);
        Checks.same("one is left", x.ask(1, 1, 0), 1);
        Checks.same("nothing tells", x.ask(0, 0, 0), 0);
        Checks.same("two are left", x.ask(0, 1, 0), 2);
    }

    private static void whatLies() {
        RestDays x = Checks.told("thing a 0 to 99;deed d if 1 then a becomes a+1;goal a=20;");
        Checks.lie("nothing at first", x);
        x.plan(20);
        int[] due = new int[20];
        Checks.lie("twenty", x, due);
        Checks.land(x, "goal 1;");
        Checks.lie("nothing in another LAND", x);
        x = Checks.told("week 9 hours 1;thing a 0 to 9;law p rests 8 if 1 then a becomes 1;law q rests 7 if 1 then a becomes 1;"
                + "law r rests 6 if 1 then a becomes 1;law s rests 5 if 1 then a becomes 1;law t rests 8 if 1 then a becomes 1;");
        Checks.same("guilds", x.guilds(0), 1);
        Checks.lie("FEASTS of all five LAWS", x, 8, 7, 6, 5, 8);
        x.amend(0, 0, 9, 0);
        Checks.lie("none of five", x);
    }

    private static void boxes() {
        RestDays x = Checks.told(TICK);
        for (int box = 0; box < 3; box++) {
            x.hours(box + 1);
            Checks.same("image(" + box + ")", x.image(box), x.about(9));
        }
        int[] hours = {1, 3, 6};
        for (int i = 0; i < 9; i++) {
            int box = i * 2 % 3;
            Checks.same("back(" + box + ")", x.back(box), hours[box]);
            Checks.same("a of " + box, x.thing(0), (hours[box] + 1) / 2);
            Checks.same("no ACTS of " + box, x.about(11) + x.about(12), 0);
            x.hours(7);
        }
        // an image is no ACT: it leaves what can be undone, done again
        x.undo();
        x.image(0);
        Checks.same("none to undo", x.about(11), 0);
        Checks.same("one to do again", x.about(12), 1);
        Checks.yes("it is", x.redo());
        Checks.same("a BOX told twice has the latter", x.back(0), hours[1]);
        Checks.same("another LAND", Checks.land(x, "goal 1;"), 0);
        for (int box = 0; box < 3; box++) {
            Checks.same("back(" + box + ") of another LAND", x.back(box), NONE);
        }
        Checks.same("image of no THINGS", x.image(1), 0);
        Checks.same("back to it", x.back(1), 0);
    }

    /** A BOX has the CRIMES that were, though others were noted in their place. */
    private static void crimesOfABox() {
        RestDays x = Checks.told("thing a 0 to 3;deed d if 1 then a becomes a+1;ban m rests 6 if a=0;ban n rests 6 if a=1;"
                + "ban o rests 6 if a=2;");
        x.hours(1);
        x.image(0);
        x.undo();
        x.deed(0);
        x.hours(2);
        Checks.same("n", x.crime(0, 1), 2);
        x.image(1);
        x.undo();
        x.undo();
        x.hours(0);
        x.deed(0);
        x.deed(0);
        x.leap();
        x.hours(1);
        Checks.same("o", x.crime(0, 1), 4);
        Checks.same("back(1)", x.back(1), 2);
        Checks.same("n of the BOX", x.crime(1, 1), 2);
        Checks.same("n of the BOX at first", x.crime(0, 1), 2);
        Checks.same("back(0)", x.back(0), 1);
        Checks.same("m of the BOX", x.crime(0, 1), 1);
        Checks.same("one alone", x.crime(1, 1), NONE);
        x.hours(1);
        Checks.same("and on", x.crime(1, 0), 1);
        x = Checks.told("week 2 hours 1;ban m rests 0 if 1;");
        x.hours(4);
        x.image(2);
        x.undo();
        x.hours(1);
        x.leap();
        x.hours(3);
        Checks.same("in other HOURS", x.crime(0, 0), 1);
        Checks.same("the next", x.crime(1, 0), 2);
        x.back(2);
        Checks.same("the HOUR of the BOX", x.crime(0, 0), 1);
        Checks.same("the next of the BOX", x.crime(1, 0), 3);
    }

    /** The 512th call is like the first. */
    private static void manyCalls() {
        RestDays x = new RestDays();
        for (int i = 1; i <= 511; i++) {
            Checks.same("call " + i, i % 2 == 0 ? x.image(i % 3) : x.later(1), i % 2 == 0 ? 0 : (i + 1) / 2);
        }
        Checks.same("call 512", x.about(14), 256);
        x = Checks.told(TICK);
        // eight calls are behind it
        for (int i = 9; i < 512; i++) {
            Checks.same("will, call " + i, x.will(0, 300), 150);
        }
        Checks.same("call 512 of another", x.hours(1), 1);
    }
}
