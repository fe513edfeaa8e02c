/** Promises 19 to 21: WILL, ROUND, CLASH. */
final class WillTest {
    private static final String COUNT = "week 3 hours 2;thing a 0 to 9;law k rests 1 if 1 then a becomes a+1;";

    public static void main(String[] args) {
        will();
        round();
        roundOfLeapDay();
        latestRound();
        clash();
        Checks.finish();
    }

    private static void will() {
        RestDays x = Checks.told(COUNT);
        int[] due = {0, 1, 2, 2, 2, 3, 4, 5, 6, 6, 6, 7, 8, 9, 9};
        for (int n = 0; n < due.length; n++) {
            Checks.same("will(0, " + n + ")", x.will(0, n), due[n]);
        }
        Checks.same("will(0, 300)", x.will(0, 300), 9);
        Checks.same("will(0, 301)", x.will(0, 301), RestDays.NONE);
        Checks.same("will(0, -1)", x.will(0, -1), RestDays.NONE);
        Checks.same("will(1, 0)", x.will(1, 0), RestDays.NONE);
        Checks.same("will(-1, 0)", x.will(-1, 0), RestDays.NONE);
        Checks.same("will(max, max)", x.will(Integer.MAX_VALUE, Integer.MAX_VALUE), RestDays.NONE);
        Checks.same("nothing is done", x.thing(0), 0);
        Checks.same("no HOUR went by", x.about(9), 0);
        x.shift(0, 0);
        Checks.same("by FEASTS as they are", x.will(0, 3), 1);
        x.leap();
        Checks.same("in a LEAP DAY", x.will(0, 2), 2);
        Checks.same("and behind it", x.will(0, 4), 2);
        Checks.same("and on", x.will(0, 6), 4);
        Checks.same("still in it", x.about(7), 3);
        x = Checks.told("week 2 hours 1;thing a 0 to 999;law k rests 1 if 1 then a becomes a+1;");
        Checks.same("the most HOURS", x.will(0, 300), 150);
        x.hours(1);
        Checks.same("from now", x.will(0, 300), 151);
    }

    private static void round(RestDays x, String what, int hour, int between) {
        Checks.same(what + ": the HOUR", x.round(0), hour);
        Checks.same(what + ": between", x.round(1), between);
    }

    private static void round() {
        RestDays x = Checks.told(COUNT);
        round(x, "behind HOUR 13", 19, 6);
        Checks.same("round(2)", x.round(2), RestDays.NONE);
        Checks.same("round(-1)", x.round(-1), RestDays.NONE);
        x.hours(12);
        round(x, "from HOUR 12", 7, 6);
        x.hours(1);
        round(x, "from HOUR 13", 6, 6);
        round(new RestDays(), "no THINGS", 28, 28);
        round(Checks.told("week 9 hours 6;"), "the longest week", 54, 54);
        round(Checks.told("week 2 hours 1;thing a 0 to 1;law k rests 0 if 1 then a becomes 1-a;"), "two weeks", 4, 4);
    }

    private static void roundOfLeapDay() {
        RestDays x = Checks.told("week 2 hours 1;");
        x.leap();
        round(x, "a LEAP DAY is no DAY 0", 3, 2);
        x = Checks.told(COUNT);
        x.leap();
        round(x, "with what it lets grow", 19, 6);
    }

    private static void latestRound() {
        String week = "week 2 hours 6;thing a 0 to 999;law k rests 1 if 1 then a becomes (a+1)%";
        round(Checks.told(week + "150;"), "25 weeks", 300, 300);
        round(Checks.told(week + "156;"), "26 weeks", RestDays.NONE, RestDays.NONE);
    }

    private static void clash() {
        RestDays x = Checks.told("week 3 hours 2;thing a 3 to 9;thing b 4 to 9;thing c 0 to 9;"
                + "law k rests 1 if a=3 then a becomes a*2;law l rests 2 if 1 then a becomes a+1;"
                + "law m rests 2 if b then b becomes b-1;law n rests 0 if 1 then b becomes 0;"
                + "law o rests 2 if a=3 then c becomes 1;");
        Checks.same("k, l", x.clash(0, 1), 1);
        Checks.same("l, k", x.clash(1, 0), 1);
        Checks.same("k, m", x.clash(0, 2), 0);
        Checks.same("m, n, which rests", x.clash(2, 3), 0);
        Checks.same("k, o: o can do nothing behind k", x.clash(0, 4), 1);
        Checks.same("k, k", x.clash(0, 0), 0);
        Checks.same("n, n", x.clash(3, 3), 0);
        Checks.same("k, 5", x.clash(0, 5), RestDays.NONE);
        Checks.same("-1, k", x.clash(-1, 0), RestDays.NONE);
        Checks.same("5, 5", x.clash(5, 5), RestDays.NONE);
        Checks.same("nothing is done", x.thing(0), 3);
        x.shift(3, 1);
        Checks.same("m, n: b comes to 0", x.clash(2, 3), 0);
        x.hours(1);
        // a 7, b 0, c 0: m can do nothing, k and o neither
        Checks.same("l, k then", x.clash(1, 0), 0);
        Checks.same("m, n then", x.clash(2, 3), 0);
        x = Checks.told("thing a 0 to 9;thing b 0 to 9;law k rests 1 if a=0 then a becomes 1;"
                + "law l rests 1 if a=1 then b becomes 1;");
        Checks.same("l can do nothing now, but behind k", x.clash(0, 1), 0);
        Checks.same("nor the other way about", x.clash(1, 0), 0);
        x = Checks.told("thing a 0 to 9;law k rests 0 if 1 then a becomes 9;law l rests 0 if 1 then a becomes 8;");
        Checks.same("both rest", x.clash(0, 1), 0);
        x.leap();
        Checks.same("in a LEAP DAY", x.clash(0, 1), 1);
    }
}
