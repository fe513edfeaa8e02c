/** Promises 25 to 28: SHIFT and ALL for a WISH, GUILDS, ONE DAY MORE. */
final class FeastsTest extends Texts {
    private static final String TWO = "week 3 hours 1;thing a 0 to 9;law k rests 0 if 1 then a becomes a+1;"
            + "law l rests 0 if 1 then a becomes a+2;";
    private static final int NONE = RestDays.NONE;

    public static void main(String[] args) {
        amend();
        amendInOrder();
        amendToDayNone();
        amendFromNow();
        all();
        tooManyCalendars();
        wrongWishes();
        guilds();
        thirtyTurns(35, 30);
        thirtyTurns(34, NONE);
        more();
        moreOfLeapDay();
        Checks.finish();
    }

    private static void amend() {
        RestDays x = Checks.told(TWO);
        Checks.same("as it is", x.amend(0, 0, 0, 1), 0);
        Checks.lie("as it is", x);
        Checks.same("k", x.amend(0, 1, 1, 1), 1);
        Checks.lie("k", x, 1);
        Checks.same("l", x.amend(0, 2, 2, 1), 1);
        Checks.lie("l", x, 11);
        Checks.same("k or l", x.amend(0, 1, 2, 1), 1);
        Checks.lie("k or l", x, 1);
        Checks.same("k and l", x.amend(0, 3, 3, 1), 2);
        Checks.lie("k and l", x, 1, 11);
        Checks.same("more than both", x.amend(0, 4, 9, 1), NONE);
        Checks.lie("more than both", x);
        Checks.same("nothing is done", x.feast(0), 0);
        x = Checks.told(TWO + "law m rests 0 if 1 then a becomes a+4;");
        Checks.same("two of three", x.amend(0, 6, 6, 1), 2);
        Checks.lie("two of three", x, 11, 21);
        Checks.same("2 are not enough", x.amend(0, 7, 7, 1), NONE);
        x = Checks.told("thing a 3 to 9;");
        Checks.same("no LAWS, true", x.amend(0, 3, 3, 100), 0);
        Checks.same("no LAWS", x.amend(0, 4, 4, 100), NONE);
    }

    private static void amendInOrder() {
        RestDays x = Checks.told("week 4 hours 1;thing a 0 to 99;law k rests 1 if day=2 then a becomes a+1;"
                + "law l rests 3 if day=2 then a becomes a+2;law m rests 2 if day=2 then a becomes a+4;");
        // now 1 + 2; 0: k, l to 2; 3: nothing; 5: l to 2, m off
        Checks.same("as it is", x.amend(0, 3, 3, 4), 0);
        Checks.same("k to 2", x.amend(0, 2, 2, 4), 1);
        Checks.lie("k to 2", x, 2);
        Checks.same("m to 0", x.amend(0, 7, 7, 4), 1);
        Checks.lie("m to 0", x, 20);
        Checks.same("k and l to 2", x.amend(0, 0, 0, 4), 2);
        Checks.lie("k and l to 2", x, 2, 12);
        Checks.same("l to 2, m to 0", x.amend(0, 5, 5, 4), 2);
        Checks.lie("l to 2, m to 0", x, 12, 20);
        Checks.same("k to 2, m to 0", x.amend(0, 6, 6, 4), 2);
        Checks.lie("k to 2, m to 0", x, 2, 20);
    }

    private static void amendToDayNone() {
        RestDays x = Checks.told("week 3 hours 1;thing a 9 to 9;thing b 0 to 99;law k rests 2 if day=0 then b becomes b+1;"
                + "law l rests 1 if day=0 then b becomes b+2;law m rests 0 if day=0 then b becomes b+4;");
        Checks.same("b as it is", x.amend(1, 3, 3, 3), 0);
        Checks.same("k and l to 0", x.amend(1, 0, 0, 3), 2);
        Checks.lie("k and l to 0", x, 0, 10);
        Checks.same("k to 0, m to 1", x.amend(1, 6, 6, 3), 2);
        Checks.lie("k to 0, m to 1", x, 0, 21);
        Checks.same("all of b", x.all(1, 1, 2, 3), 2 + 2);
        Checks.lie("all of b", x, 0, 1, 0);
        Checks.same("all whatever b is", x.all(1, 0, 99, 3), 27);
        Checks.lie("all whatever b is", x, 0, 0, 0);
    }

    private static void amendFromNow() {
        RestDays x = Checks.told(TWO);
        x.hours(2);
        // a is 3, DAY 2; both work
        Checks.same("as it is", x.amend(0, 6, 6, 1), 0);
        Checks.same("k rests on DAY 2", x.amend(0, 5, 5, 1), 1);
        Checks.lie("k rests on DAY 2", x, 2);
        Checks.same("all", x.all(0, 3, 5, 1), 1 + 2 + 2);
        Checks.lie("all", x, 0, 2);
        x.shift(0, 2);
        Checks.same("FEASTS as they are", x.amend(0, 5, 5, 1), 0);
        Checks.same("k as it was", x.amend(0, 6, 6, 1), 1);
        Checks.lie("k as it was", x, 0);
        x.undo();
        x.hours(1);
        x.leap();
        // a is 6, and 9 behind the LEAP DAY whatever
        Checks.same("none rests in a LEAP DAY", x.amend(0, 6, 8, 1), NONE);
        Checks.same("all in a LEAP DAY", x.all(0, 9, 9, 1), 9);
    }

    private static void all() {
        RestDays x = Checks.told(TWO);
        Checks.same("neither rests", x.all(0, 3, 3, 1), 4);
        Checks.lie("neither rests", x, 1, 1);
        Checks.same("both rest", x.all(0, 0, 0, 1), 1);
        Checks.lie("both rest", x, 0, 0);
        Checks.same("k alone", x.all(0, 2, 2, 1), 2);
        Checks.lie("k alone", x, 0, 1);
        Checks.same("l alone", x.all(0, 1, 1, 1), 2);
        Checks.lie("l alone", x, 1, 0);
        Checks.same("whatever", x.all(0, 0, 999, 100), 9);
        Checks.lie("whatever", x, 0, 0);
        Checks.same("never", x.all(0, 9, 9, 1), 0);
        Checks.lie("never", x);
        Checks.same("in 0 HOURS", x.all(0, 0, 0, 0), 9);
        Checks.same("nothing is done", x.feast(0) + x.feast(1), 0);
        x = Checks.told("thing a 3 to 9;");
        Checks.same("no LAWS", x.all(0, 3, 3, 5), 1);
        Checks.lie("no LAWS", x);
        Checks.same("no LAWS, never", x.all(0, 4, 4, 5), 0);
    }

    private static void tooManyCalendars() {
        RestDays x = Checks.told(alikeLaws(7, 5));
        Checks.same("7 DAYS, 5 LAWS", x.all(0, 5, 5, 1), 6 * 6 * 6 * 6 * 6);
        Checks.lie("7 DAYS, 5 LAWS", x, 1, 1, 1, 1, 1);
        Checks.same("fit", x.fit(0), 16807);
        x = Checks.told(alikeLaws(8, 5));
        x.guilds(0);
        Checks.same("8 DAYS, 5 LAWS", x.all(0, 5, 5, 1), -2);
        Checks.lie("8 DAYS, 5 LAWS", x);
        Checks.same("wrong ahead of SPENT", x.all(1, 5, 5, 1), NONE);
        Checks.same("SHIFT is not SPENT", x.amend(0, 2, 2, 1), 2);
        Checks.same("9 DAYS, 4 LAWS", Checks.told(alikeLaws(9, 4)).all(0, 0, 3, 1), 9 * 9 * 9 * 9 - 8 * 8 * 8 * 8);
        Checks.same("9 DAYS, 5 LAWS", Checks.told(alikeLaws(9, 5)).all(0, 0, 3, 1), -2);
    }

    private static void wrongWishes() {
        RestDays x = Checks.told(TWO);
        int[][] wrong = {{1, 0, 0, 1}, {-1, 0, 0, 1}, {0, 1, 0, 1}, {0, -1, 0, 1}, {0, 0, 1000, 1}, {0, 0, 0, -1},
            {0, 0, 0, 101}, {0, Integer.MIN_VALUE, Integer.MAX_VALUE, 0}, {Integer.MAX_VALUE, 0, 0, 0},
            {0, 1000, 1000, 1}, {0, 0, 0, Integer.MIN_VALUE}};
        for (int[] w : wrong) {
            x.guilds(0);
            Checks.same("amend", x.amend(w[0], w[1], w[2], w[3]), NONE);
            Checks.lie("amend", x);
            x.guilds(0);
            Checks.same("all", x.all(w[0], w[1], w[2], w[3]), NONE);
            Checks.lie("all", x);
        }
        Checks.same("least and greatest", x.amend(0, 0, 999, 100), 0);
        Checks.same("999 alone", x.amend(0, 999, 999, 0), NONE);
    }

    private static void guilds() {
        String land = "week 3 hours 1;thing a 0 to 9;law k rests 0 if 1 then a becomes a+1;law l rests 2 if 1 then a becomes a+1;";
        RestDays x = Checks.told(land + "guild g of k wants a;");
        Checks.same("to the least of the best", x.guilds(1), 2);
        Checks.lie("to the least of the best", x, 1, 2);
        Checks.same("n is 0", x.guilds(0), 1);
        Checks.lie("n is 0", x, 0, 2);
        Checks.same("nothing is done", x.feast(0), 0);
        x.shift(0, 2);
        Checks.same("as it is, if that is best", x.guilds(1), 1);
        Checks.lie("as it is, if that is best", x, 2, 2);
        Checks.same("n is 100", x.guilds(100), 1);
        Checks.same("n is 101", x.guilds(101), NONE);
        Checks.lie("n is 101", x);
        Checks.same("n is -1", x.guilds(-1), NONE);
        x = Checks.told(land + "guild g of k wants a;guild h of k wants 0-a;");
        Checks.same("for and against", x.guilds(1), NONE);
        Checks.lie("for and against", x);
        x = Checks.told(land + "guild g of k wants a;guild h of l wants a*day;");
        // k to 1: 2 in one HOUR; the clock is at DAY 1 then
        Checks.same("both are well", x.guilds(1), 2);
        Checks.lie("both are well", x, 1, 2);
        x = Checks.told(land);
        Checks.same("no GUILDS", x.guilds(9), 1);
        Checks.lie("no GUILDS", x, 0, 2);
        Checks.same("no LAWS", new RestDays().guilds(9), 1);
    }

    /** Feasts x, y count to a number of two digits of 9; u, v are copies of what they were. */
    private static void thirtyTurns(int last, int due) {
        StringBuilder s = new StringBuilder("week 9 hours 1;");
        for (char c = 'u'; c <= 'x'; c++) {
            s.append("thing ").append(c).append(" 0 to 99;");
        }
        for (char c = 'u'; c <= 'x'; c++) {
            // in a week its thing comes to 36 less its FEAST
            s.append("law ").append(c).append(" rests 0 if 1 then ").append(c).append(" becomes ").append(c).append("+day;");
        }
        s.append("guild a of u wants u=w;guild b of v wants v=x;");
        s.append("guild c of w wants 36-w=(37-u-(v=33 also u=").append(last).append("))%9;");
        s.append("guild d of x wants x=v-(u=28);");
        RestDays x = Checks.told(s.toString());
        Checks.same("turns to " + last, x.guilds(9), due);
        if (due == NONE) {
            Checks.lie("turns to " + last, x);
        } else {
            Checks.lie("turns to " + last, x, 1, 3, 1, 3);
        }
    }

    private static void more() {
        RestDays x = Checks.told("week 2 hours 1;thing a 0 to 99;law k rests 0 if 1 then a becomes a+1;"
                + "law l rests 1 if 1 then a becomes a+10;ban n rests 0 if 1;gain a+day*1000;");
        // k on 1, 2; l on 0, 2
        Checks.same("n 0", x.more(0, 0, 0), 0);
        Checks.same("n 1", x.more(0, 0, 1), 1010);
        Checks.same("n 2", x.more(0, 77, 2), 2011);
        Checks.same("n 3", x.more(0, -1, 3), 22);
        Checks.same("n 4", x.more(0, 0, 4), 1032);
        // k on 0, 1
        Checks.same("k, n 1", x.more(1, 0, 1), 1011);
        Checks.same("k, n 2", x.more(1, 0, 2), 2012);
        Checks.same("k, n 3", x.more(1, 0, 3), 22);
        // l on 0, 1
        Checks.same("l, n 2", x.more(1, 1, 2), 2021);
        Checks.same("l, n 3", x.more(1, 1, 3), 22);
        Checks.same("n 100", x.more(1, 1, 100), 1099);
        Checks.same("n 101", x.more(0, 0, 101), RestDays.GAP);
        Checks.same("n -1", x.more(0, 0, -1), RestDays.GAP);
        Checks.same("what 2", x.more(2, 0, 1), RestDays.GAP);
        Checks.same("what -1", x.more(-1, 0, 1), RestDays.GAP);
        Checks.same("law 2", x.more(1, 2, 1), RestDays.GAP);
        Checks.same("law -1", x.more(1, -1, 1), RestDays.GAP);
        Checks.same("nothing is done", x.about(5), 2);
        Checks.same("nor shifted", x.feast(0), 0);
        x.hours(1);
        Checks.same("from now", x.more(0, 0, 1), 2000 + 11);
        Checks.same("without a gain", new RestDays().more(0, 0, 1), RestDays.GAP);
        Checks.same("nine and one", Checks.told("week 9 hours 1;gain day;").more(0, 0, 9), 9);
    }

    private static void moreOfLeapDay() {
        RestDays x = Checks.told("week 2 hours 1;thing a 0 to 99;law k rests 0 if 1 then a becomes a+1;gain day*10+a;");
        x.leap();
        Checks.same("as many as DAYS of the week then", x.more(0, 0, 0), 30);
        Checks.same("behind it", x.more(0, 0, 1), 1);
        Checks.same("k on the one more", x.more(1, 0, 3), 23);
    }
}
