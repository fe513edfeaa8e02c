/** Promises 22 to 24 and 29: PLAN, MOST, LOOPHOLE and what lies there. */
final class DeedsTest {
    public static void main(String[] args) {
        plan();
        lawful();
        byTheClock();
        planOfNothing();
        spent(203);
        spent(202);
        spentButFor(443);
        spentButFor(442);
        most();
        mostOfGap();
        loophole();
        loopholeOfHours();
        lies();
        Checks.finish();
    }

    private static void plan() {
        RestDays x = Checks.told("thing a 0 to 99;deed x if 1 then a becomes a+1;deed y if a>0 then a becomes a*2;"
                + "goal a=8;");
        Checks.same("plan(3)", x.plan(3), RestDays.NONE);
        Checks.lie("plan(3)", x);
        Checks.same("plan(4)", x.plan(4), 4);
        Checks.lie("plan(4): x x y y ahead of x y y y", x, 0, 0, 1, 1);
        Checks.same("plan(20)", x.plan(20), 4);
        Checks.lie("plan(20)", x, 0, 0, 1, 1);
        Checks.same("nothing is done", x.thing(0), 0);
        x.deed(0);
        Checks.same("plan(4) from 1", x.plan(4), 3);
        Checks.lie("plan(4) from 1", x, 0, 1, 1);
        x = Checks.told("thing a 0 to 9;deed x if 0 then a becomes 9;law k rests 6 if 1 then a becomes a+1;goal a=2;");
        Checks.same("by none", x.plan(2), 2);
        Checks.lie("by none", x, RestDays.NONE, RestDays.NONE);
        x = Checks.told("thing a 0 to 9;deed x if 1 then a becomes a;law k rests 6 if 1 then a becomes a+1;goal a=2;");
        Checks.same("none comes last", x.plan(2), 2);
        Checks.lie("none comes last", x, 0, 0);
        x = Checks.told("thing a 0 to 20;deed x if 1 then a becomes a+1;goal a=20;");
        Checks.same("plan(19)", x.plan(19), RestDays.NONE);
        Checks.same("plan(20) at last", x.plan(20), 20);
        Checks.same("20 lie there", x.about(17), 20);
    }

    private static void lawful() {
        String land = "week 2 hours 1;thing a 0 to 9;deed x if 1 then a becomes 4;deed y if a=3 then a becomes 5;"
                + "deed z if 1 then a becomes 3;ban n rests 1 if a=3;";
        RestDays x = Checks.told(land + "goal a=5;");
        // 3 is no crime on DAY 1 alone
        Checks.same("a way round", x.plan(9), 3);
        Checks.lie("a way round", x, 0, 2, 1);
        x.hours(1);
        Checks.same("at once", x.plan(9), 2);
        Checks.lie("at once", x, 2, 1);
        x = Checks.told(land + "goal a=3;");
        Checks.same("plan(1)", x.plan(1), RestDays.NONE);
        Checks.same("on DAY 1", x.plan(2), 2);
        Checks.lie("on DAY 1", x, 0, 2);
        x = Checks.told("thing a 0 to 9;ban n rests 6 if 1;goal hour=1;");
        Checks.same("nothing is lawful", x.plan(5), RestDays.NONE);
        x = Checks.told("thing a 0 to 9;deed x if 1 then a becomes 5;law k rests 3 if a=5 then a becomes 6;"
                + "ban n rests 3 if a=5;goal a=6;");
        Checks.same("bans are behind the LAWS", x.plan(1), 1);
    }

    private static void byTheClock() {
        RestDays x = Checks.told("goal day=1;");
        Checks.same("plan(3)", x.plan(3), RestDays.NONE);
        Checks.same("plan(4)", x.plan(4), 4);
        Checks.lie("plan(4)", x, -1, -1, -1, -1);
        x = Checks.told("ban n rests 6 if hour=3;goal day=1;");
        Checks.same("the HOUR in which it is", x.plan(4), RestDays.NONE);
        x = Checks.told("ban n rests 6 if day=1;goal day=1;");
        Checks.same("not the one behind it", x.plan(4), 4);
        x.leap();
        Checks.same("a LEAP DAY ahead", x.plan(20), 8);
        x = Checks.told("thing a 0 to 1;deed x if day=7 then a becomes 1;goal a;");
        Checks.same("in a week", x.plan(20), RestDays.NONE);
        x.leap();
        Checks.same("in a LEAP DAY", x.plan(20), 1);
    }

    private static void planOfNothing() {
        RestDays x = Checks.told("goal 1;gain 1;");
        Checks.same("goal already", x.plan(1), 0);
        Checks.lie("goal already", x);
        x.most(2);
        Checks.same("plan(0)", x.plan(0), RestDays.NONE);
        Checks.lie("plan(0)", x);
        Checks.same("plan(21)", x.plan(21), RestDays.NONE);
        Checks.same("plan(-1)", x.plan(-1), RestDays.NONE);
        Checks.same("plan(max)", x.plan(Integer.MAX_VALUE), RestDays.NONE);
        Checks.same("plan(20)", x.plan(20), 0);
        Checks.same("without a goal", new RestDays().plan(1), RestDays.NONE);
    }

    /** 1, 7, 49, 343, 2,401 and, but for those that become one, 2,401 again. */
    private static void spent(int ones) {
        StringBuilder s = new StringBuilder("week 2 hours 6;thing a 0 to 999;thing b 0 to 9;"
                + "law k rests 1 if hour<2 then a becomes a*7;"
                + "law l rests 1 if hour=4 also b=6 also a<" + ones + " then a becomes 0;");
        for (int d = 1; d <= 6; d++) {
            s.append("deed ").append((char) ('a' + d)).append(" if hour<4 then a becomes a+").append(d);
            s.append("*(hour<3) and b becomes b+").append(d).append("*(hour>2);");
        }
        s.append("gain a+b*1000;goal hour=5;");
        // what is come to by a crime alone does not count
        RestDays x = Checks.told(s + "ban n rests 1 if hour=4 also a=341 also b=6;");
        Checks.same("plan(5) but for a crime, of " + ones, x.plan(5), 5);
        x = Checks.told(s.toString());
        Checks.same("most(4)", x.most(4), 6342);
        Checks.lie("most(4)", x, 5, 5, 5, 5);
        boolean isSpent = ones == 202;
        Checks.same("plan(5) of " + ones, x.plan(5), isSpent ? -2 : 5);
        Checks.same("lie there of " + ones, x.about(17), isSpent ? 0 : 5);
        x.plan(5);
        Checks.same("most(5) of " + ones, x.most(5), isSpent ? RestDays.GAP - 1 : 6342);
        Checks.same("lie there then of " + ones, x.about(17), isSpent ? 0 : 5);
        Checks.same("most(6) of " + ones, x.most(6), RestDays.GAP - 1);
        Checks.lie("most(6)", x);
        Checks.same("plan(4) of " + ones, x.plan(4), RestDays.NONE);
        // l alone rests: 1, 7, 49, 343, 2,401, 2,401
        Checks.same("loophole of " + ones, x.loophole(0, 1), RestDays.GAP - 1);
    }

    /** 1, 6, 36, 216, 1,296 and, but for those that become another, 3,888; a is come to again. */
    private static void spentButFor(int others) {
        StringBuilder s = new StringBuilder("week 2 hours 6;thing a 0 to 999;thing b 0 to 9;thing c 0 to 9;"
                + "law k rests 1 if hour<2 then a becomes a*6;"
                + "law l rests 1 if hour=4 also c=2 also a*6+b<" + others
                + " then a becomes 0 and b becomes 0 and c becomes 0;deed a if 1 then a becomes a;");
        for (int d = 1; d <= 5; d++) {
            s.append("deed ").append((char) ('a' + d)).append(" if hour<").append(d < 3 ? 5 : 4);
            s.append(" then a becomes a+").append(d).append("*(hour<3) and b becomes b+").append(d);
            s.append("*(hour=3) and c becomes c+").append(d).append("*(hour=4);");
        }
        s.append("gain a+b*1000+c*9000;goal c=1 also a=215 also b=5;");
        RestDays x = Checks.told(s.toString());
        boolean isSpent = others == 442;
        Checks.same("plan(5) but for " + others, x.plan(5), isSpent ? -2 : 5);
        Checks.same("lie there but for " + others, x.about(17), isSpent ? 0 : 5);
        Checks.same("most(5) but for " + others, x.most(5), isSpent ? RestDays.GAP - 1 : 23215);
        if (!isSpent) {
            Checks.lie("most(5) but for " + others, x, 5, 5, 5, 5, 2);
        }
    }

    private static void most() {
        RestDays x = Checks.told("week 2 hours 1;thing a 1 to 99;deed x if 1 then a becomes a+3;"
                + "deed y if a<20 then a becomes a*2;deed z if 1 then a becomes a+3;ban n rests 1 if a=7;gain a;");
        Checks.same("most(1)", x.most(1), 4);
        Checks.lie("most(1)", x, 0);
        Checks.same("most(2)", x.most(2), 8);
        Checks.lie("most(2)", x, 0, 1);
        // 4 8 16: and 7 of DAY 1 would come to 14
        Checks.same("most(3)", x.most(3), 16);
        Checks.lie("most(3)", x, 0, 1, 1);
        Checks.same("most(6)", x.most(6), 41);
        Checks.lie("most(6)", x, 0, 1, 1, 0, 1, 0);
        Checks.same("most(0)", x.most(0), RestDays.GAP);
        Checks.lie("most(0)", x);
        Checks.same("most(7)", x.most(7), RestDays.GAP);
        Checks.same("most(-1)", x.most(-1), RestDays.GAP);
        Checks.same("most(max)", x.most(Integer.MAX_VALUE), RestDays.GAP);
        Checks.same("nothing is done", x.thing(0), 1);
        Checks.same("without a gain", new RestDays().most(1), RestDays.GAP);
        x = Checks.told("ban n rests 1 if hour=2;gain hour;");
        Checks.same("by the clock gone on", x.most(2), 2);
        Checks.same("nothing is lawful", x.most(3), RestDays.GAP);
        Checks.lie("nothing is lawful", x);
        x = Checks.told("thing a 0 to 9;thing b 0 to 9;deed x if b<2 then a becomes a+1 and b becomes 1;"
                + "deed y if 1 then a becomes a+1;gain a;");
        Checks.same("like gains", x.most(2), 2);
        Checks.lie("the first of like ones", x, 0, 0);
        x = Checks.told("thing a 0 to 9;deed x if 1 then a becomes 1;deed y if 1 then a becomes 2;gain 0-a;");
        Checks.same("below 0 or none", x.most(2), 0);
        Checks.lie("below 0 or none", x, -1, -1);
    }

    private static void mostOfGap() {
        RestDays x = Checks.told("thing a 0 to 9;law k rests 0 if 1 then a becomes a;law l rests 0 if 1 then a becomes a;"
                + "gain 0-1000*1000;");
        Checks.same("a gain of GAP", x.most(1), RestDays.GAP);
        Checks.lie("a gain of GAP", x, -1);
        Checks.same("loophole", x.loophole(0, 1), 0);
        x = Checks.told("gain 0-1000*1000-1;");
        Checks.same("a gain of GAP - 1", x.most(2), RestDays.GAP - 1);
        Checks.lie("a gain of GAP - 1", x, -1, -1);
    }

    private static void loophole() {
        String land = "week 2 hours 1;thing a 10 to 99;law k rests 1 if 1 then a becomes a-2;"
                + "law l rests 1 if 1 then a becomes a-3;law m rests 0 if 1 then a becomes a-4;";
        RestDays x = Checks.told(land + "gain a*day;");
        // m never rests: 6; k or l besides: 3 or 4
        Checks.same("k, l", x.loophole(0, 1), 6 - 4 + 1 - 1);
        Checks.same("l, k", x.loophole(1, 0), 2);
        // 10 - 2 = 8 of both; 5 and 4 of one
        Checks.same("l, m", x.loophole(1, 2), 3);
        Checks.same("k, m", x.loophole(0, 2), 2);
        Checks.same("the same", x.loophole(0, 0), RestDays.GAP);
        Checks.same("3", x.loophole(0, 3), RestDays.GAP);
        Checks.same("-1", x.loophole(-1, 0), RestDays.GAP);
        x.hours(1);
        x.leap();
        x.shift(0, 0);
        // a is 5: what is below 0 comes to 0
        Checks.same("THINGS as they are", x.thing(0), 5);
        Checks.same("k, l then", x.loophole(0, 1), 1);
        Checks.same("still in the LEAP DAY", x.about(7), 2);
        Checks.same("without a gain", Checks.told(land).loophole(0, 1), RestDays.GAP);
        x = Checks.told(land + "ban n rests 0 if a=6;gain a;");
        Checks.same("no BAN rests", x.loophole(0, 1), RestDays.GAP);
        Checks.same("others are lawful", x.loophole(1, 2), 3);
        x = Checks.told(land + "ban n rests 1 if a=3;gain a;");
        Checks.same("a crime of one alone", x.loophole(0, 1), RestDays.GAP);
        x = Checks.told("week 2 hours 1;thing a 0 to 1;law k rests 0 if 1 then a becomes 1;"
                + "law l rests 1 if 1 then a becomes 1;gain (1-2*a)*2048*1024*1024+a;");
        // both: MIN; one: MIN + 1
        Checks.same("MIN - (MIN + 1)", x.loophole(0, 1), -1);
        x = Checks.told("week 2 hours 1;thing a 0 to 1;law k rests 0 if 1 then a becomes 1;"
                + "law l rests 1 if 1 then a becomes 1;gain 2048*1024*1024-1+a;");
        Checks.same("MAX - MIN wraps", x.loophole(0, 1), -1);
    }

    private static void loopholeOfHours() {
        RestDays x = Checks.told("week 3 hours 3;thing a 0 to 99;law k rests 1 if a>4 then a becomes a-5;"
                + "law l rests 2 if hour=1 then a becomes a-1;deed x if 1 then a becomes a+4;gain a+day*100+hour;");
        // both: 12; k alone: 4 8-1 11; l alone: 4 8-5=3 7-5=2, better 4 4 8-5=3, or 4 3 3
        Checks.same("of three HOURS", x.loophole(0, 1), 12 - 11);
        x.hours(4);
        Checks.same("DAY 0 by its number", x.loophole(0, 1), 1);
        x = Checks.told("week 2 hours 3;thing a 0 to 99;law k rests 1 if hour=0 then a becomes a+1;"
                + "law l rests 1 if hour=2 then a becomes a+5;law m rests 0 if day=1 then a becomes 50;"
                + "gain a*(hour=0)*(day=1);");
        for (int h = 0; h < 3; h++) {
            // neither: 0; k: 1; l: 5
            Checks.same("from HOUR 0, at HOUR " + h, x.loophole(0, 1), -5);
            x.hours(1);
            x.deed(0);
        }
    }

    private static void lies() {
        RestDays x = Checks.told("thing a 0 to 9;law k rests 1 if 1 then a becomes a+1;law l rests 1 if 1 then a becomes a;"
                + "goal a=3;gain a;");
        Checks.lie("nothing", x);
        x.plan(3);
        Checks.lie("a plan", x, -1, -1, -1);
        x.loophole(0, 1);
        x.hours(1);
        x.undo();
        x.will(0, 1);
        x.round(0);
        x.fit(0);
        x.more(0, 0, 1);
        x.image(0);
        x.back(0);
        Checks.lie("it lies there still", x, -1, -1, -1);
        Checks.same("lies(min)", x.lies(Integer.MIN_VALUE), RestDays.GAP);
        Checks.same("lies(max)", x.lies(Integer.MAX_VALUE), RestDays.GAP);
        x.most(9);
        Checks.lie("behind GAP nothing", x);
    }
}
