/** Promises 1 to 5: a new object, the TAPE, a LAND and its FAULTS; what formulas come to (11). */
final class TextTest extends Texts {
    private static final String A = "thing a 1 to 2;";
    private static final String[] RESERVED = {"week", "hours", "thing", "to", "law", "rests", "if", "then",
        "and", "deed", "ban", "goal", "gain", "guild", "of", "wants", "becomes", "or", "also", "not", "day",
        "hour"};

    public static void main(String[] args) {
        newObject();
        tape();
        landStands();
        landAgainAndAgain();
        faultLeavesAll();
        tokens();
        places();
        numbers();
        names();
        howMany();
        units();
        within();
        formulas();
        Checks.finish();
    }

    private static void newObject() {
        RestDays x = new RestDays();
        int[] due = {0, 0, 0, 0, 0, 7, 4, 0, 0, 0, 0, 0, 0, 0, 0, 0, 0, 0};
        for (int i = 0; i < due.length; i++) {
            Checks.same("new: about(" + i + ")", x.about(i), due[i]);
        }
        Checks.same("new: about(18)", x.about(18), RestDays.NONE);
        Checks.same("new: about(-1)", x.about(-1), RestDays.NONE);
        Checks.same("new: thing(0)", x.thing(0), RestDays.NONE);
        Checks.same("new: feast(0)", x.feast(0), RestDays.NONE);
        Checks.same("new: broken()", x.broken(), 0);
        Checks.same("new: says(0)", x.says(0), 0);
        Checks.same("new: says(1)", x.says(1), 0);
        Checks.same("new: fault(0)", x.fault(0), 0);
        Checks.same("new: fault(1)", x.fault(1), RestDays.NONE);
        Checks.same("new: hours(3)", x.hours(3), 3);
        Checks.same("new: fit(0)", x.fit(0), 1);
        Checks.lie("new", x);
    }

    private static void tape() {
        RestDays x = new RestDays();
        Checks.same("end(0) of none", x.end(0), 0);
        Checks.same("end(1) of none", x.end(1), RestDays.NONE);
        for (int i = 1; i <= 85; i++) {
            Checks.same("feed " + i, x.feed(0x20202020, 0x20202020, 0x20202020, 0x20202020, 0x20202020), 20 * i);
        }
        Checks.same("feed 86", x.feed(0, 0, 0, 0, 0), RestDays.NONE);
        Checks.same("full", x.about(15), 1700);
        Checks.same("end(1701)", x.end(1701), RestDays.NONE);
        Checks.same("end(-1)", x.end(-1), RestDays.NONE);
        Checks.same("end(min)", x.end(Integer.MIN_VALUE), RestDays.NONE);
        Checks.same("still full", x.about(15), 1700);
        Checks.same("end(1681)", x.end(1681), 1681);
        Checks.same("one too many", x.feed(0, 0, 0, 0, 0), RestDays.NONE);
        Checks.same("end(1680)", x.end(1680), 1680);
        Checks.same("just full", x.feed(0x20202020, 0x20202020, 0x20202020, 0x20202020, 0x676f616c), 1700);
        Checks.same("goal at its end", x.land(), RestDays.NONE);
        Checks.same("fault", x.fault(0), 2);
        Checks.same("the text's length", x.fault(1), 1700);
        Checks.same("empty then", x.about(15), 0);
        // the highest byte of a number is the first: "goal" "9;  " cut behind the ;
        x.feed(0x676f616c, 0x20393b24, 0x24242424, 0x24242424, 0x24242424);
        Checks.same("end(7)", x.end(7), 7);
        Checks.same("land", x.land(), 0);
        Checks.same("goal", x.says(0), 9);
    }

    private static void landStands() {
        RestDays x = Checks.told("week 3 hours 2;thing a 2 to 9;law k rests 1 if a>0 then a becomes a-1;"
                + "deed d if 1 then a becomes 9;ban n rests 2 if a>8;goal 1;");
        x.hours(2);
        x.leap();
        x.look(1, 0, 1);
        x.later(5);
        x.image(1);
        x.plan(1);
        x.guilds(1);
        Checks.same("lie there", x.about(17), 1);
        Checks.same("again", Checks.land(x, A + "thing b 7 to 7;"), 2);
        int[] due = {2, 0, 0, 0, 0, 7, 4, 0, 0, 0, 0, 0, 0, 0, 5, 0, 0, 0};
        for (int i = 0; i < due.length; i++) {
            Checks.same("told again: about(" + i + ")", x.about(i), due[i]);
        }
        Checks.same("told again: thing(0)", x.thing(0), 1);
        Checks.same("told again: thing(1)", x.thing(1), 7);
        Checks.same("told again: thing(2)", x.thing(2), RestDays.NONE);
        Checks.same("told again: back(1)", x.back(1), RestDays.NONE);
        Checks.no("told again: undo()", x.undo());
        Checks.same("an empty LAND", x.land(), 0);
        Checks.same("an empty LAND: thing(0)", x.thing(0), RestDays.NONE);
        Checks.same("blanks", Checks.land(x, " \n\n  "), 0);
        Checks.same("blanks: fault", x.fault(0), 0);
    }

    private static void landAgainAndAgain() {
        RestDays x = new RestDays();
        for (int i = 0; i < 25; i++) {
            String e = "1" + Checks.many("+1", 28);
            String land = "thing a 1 to 2;goal " + e + "+" + i + ";gain " + e + "-" + i + ";";
            Checks.same("land " + i, Checks.land(x, land), 1);
            Checks.same("units " + i, x.about(16), 60);
            Checks.same("goal " + i, x.says(0), 29 + i);
            Checks.same("gain " + i, x.says(1), 29 - i);
            Checks.same("HOUR " + i, x.about(8), 0);
            Checks.same("HOURS " + i, x.about(9), 0);
            Checks.same("DAY " + i, x.about(7), 0);
            x.hours(i % 20);
        }
        x = Checks.told("ban n rests 6 if 1;");
        x.hours(5);
        x.image(0);
        Checks.same("crimes", x.about(10), 5);
        Checks.land(x, "ban n rests 0 if 1;");
        Checks.same("no crimes", x.about(10), 0);
        Checks.same("empty boxes", x.back(0), RestDays.NONE);
        x.hours(5);
        x.undo();
        Checks.same("undone to what was told", x.about(8), 0);
        Checks.same("undone to no HOUR", x.about(9), 0);
    }

    private static void faultLeavesAll() {
        RestDays x = Checks.told("thing a 1 to 9;law k rests 3 if 1 then a becomes a+1;goal a=4;gain a;");
        x.hours(1);
        x.shift(0, 2);
        x.undo();
        x.look(2, 0, 3);
        x.image(2);
        x.plan(5);
        Checks.same("a fault", Checks.land(x, "thing b 0 to 0;ban"), RestDays.NONE);
        Checks.same("a fault: 0", x.fault(0), 2);
        Checks.same("a fault: 1", x.fault(1), 18);
        Checks.same("a fault: 2", x.fault(2), RestDays.NONE);
        Checks.same("a fault: -1", x.fault(-1), RestDays.NONE);
        Checks.same("a fault: tape", x.about(15), 0);
        Checks.same("a fault: thing(0)", x.thing(0), 2);
        Checks.same("a fault: thing(1)", x.thing(1), RestDays.NONE);
        Checks.same("a fault: feast(0)", x.feast(0), 3);
        Checks.same("a fault: says(0)", x.says(0), 0);
        Checks.same("a fault: hours", x.about(9), 1);
        Checks.same("a fault: acts", x.about(11), 1);
        Checks.same("a fault: acts again", x.about(12), 1);
        Checks.same("a fault: looks", x.about(13), 1);
        Checks.same("a fault: units", x.about(16), 6);
        Checks.same("a fault: will(0, 2)", x.will(0, 2), 4);
        Checks.lie("a fault", x, RestDays.NONE, RestDays.NONE);
        Checks.same("a fault: back", x.back(2), 1);
        Checks.same("then none", x.land(), 0);
        Checks.same("then none: 0", x.fault(0), 0);
        Checks.same("then none: 1", x.fault(1), RestDays.NONE);
    }

    private static void tokens() {
        fault("$", 1, 0);
        fault("goal 1;!", 1, 7);
        fault("goal 1\t;", 1, 6);
        fault("goal 1\r;", 1, 6);
        fault("goal A;", 1, 5);
        fault("goal \u00ff;", 1, 5);
        fault("goal \u0000;", 1, 5);
        fault("goal 1:2;", 1, 6);
        fault("goal 12345;", 1, 5);
        fault("goal 00001;", 1, 5);
        fault("goal 1a;", 1, 5);
        fault("goal 1or 1;", 1, 5);
        fault("goal 99999x;", 1, 5);
        fault("goal 1A;", 1, 6);
        fault("thing abcdefghi 1 to 2;", 1, 6);
        fault("thing a1to2;", 1, 7);
        fault("thing a`", 1, 7);
        fault("thing a{", 1, 7);
        fault("thing a 1/", 2, 9);
        // what is no TOKEN is one fault only where it is come to
        fault("thing $ 1 to 2;", 1, 6);
        fault("then $", 2, 0);
        fault("goal;$", 2, 4);
        Checks.same("as long as can be", good("thing abcdefgh 3 to 4;").thing(0), 3);
        Checks.same("blanks part or not", good("thing\na1 to2;goal(a)>0 also 0009=9;").says(0), 1);
        Checks.same("no blanks", good(A + "law k rests 6if1then a becomes 2;".replace("6if1", "6 if 1 ")).feast(0), 6);
    }

    private static void places() {
        fault("thing a 1 to 2", 2, 14);
        fault("thing a 1 to 2  \n", 2, 17);
        fault("thing a 1 2;", 2, 10);
        fault("thing 1 to 2;", 2, 6);
        fault("thing a to 2;", 2, 8);
        fault("a;", 2, 0);
        fault(";", 2, 0);
        fault("goal 1;;", 2, 7);
        fault("5", 2, 0);
        fault(A + "week 3 hours 2;", 2, 15);
        fault("goal 1;week 3 hours 2;", 2, 7);
        fault("week 3 hours 2;week 3 hours 2;", 2, 15);
        fault("goal 1;gain 2;goal 3;", 2, 14);
        fault("gain 1;gain 2;", 2, 7);
        fault("week three", 2, 5);
        fault("week 3 2", 2, 7);
        fault("goal ;", 2, 5);
        fault("goal 1 or", 2, 9);
        fault("goal 1 or or 1;", 2, 10);
        fault("goal 1 1;", 2, 7);
        fault("goal 1+;", 2, 7);
        fault("goal -1;", 2, 5);
        fault("goal 1+not 1;", 2, 7);
        fault("goal 1=not 1;", 2, 7);
        fault("goal not;", 2, 8);
        fault("goal (1;", 2, 7);
        fault("goal 1);", 2, 6);
        fault("goal ();", 2, 6);
        fault("goal 1<2<3;", 2, 8);
        fault("goal 1=1>0;", 2, 8);
        fault("goal 1<=2;", 2, 7);
        fault("goal then;", 2, 5);
        fault("law k rests 7 if 1 then a becomes 1;", 4, 12);
        fault(A + "law k if 1 then a becomes 1;", 2, 21);
        fault(A + "law k rests 0 then", 2, 29);
        fault(A + "law k rests 0 if 1;", 2, 33);
        fault(A + "law k rests 0 if 1 then;", 2, 38);
        fault(A + "law k rests 0 if 1 then a = 2;", 2, 41);
        fault(A + "law k rests 0 if 1 then a becomes 1 and;", 2, 54);
        fault(A + "deed d rests 0", 2, 22);
        fault(A + "deed d if 1 then a becomes 1, a", 1, 43);
        fault("ban b if 1;", 2, 6);
        fault("ban b rests 1 if 1 then", 2, 19);
        fault("guild g wants 1;", 2, 8);
        fault("guild g of 1", 2, 11);
        fault("guild g of not", 2, 11);
        fault(A + "law k rests 0 if 1 then a becomes 1;guild g of k rests", 2, 64);
    }

    private static void numbers() {
        fault("week 1 hours 1;", 4, 5);
        fault("week 10 hours 1;", 4, 5);
        fault("week 0 hours 1;", 4, 5);
        fault("week 2 hours 0;", 4, 13);
        fault("week 9 hours 7;", 4, 13);
        fault("thing a 1000 to 1000;", 4, 8);
        fault("thing a 999 to 1000;", 4, 15);
        fault("thing a 5 to 4;", 4, 13);
        fault("week 3 hours 1;ban b rests 3 if 1;", 4, 27);
        fault("ban b rests 7 if 1;", 4, 12);
        fault("week 2 hours 1;" + A + "law k rests 2 if 1", 4, 42);
        RestDays x = good("week 2 hours 1;thing a 0 to 0;thing b 999 to 999;law k rests 1 if 1 then a becomes 1;"
                + "ban b rests 1 if 9999;goal 9999-0;gain 0000;");
        Checks.same("least week", x.about(5), 2);
        Checks.same("least hours", x.about(6), 1);
        Checks.same("greatest thing", x.thing(1), 999);
        Checks.same("greatest N", x.says(0), 9999);
        x = good("week 9 hours 6;ban b rests 8 if 1;");
        Checks.same("greatest week", x.about(5), 9);
        Checks.same("greatest hours", x.about(6), 6);
        good("week 7 hours 4;ban b rests 6 if 1;");
    }

    private static void names() {
        for (String word : RESERVED) {
            fault("thing " + word + " 1 to 2;", 2, 6);
            fault("ban " + word, 2, 4);
        }
        good("thing e 1 to 2;thing any 1 to 2;thing set 1 to 2;thing unit 1 to 2;thing weeks 1 to 2;goal e;");
        fault(A + "thing a 1 to 2;", 3, 21);
        fault(A + "law k rests 0 if 1 then a becomes 1;law k", 3, 55);
        fault(A + "deed k if 1 then a becomes 1;deed k", 3, 49);
        fault("ban k rests 0 if 1;ban k", 3, 23);
        fault(A + "law k rests 0 if 1 then a becomes 1;guild g of k wants 1;guild g", 3, 78);
        RestDays x = good(A + "law a rests 0 if 1 then a becomes 1;deed a if 1 then a becomes 1;ban a rests 0 if 1;"
                + "guild a of a wants a;");
        Checks.same("of its sort alone", x.about(4), 1);
        fault("goal a;", 5, 5);
        fault("goal a;" + A, 5, 5);
        fault(A + "goal b;", 5, 20);
        fault(A + "law k rests 0 if b then", 5, 32);
        fault(A + "law k rests 0 if k then", 5, 32);
        fault(A + "law k rests 0 if 1 then b becomes 1;", 5, 39);
        fault(A + "law k rests 0 if 1 then a becomes b;", 5, 49);
        fault(A + "deed d if d", 5, 25);
        fault("guild g of k wants 1;", 5, 11);
        fault(A + "guild g of a wants 1;", 5, 26);
        fault(A + "guild g of k wants 1;law k rests 0 if 1 then a becomes 1;", 5, 26);
        fault("thing a 5 to 4;goal b;", 4, 13);
        fault("goal b;thing a 5 to 4;", 5, 5);
    }

    private static void howMany() {
        StringBuilder s = new StringBuilder();
        for (int i = 0; i < 6; i++) {
            s.append("thing ").append((char) ('a' + i)).append(" 1 to 2;");
        }
        Checks.same("6 THINGS", good(s.toString()).about(0), 6);
        fault(s + "thing g 1 to 2;", 2, s.length());
        fault(s + "thing 7", 2, s.length());
        s.setLength(0);
        s.append(A);
        for (int i = 0; i < 5; i++) {
            s.append("law ").append((char) ('a' + i)).append(" rests 0 if 1 then a becomes 1;");
        }
        Checks.same("5 LAWS", good(s.toString()).about(1), 5);
        fault(s + "law a", 2, s.length());
        for (int i = 0; i < 6; i++) {
            s.append("deed ").append((char) ('a' + i)).append(" if 1 then a becomes 1;");
        }
        Checks.same("6 DEEDS", good(s.toString()).about(2), 6);
        fault(s + "deed g", 2, s.length());
        for (int i = 0; i < 4; i++) {
            s.append("ban ").append((char) ('a' + i)).append(" rests 0 if 1;");
        }
        Checks.same("4 BANS", good(s.toString()).about(3), 4);
        fault(s + "ban g", 2, s.length());
        for (int i = 0; i < 4; i++) {
            s.append("guild ").append((char) ('a' + i)).append(" of b wants 1;");
        }
        Checks.same("4 GUILDS", good(s.toString()).about(4), 4);
        fault(s + "guild g", 2, s.length());
        String four = "if 1 then a becomes 1 and a becomes 2 and a becomes 0 and a becomes 2";
        good(A + "deed d " + four + ";law k rests 0 " + four + ";");
        fault(A + "deed d " + four + " and a becomes 1;", 2, 15 + 7 + four.length() + 1);
        fault(A + "law k rests 0 " + four + " and", 2, 15 + 14 + four.length() + 1);
    }

    private static void units() {
        String thirty = "1" + Checks.many("+1", 29);
        Checks.same("30 units", good("goal " + thirty + ";").says(0), 30);
        fault("goal " + thirty + "+1;", 2, 5 + 60);
        fault("goal " + thirty + "+b;", 2, 5 + 60);
        fault("goal " + thirty + "+$;", 1, 5 + 60);
        fault("goal " + thirty + "+(1);", 2, 5 + 60);
        // ( e ) is a unit, and what is in it
        Checks.same("28 in ( ) in ( )", good("goal ((1" + Checks.many("+1", 27) + "));").about(16), 30);
        fault("goal ((1" + Checks.many("+1", 28) + "));", 2, 5 + 2 + 56);
        Checks.same("day, hour, a NAME", good(A + "goal day+hour+a;").about(16), 3);
        String all = "goal " + thirty + ";gain " + thirty + ";";
        for (int i = 0; i < 3; i++) {
            all += "ban " + (char) ('a' + i) + " rests 0 if " + thirty + ";";
        }
        Checks.same("150 units", good(all).about(16), 150);
        fault(all + "ban d rests 0 if 1;", 2, all.length() + 17);
        fault(all + "ban d rests 0 if not (1);", 2, all.length() + 21);
        fault(all + "ban d rests 0 if b;", 2, all.length() + 17);
        String fewer = all.substring(0, all.length() - 3) + ";ban d rests 0 if 7;";
        Checks.same("150 units in six", good(fewer).about(16), 150);
    }

    private static void within() {
        Checks.same("7 ( )", good("goal " + Checks.many("(", 7) + "5" + Checks.many(")", 7) + ";").says(0), 5);
        fault("goal " + Checks.many("(", 8) + "5", 2, 12);
        Checks.same("7 nots", good("goal " + Checks.many("not ", 7) + "5;").says(0), 0);
        fault("goal " + Checks.many("not ", 8) + "5;", 2, 33);
        fault("goal " + Checks.many("not ", 8) + "$;", 2, 33);
        Checks.same("7 of both", good("goal not(not(not(not 3)));").says(0), 1);
        fault("goal not(not(not(not((", 2, 20);
        fault("goal (not(not(not(not ", 2, 18);
        // one behind the other they are not within one another
        Checks.same("side by side", good("goal " + Checks.many("(((((((1)))))))+", 2) + "(((((((1)))))));").says(0), 3);
        Checks.same("not and not", good("goal not not 1 also not not not 0 or not 1;").says(0), 1);
    }

    private static void formulas() {
        comes("1+2*3", 7);
        comes("(1+2)*3", 9);
        comes("9-4-3", 2);
        comes("9-(4-3)", 8);
        comes("17/5", 3);
        comes("(0-17)/5", -3);
        comes("(0-17)%5", -2);
        comes("17%(0-5)", 2);
        comes("17/5*5+17%5", 17);
        comes("100/10/5", 2);
        comes("2*9/4", 4);
        comes("7/0", 0);
        comes("7%0", 0);
        comes("0/0", 0);
        comes("2048*1024*1024", Integer.MIN_VALUE);
        comes("2048*1024*1024-1", Integer.MAX_VALUE);
        comes("2048*1024*1024/(0-1)", Integer.MIN_VALUE);
        comes("2048*1024*1024%(0-1)", 0);
        comes("9999*9999*9999", 9999 * 9999 * 9999);
        comes("a", 7);
        comes("a=7", 1);
        comes("a<7", 0);
        comes("a>6", 1);
        comes("1+1=2", 1);
        comes("0-1<1", 1);
        comes("5", 5);
        comes("5 also 3", 1);
        comes("5 also 0", 0);
        comes("0 or 4", 1);
        comes("0 or 0", 0);
        comes("(0-1) or 0", 1);
        comes("not 0", 1);
        comes("not 5", 0);
        comes("not 0-1", 0);
        comes("not a=8", 1);
        comes("not a=7 or 1", 1);
        comes("not 0 also 0", 0);
        comes("1 or 0 also 0", 1);
        comes("(1 or 0) also 0", 0);
        comes("0 also 1 or 1", 1);
        comes("(2<3)+(3<4)", 2);
        comes("(not 1)*5", 0);
        comes("day*10+hour", 0);
    }
}
