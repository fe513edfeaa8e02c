/** Promises 30 to 35: LOOKS, the TIME, FIT and ASK. */
final class LooksTest extends Texts {
    private static final int NONE = RestDays.NONE;
    private static final String TWO = "week 3 hours 1;thing a 0 to 9;thing b 0 to 9;"
            + "law k rests 0 if 1 then a becomes a+1;law l rests 0 if 1 then b becomes b+1;";

    public static void main(String[] args) {
        looks();
        times();
        fromTheBeginning();
        twentyLooks();
        against();
        time();
        spent();
        wrongInputs();
        Checks.finish();
    }

    private static void known(String what, RestDays x, int k, int fit, int first, int second) {
        Checks.same(what + ": fit(" + k + ")", x.fit(k), fit);
        Checks.same(what + ": rests(0, " + k + ")", x.rests(0, k), first);
        Checks.same(what + ": rests(1, " + k + ")", x.rests(1, k), second);
    }

    private static void asks(String what, RestDays x, int n, int k, int thing, int left) {
        Checks.same(what + ": ask(" + n + ", 0, " + k + ")", x.ask(n, 0, k), thing);
        Checks.same(what + ": ask(" + n + ", 1, " + k + ")", x.ask(n, 1, k), left);
    }

    private static void looks() {
        RestDays x = Checks.told(TWO);
        known("no LOOKS", x, 0, 9, 7, 7);
        asks("no LOOKS", x, 0, 0, 0, 9);
        asks("no LOOKS", x, 1, 0, 0, 6);
        Checks.same("look 0", x.look(1, 0, 1), 0);
        known("k not on 0", x, 0, 6, 6, 7);
        asks("k not on 0", x, 1, 0, 1, 4);
        asks("k not on 0", x, 2, 0, 0, 3);
        Checks.same("look 1", x.look(2, 1, 1), 1);
        known("l on 0 or 1", x, 0, 4, 6, 3);
        asks("both", x, 1, 0, 1, 2);
        asks("both", x, 2, 0, 0, 2);
        asks("both", x, 3, 0, 0, 4);
        asks("both", x, 60, 0, 0, 4);
        Checks.same("LOOKS", x.about(13), 2);
        Checks.same("none lie", x.about(17), 0);
        Checks.same("look 2: b 0 behind 1", x.look(1, 1, 0), 2);
        known("l on 0", x, 0, 2, 6, 1);
        Checks.same("look 3: a 2 behind 2", x.look(2, 0, 2), 3);
        known("one alone", x, 0, 1, 4, 1);
        asks("one alone", x, 5, 0, 0, 1);
    }

    private static void times() {
        RestDays x = Checks.told(TWO);
        x.look(1, 0, 1);
        Checks.same("later(3)", x.later(3), 3);
        x.look(1, 1, 1);
        Checks.same("later(2)", x.later(2), 5);
        Checks.yes("untell(0)", x.untell(0));
        Checks.no("untell(0) again", x.untell(0));
        Checks.same("later(4)", x.later(4), 9);
        Checks.no("untell(0) later", x.untell(0));
        Checks.yes("untell(1)", x.untell(1));
        x.look(1, 0, 0);
        Checks.same("LOOKS, UNTOLD ones too", x.about(13), 3);
        x.look(1, 1, 0);
        Checks.yes("untell at the same TIME", x.untell(3));
        known("ahead of all", x, -1, 9, 7, 7);
        known("at 0", x, 0, 6, 6, 7);
        known("at 2", x, 2, 6, 6, 7);
        known("at 3", x, 3, 4, 6, 6);
        known("at 4", x, 4, 4, 6, 6);
        known("at 5", x, 5, 6, 7, 6);
        known("at 8", x, 8, 6, 7, 6);
        known("at 9", x, 9, 3, 1, 7);
        known("at the last", x, Integer.MAX_VALUE, 3, 1, 7);
        known("at the first", x, Integer.MIN_VALUE, 9, 7, 7);
        asks("at 3", x, 1, 3, 0, 4);
        asks("at 5", x, 1, 5, 0, 4);
        asks("at 9", x, 1, 9, 1, 2);
    }

    private static void fromTheBeginning() {
        RestDays x = Checks.told(TWO);
        x.look(1, 0, 1);
        x.hours(2);
        x.leap();
        x.shift(0, 1);
        known("whatever is now", x, 0, 6, 6, 7);
        asks("in 0 HOURS", x, 0, 0, 0, 6);
        asks("whatever is now", x, 1, 0, 1, 4);
        x = Checks.told("week 2 hours 2;thing a 5 to 9;law k rests 0 if day then a becomes a+hour;");
        Checks.same("a as told", x.look(0, 0, 5), 0);
        Checks.same("fit(0)", x.fit(0), 2);
        x.look(60, 0, 9);
        Checks.same("fit(0) of 60 HOURS", x.fit(0), 1);
        Checks.same("rests(0, 0)", x.rests(0, 0), 1);
        x = Checks.told(TWO);
        Checks.same("a not as told", x.look(0, 0, 6), 0);
        Checks.same("fit(0) of what was not so", x.fit(0), 0);
        x.untell(0);
        x.look(0, 0, 0);
        Checks.same("fit(0) of what was so", x.fit(0), 9);
    }

    private static void twentyLooks() {
        RestDays x = Checks.told(TWO);
        for (int i = 0; i < 20; i++) {
            Checks.same("look " + i, x.look(i, 0, 9), i);
        }
        Checks.same("look 20", x.look(1, 0, 1), NONE);
        x.untell(4);
        Checks.same("still 20", x.look(1, 0, 1), NONE);
        Checks.same("LOOKS", x.about(13), 20);
        Checks.same("a LAND without", Checks.land(x, TWO), 2);
        Checks.same("LOOKS then", x.about(13), 0);
        Checks.same("look 0 again", x.look(1, 0, 1), 0);
        Checks.no("untell(1)", x.untell(1));
        Checks.yes("untell(0)", x.untell(0));
    }

    private static void against() {
        RestDays x = Checks.told(TWO);
        x.look(1, 0, 1);
        x.look(1, 0, 0);
        known("two against one another", x, 0, 0, 0, 0);
        asks("two against one another", x, 1, 0, NONE, NONE);
        x.untell(1);
        known("one of them", x, 0, 6, 6, 7);
        x.look(1, 0, 1);
        known("the same twice", x, 0, 6, 6, 7);
        x.look(3, 0, 9);
        known("what never is", x, 0, 0, 0, 0);
        asks("what never is", x, 1, 0, NONE, NONE);
        x = Checks.told("thing a 3 to 9;");
        Checks.same("no LAWS", x.fit(0), 1);
        asks("no LAWS", x, 7, 0, 0, 1);
        x.look(4, 0, 4);
        Checks.same("no LAWS, never", x.fit(0), 0);
    }

    private static void time() {
        RestDays x = new RestDays();
        Checks.same("later(0)", x.later(0), 0);
        Checks.same("later(-1)", x.later(-1), NONE);
        Checks.same("later(1001)", x.later(1001), NONE);
        Checks.same("later(max)", x.later(Integer.MAX_VALUE), NONE);
        for (int i = 1; i <= 99; i++) {
            Checks.same("later(1000) " + i, x.later(1000), 1000 * i);
        }
        Checks.same("later(999)", x.later(999), 99999);
        Checks.same("later(2)", x.later(2), NONE);
        Checks.same("TIME", x.about(14), 99999);
        Checks.same("later(1)", x.later(1), 100000);
        Checks.same("later(1) again", x.later(1), NONE);
        Checks.same("later(0) at last", x.later(0), 100000);
        Checks.same("a LAND", Checks.land(x, TWO), 2);
        Checks.same("the TIME stays", x.about(14), 100000);
        x.look(1, 0, 1);
        Checks.same("TOLD then", x.fit(99999), 9);
        Checks.same("known then", x.fit(100000), 6);
    }

    private static void spent() {
        RestDays x = Checks.told(alikeLaws(8, 5));
        Checks.same("fit", x.fit(0), -2);
        Checks.same("rests", x.rests(4, 0), -2);
        Checks.same("rests of none such", x.rests(5, 0), NONE);
        Checks.same("ask", x.ask(1, 0, 0), -2);
        Checks.same("ask what 1", x.ask(1, 1, 0), -2);
        Checks.same("ask in 61", x.ask(61, 1, 0), NONE);
        x.look(0, 0, 5);
        Checks.same("though none can FIT", x.fit(0), -2);
        x = Checks.told(alikeLaws(7, 5));
        x.look(1, 0, 0);
        Checks.same("16,807 calendars", x.fit(0), 1);
        Checks.same("rests(4, 0)", x.rests(4, 0), 1);
        Checks.same("9 DAYS, 4 LAWS", Checks.told(alikeLaws(9, 4)).fit(0), 6561);
        Checks.same("bits", Checks.told(alikeLaws(9, 4)).rests(3, 0), 511);
    }

    private static void wrongInputs() {
        RestDays x = Checks.told(TWO);
        int[][] wrong = {{-1, 0, 0}, {61, 0, 0}, {0, -1, 0}, {0, 2, 0}, {0, 0, -1}, {0, 0, 1000},
            {Integer.MAX_VALUE, 0, 0}, {0, Integer.MIN_VALUE, 0}};
        for (int[] w : wrong) {
            Checks.same("look", x.look(w[0], w[1], w[2]), NONE);
        }
        Checks.same("LOOKS", x.about(13), 0);
        Checks.same("look(60, 1, 999)", x.look(60, 1, 999), 0);
        Checks.no("untell(-1)", x.untell(-1));
        Checks.no("untell(1)", x.untell(1));
        Checks.no("untell(max)", x.untell(Integer.MAX_VALUE));
        x.untell(0);
        Checks.same("rests(2, 0)", x.rests(2, 0), NONE);
        Checks.same("rests(-1, 0)", x.rests(-1, 0), NONE);
        Checks.same("ask(-1, 0, 0)", x.ask(-1, 0, 0), NONE);
        Checks.same("ask(61, 0, 0)", x.ask(61, 0, 0), NONE);
        Checks.same("ask(0, 2, 0)", x.ask(0, 2, 0), NONE);
        Checks.same("ask(0, -1, 0)", x.ask(0, -1, 0), NONE);
        Checks.same("without THINGS", new RestDays().ask(0, 0, 0), NONE);
        Checks.same("without THINGS, look", new RestDays().look(0, 0, 0), NONE);
    }
}
