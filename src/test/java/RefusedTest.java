/**
 * Calls that are refused, of each promise, and what they leave as it was: an object on which one was
 * called has to be like another on which none was. Likewise calls by which nothing is done.
 */
final class RefusedTest extends Texts {
    private static final int NONE = RestDays.NONE;
    private static final int GAP = RestDays.GAP;
    private static final int[] FAR = {-1, Integer.MIN_VALUE, Integer.MAX_VALUE};
    private static final String LAND = "week 3 hours 2;thing a 2 to 9;thing b 0 to 5;"
            + "law k rests 1 if a>0 then a becomes a-1;"
            + "law m rests 0 if b<5 then b becomes b+1 and a becomes a+b;"
            + "deed x if a<8 then a becomes a+3;deed y if b>0 then b becomes 0;deed z if 0 then a becomes 9;"
            + "ban n rests 2 if a>6;ban o rests 1 if hour=1 also day;goal a=5;";
    private static final String GAIN = "gain a*10-b;";
    private static final String GUILDS = "guild g of k wants a;guild h of m wants 0-b;";

    private interface Made {
        RestDays make();
    }

    private interface Call {
        long on(RestDays x);
    }

    public static void main(String[] args) {
        tapeAndLand();
        whatIs();
        acts();
        actsAtTheirEnds();
        thoughts();
        thoughtsThatEmpty();
        spent();
        looks();
        boxes();
        nothingIsDone();
        Checks.finish();
    }

    /** In the midst of all: HOUR 1, ACTS to undo and to redo, CRIMES, LOOKS, two BOXES, a TAPE, what lies. */
    private static RestDays busy(String text) {
        RestDays x = Checks.told(text);
        x.look(1, 0, 1);
        x.later(2);
        x.look(2, 1, 0);
        x.later(3);
        x.untell(0);
        x.look(3, 0, 2);
        x.image(2);
        x.hours(3);
        x.deed(0);
        x.shift(0, 2);
        x.image(0);
        x.hours(3);
        x.leap();
        x.hours(1);
        x.deed(1);
        x.shift(1, 2);
        x.undo();
        x.undo();
        Checks.feed(x, "goal 9;");
        x.guilds(2);
        Checks.same("HOUR", x.about(8), 1);
        Checks.same("can be redone", x.about(12), 2);
        Checks.yes("CRIMES", x.about(10) > 0);
        Checks.same("lie there", x.about(17), 2);
        return x;
    }

    private static RestDays busy() {
        return busy(LAND + GAIN + GUILDS);
    }

    private static RestDays withoutAims() {
        return busy(LAND.replace("goal a=5;", "") + GUILDS);
    }

    private static RestDays inLeapDay() {
        RestDays x = busy();
        x.undo();
        Checks.same("HOUR 0", x.about(8), 0);
        Checks.same("the LEAP DAY", x.about(7), 3);
        return x;
    }

    private static void refused(String what, Made made, Call call, long due) {
        RestDays x = made.make();
        Checks.same(what, call.on(x), due);
        Seen.alike(what + " leaves all as it was", x, made.make(), true);
    }

    private static void refused(String what, Call call, long due) {
        refused(what, RefusedTest::busy, call, due);
    }

    /** All but what lies there, which is nothing then. */
    private static void empties(String what, Made made, Call call, long due) {
        RestDays x = made.make();
        Checks.same(what, call.on(x), due);
        Checks.lie(what, x);
        Seen.alike(what + " leaves all else as it was", x, made.make(), false);
    }

    private static void empties(String what, Call call, long due) {
        empties(what, RefusedTest::busy, call, due);
    }

    private static long bit(boolean b) {
        return b ? 1 : 0;
    }

    private static RestDays fullTape(int bytes) {
        RestDays x = busy();
        x.end(0);
        for (int i = 0; i < 85; i++) {
            x.feed(0x20202020, 0x20202020, 0x20202020, 0x20202020, 0x20202020);
        }
        Checks.same("bytes", x.end(bytes), bytes);
        return x;
    }

    private static void tapeAndLand() {
        refused("feed to 1,701", () -> fullTape(1681), x -> x.feed(1, 2, 3, 4, 5), NONE);
        refused("feed to 1,720", () -> fullTape(1700), x -> x.feed(1, 2, 3, 4, 5), NONE);
        refused("end(8) of 7", x -> x.end(8), NONE);
        refused("end(1701) of 1,700", () -> fullTape(1700), x -> x.end(1701), NONE);
        for (int n : FAR) {
            refused("end(" + n + ")", x -> x.end(n), NONE);
            refused("fault(" + n + ")", x -> x.fault(n), NONE);
        }
        refused("fault(2)", x -> x.fault(2), NONE);
        refused("end(7) of 7", x -> x.end(7), 7);
        for (String text : new String[] {"$", "thing", "thing a 1 to 2;thing a", "week 1", "goal b",
            LAND + GAIN + GUILDS + "week", LAND + GAIN + GUILDS + "guild h", "thing a 1 to 2", "then"}) {
            landRefused(text);
        }
    }

    private static void landRefused(String text) {
        RestDays x = busy();
        RestDays y = busy();
        x.end(0);
        Checks.feed(x, text);
        Checks.same("land: " + text, x.land(), NONE);
        Checks.same("the TAPE is empty: " + text, x.about(15), 0);
        Checks.yes("a FAULT: " + text, x.fault(0) > 0);
        Checks.yes("a place: " + text, x.fault(1) >= 0 && x.fault(1) <= text.length());
        // the other one has the same FAULT, of a LAND told ahead of all
        RestDays z = new RestDays();
        Checks.land(z, text);
        Checks.same("the FAULT of: " + text, x.fault(0), z.fault(0));
        Checks.same("the place of: " + text, x.fault(1), z.fault(1));
        Checks.feed(x, "goal 9;");
        Seen.alikeButForFault("a FAULT leaves all else: " + text, x, y);
    }

    private static void whatIs() {
        for (int n : FAR) {
            refused("thing(" + n + ")", x -> x.thing(n), NONE);
            refused("feast(" + n + ")", x -> x.feast(n), NONE);
            refused("does(" + n + ")", x -> x.does(n), NONE);
            refused("can(" + n + ")", x -> x.can(n), NONE);
            refused("says(" + n + ")", x -> x.says(n), GAP);
            refused("about(" + n + ")", x -> x.about(n), NONE);
            refused("lies(" + n + ")", x -> x.lies(n), GAP);
            refused("crime(" + n + ", 0)", x -> x.crime(n, 0), NONE);
            refused("crime(0, " + n + ")", x -> x.crime(0, n), NONE);
        }
        refused("thing(2)", x -> x.thing(2), NONE);
        refused("feast(2)", x -> x.feast(2), NONE);
        refused("does(2)", x -> x.does(2), NONE);
        refused("can(3)", x -> x.can(3), NONE);
        refused("says(2)", x -> x.says(2), GAP);
        refused("about(18)", x -> x.about(18), NONE);
        refused("lies(2)", x -> x.lies(2), GAP);
        refused("crime behind the last", x -> x.crime(x.about(10), 1), NONE);
        refused("crime(0, 2)", x -> x.crime(0, 2), NONE);
        for (int n : new int[] {-1, 0, 1}) {
            refused("of nothing: thing(" + n + ")", RestDays::new, x -> x.thing(n), NONE);
            refused("of nothing: feast(" + n + ")", RestDays::new, x -> x.feast(n), NONE);
            refused("of nothing: does(" + n + ")", RestDays::new, x -> x.does(n), NONE);
            refused("of nothing: can(" + n + ")", RestDays::new, x -> x.can(n), NONE);
            refused("of nothing: crime(" + n + ", 0)", RestDays::new, x -> x.crime(n, 0), NONE);
            refused("of nothing: lies(" + n + ")", RestDays::new, x -> x.lies(n), GAP);
        }
    }

    private static void acts() {
        refused("hours(61)", x -> x.hours(61), NONE);
        refused("deed(3)", x -> bit(x.deed(3)), 0);
        refused("deed(2), whose e is 0", x -> bit(x.deed(2)), 0);
        refused("shift(2, 0)", x -> x.shift(2, 0), NONE);
        refused("shift(0, 3)", x -> x.shift(0, 3), NONE);
        refused("shift to the DAY on which it is", x -> x.shift(0, x.feast(0)), NONE);
        for (int n : FAR) {
            refused("hours(" + n + ")", x -> x.hours(n), NONE);
            refused("deed(" + n + ")", x -> bit(x.deed(n)), 0);
            refused("shift(" + n + ", 0)", x -> x.shift(n, 0), NONE);
            refused("shift(0, " + n + ")", x -> x.shift(0, n), NONE);
        }
        refused("leap at HOUR 1 of a LEAP DAY", x -> bit(x.leap()), 0);
        refused("leap at HOUR 0 of a LEAP DAY", RefusedTest::inLeapDay, x -> bit(x.leap()), 0);
        refused("leap at the last HOUR of a DAY", () -> atHour(1), x -> bit(x.leap()), 0);
        refused("leap at HOUR 1 of 6", () -> ofSixHours(1), x -> bit(x.leap()), 0);
        refused("leap at HOUR 5 of 6", () -> ofSixHours(5), x -> bit(x.leap()), 0);
    }

    private static RestDays atHour(int hour) {
        RestDays x = busy();
        x.back(2);
        x.hours(2);
        x.hours(hour);
        x.hours(3);
        x.undo();
        return x;
    }

    private static RestDays ofSixHours(int hour) {
        RestDays x = Checks.told("week 2 hours 6;thing a 1 to 5;law k rests 0 if 1 then a becomes a+1;gain a;");
        x.hours(6 + hour);
        x.shift(0, 1);
        x.undo();
        return x;
    }

    private static RestDays ofHours(int hours) {
        RestDays x = busy();
        x.back(2);
        while (x.about(9) + 60 <= hours) {
            x.hours(60);
        }
        x.image(1);
        x.back(1);
        x.hours(hours - x.about(9));
        x.shift(0, 0);
        x.undo();
        Checks.same("HOURS", x.about(9), hours);
        return x;
    }

    private static void actsAtTheirEnds() {
        refused("hours(1) of 2,000", () -> ofHours(2000), x -> x.hours(1), NONE);
        refused("hours(60) of 1,941", () -> ofHours(1941), x -> x.hours(60), NONE);
        refused("hours(2) of 1,999", () -> ofHours(1999), x -> x.hours(2), NONE);
        refused("undo of none", RestDays::new, x -> bit(x.undo()), 0);
        refused("redo of none", RestDays::new, x -> bit(x.redo()), 0);
        refused("undo of none that is left", () -> undone(9), x -> bit(x.undo()), 0);
        refused("redo of none that is left", () -> undone(0), x -> bit(x.redo()), 0);
        refused("redo behind another ACT", RefusedTest::behindAnother, x -> bit(x.redo()), 0);
        refused("undo behind back", () -> backTo(0), x -> bit(x.undo()), 0);
        refused("redo behind back", () -> backTo(2), x -> bit(x.redo()), 0);
    }

    private static RestDays undone(int acts) {
        RestDays x = busy();
        x.redo();
        x.redo();
        for (int i = 0; i < acts; i++) {
            x.undo();
        }
        return x;
    }

    private static RestDays behindAnother() {
        RestDays x = busy();
        x.hours(0);
        return x;
    }

    private static RestDays backTo(int box) {
        RestDays x = busy();
        x.back(box);
        return x;
    }

    private static void thoughts() {
        refused("will(0, 301)", x -> x.will(0, 301), NONE);
        refused("will(2, 0)", x -> x.will(2, 0), NONE);
        refused("round(2)", x -> x.round(2), NONE);
        refused("clash(0, 2)", x -> x.clash(0, 2), NONE);
        refused("clash(2, 0)", x -> x.clash(2, 0), NONE);
        refused("clash(2, 2)", x -> x.clash(2, 2), NONE);
        refused("loophole(1, 1)", x -> x.loophole(1, 1), GAP);
        refused("loophole(0, 2)", x -> x.loophole(0, 2), GAP);
        refused("loophole(2, 0)", x -> x.loophole(2, 0), GAP);
        refused("loophole without a gain", RefusedTest::withoutAims, x -> x.loophole(0, 1), GAP);
        refused("more(2, 0, 0)", x -> x.more(2, 0, 0), GAP);
        refused("more(1, 2, 0)", x -> x.more(1, 2, 0), GAP);
        refused("more(0, 0, 101)", x -> x.more(0, 0, 101), GAP);
        refused("more(1, 0, 101)", x -> x.more(1, 0, 101), GAP);
        refused("more without a gain", RefusedTest::withoutAims, x -> x.more(0, 0, 1), GAP);
        for (int n : FAR) {
            refused("will(0, " + n + ")", x -> x.will(0, n), NONE);
            refused("will(" + n + ", 0)", x -> x.will(n, 0), NONE);
            refused("round(" + n + ")", x -> x.round(n), NONE);
            refused("clash(0, " + n + ")", x -> x.clash(0, n), NONE);
            refused("clash(" + n + ", 0)", x -> x.clash(n, 0), NONE);
            refused("loophole(0, " + n + ")", x -> x.loophole(0, n), GAP);
            refused("loophole(" + n + ", 0)", x -> x.loophole(n, 0), GAP);
            refused("more(" + n + ", 0, 0)", x -> x.more(n, 0, 0), GAP);
            refused("more(1, " + n + ", 0)", x -> x.more(1, n, 0), GAP);
            refused("more(0, 0, " + n + ")", x -> x.more(0, 0, n), GAP);
        }
    }

    private static void thoughtsThatEmpty() {
        empties("plan(0)", x -> x.plan(0), NONE);
        empties("plan(21)", x -> x.plan(21), NONE);
        empties("plan without a goal", RefusedTest::withoutAims, x -> x.plan(1), NONE);
        empties("most(0)", x -> x.most(0), GAP);
        empties("most(7)", x -> x.most(7), GAP);
        empties("most without a gain", RefusedTest::withoutAims, x -> x.most(1), GAP);
        empties("amend(2, 0, 0, 0)", x -> x.amend(2, 0, 0, 0), NONE);
        empties("amend(0, 3, 2, 0)", x -> x.amend(0, 3, 2, 0), NONE);
        empties("amend(0, 0, 1000, 0)", x -> x.amend(0, 0, 1000, 0), NONE);
        empties("amend(0, 0, 0, 101)", x -> x.amend(0, 0, 0, 101), NONE);
        empties("all(2, 0, 0, 0)", x -> x.all(2, 0, 0, 0), NONE);
        empties("all(0, 3, 2, 0)", x -> x.all(0, 3, 2, 0), NONE);
        empties("all(0, 0, 1000, 0)", x -> x.all(0, 0, 1000, 0), NONE);
        empties("all(0, 0, 0, 101)", x -> x.all(0, 0, 0, 101), NONE);
        empties("guilds(101)", x -> x.guilds(101), NONE);
        for (int n : FAR) {
            empties("plan(" + n + ")", x -> x.plan(n), NONE);
            empties("most(" + n + ")", x -> x.most(n), GAP);
            empties("guilds(" + n + ")", x -> x.guilds(n), NONE);
            empties("amend(" + n + ", 0, 999, 0)", x -> x.amend(n, 0, 999, 0), NONE);
            empties("amend(0, 0, 999, " + n + ")", x -> x.amend(0, 0, 999, n), NONE);
            empties("all(" + n + ", 0, 999, 0)", x -> x.all(n, 0, 999, 0), NONE);
            empties("all(0, 0, 999, " + n + ")", x -> x.all(0, 0, 999, n), NONE);
        }
        for (int n : new int[] {-1, Integer.MIN_VALUE}) {
            empties("amend(0, " + n + ", 999, 0)", x -> x.amend(0, n, 999, 0), NONE);
            empties("all(0, " + n + ", 999, 0)", x -> x.all(0, n, 999, 0), NONE);
        }
        empties("amend(0, 0, max, 0)", x -> x.amend(0, 0, Integer.MAX_VALUE, 0), NONE);
        empties("all(0, 0, max, 0)", x -> x.all(0, 0, Integer.MAX_VALUE, 0), NONE);
        // what can be, and is none
        empties("a goal that is none", x -> x.plan(1), NONE);
        empties("a WISH that is none", x -> x.amend(1, 6, 6, 100), NONE);
        empties("a WISH of no calendar", x -> x.all(1, 6, 6, 100), 0);
        empties("a WISH that is true already", x -> x.amend(0, 0, 999, 5), 0);
    }

    private static RestDays ofManyFeasts() {
        RestDays x = Checks.told(alikeLaws(8, 5));
        x.look(0, 0, 0);
        x.hours(2);
        x.shift(0, 5);
        x.undo();
        x.guilds(1);
        Checks.same("lie there", x.about(17), 5);
        return x;
    }

    private static void spent() {
        Made made = RefusedTest::ofManyFeasts;
        empties("all of too many", made, x -> x.all(0, 0, 99, 1), -2);
        refused("fit of too many", made, x -> x.fit(0), -2);
        refused("rests of too many", made, x -> x.rests(0, 0), -2);
        refused("rests of none such, of too many", made, x -> x.rests(5, 0), NONE);
        refused("ask of too many", made, x -> x.ask(0, 0, 0), -2);
        refused("ask what 2 of too many", made, x -> x.ask(0, 2, 0), NONE);
    }

    private static void looks() {
        refused("look(61, 0, 0)", x -> x.look(61, 0, 0), NONE);
        refused("look(0, 2, 0)", x -> x.look(0, 2, 0), NONE);
        refused("look(0, 0, 1000)", x -> x.look(0, 0, 1000), NONE);
        refused("look 20", RefusedTest::ofTwentyLooks, x -> x.look(0, 0, 2), NONE);
        refused("untell(0), which is so", x -> bit(x.untell(0)), 0);
        refused("untell(3)", x -> bit(x.untell(3)), 0);
        refused("untell(20)", RefusedTest::ofTwentyLooks, x -> bit(x.untell(20)), 0);
        refused("untell(0) of none", RestDays::new, x -> bit(x.untell(0)), 0);
        refused("later(1001)", x -> x.later(1001), NONE);
        refused("later(1) of 100,000", RefusedTest::atTheLastTime, x -> x.later(1), NONE);
        refused("later(1000) of 100,000", RefusedTest::atTheLastTime, x -> x.later(1000), NONE);
        refused("rests(2, 5)", x -> x.rests(2, 5), NONE);
        refused("ask(61, 0, 5)", x -> x.ask(61, 0, 5), NONE);
        refused("ask(0, 2, 5)", x -> x.ask(0, 2, 5), NONE);
        refused("ask without THINGS", RestDays::new, x -> x.ask(0, 0, 0), NONE);
        refused("look without THINGS", RestDays::new, x -> x.look(0, 0, 0), NONE);
        refused("ask of what does not FIT", () -> ofNoFit(), x -> x.ask(0, 1, 5), NONE);
        for (int n : FAR) {
            refused("look(" + n + ", 0, 0)", x -> x.look(n, 0, 0), NONE);
            refused("look(0, " + n + ", 0)", x -> x.look(0, n, 0), NONE);
            refused("look(0, 0, " + n + ")", x -> x.look(0, 0, n), NONE);
            refused("untell(" + n + ")", x -> bit(x.untell(n)), 0);
            refused("later(" + n + ")", x -> x.later(n), NONE);
            refused("rests(" + n + ", 5)", x -> x.rests(n, 5), NONE);
            refused("ask(" + n + ", 0, 5)", x -> x.ask(n, 0, 5), NONE);
            refused("ask(0, " + n + ", 5)", x -> x.ask(0, n, 5), NONE);
        }
    }

    private static RestDays ofTwentyLooks() {
        RestDays x = busy();
        for (int i = 3; i < 20; i++) {
            Checks.same("look " + i, x.look(0, 0, 2), i);
        }
        return x;
    }

    private static RestDays ofNoFit() {
        RestDays x = busy();
        x.look(0, 0, 3);
        return x;
    }

    private static RestDays atTheLastTime() {
        RestDays x = busy();
        for (int i = 0; i < 99; i++) {
            x.later(1000);
        }
        x.later(995);
        Checks.same("TIME", x.about(14), 100000);
        return x;
    }

    private static void boxes() {
        refused("image(3)", x -> x.image(3), NONE);
        refused("back(3)", x -> x.back(3), NONE);
        refused("back(1), in which nothing is", x -> x.back(1), NONE);
        for (int n : FAR) {
            refused("image(" + n + ")", x -> x.image(n), NONE);
            refused("back(" + n + ")", x -> x.back(n), NONE);
        }
        for (int box = 0; box < 3; box++) {
            int b = box;
            refused("back(" + b + ") of a new object", RestDays::new, x -> x.back(b), NONE);
        }
    }

    private static void nothingIsDone() {
        refused("will", x -> x.will(0, 300), busy().will(0, 300));
        refused("round", x -> x.round(0), busy().round(0));
        refused("clash", x -> x.clash(0, 1), busy().clash(0, 1));
        refused("clash of itself", x -> x.clash(0, 0), 0);
        refused("loophole", x -> x.loophole(0, 1), busy().loophole(0, 1));
        refused("more what 0", x -> x.more(0, 9, 100), busy().more(0, -9, 100));
        refused("more what 1", x -> x.more(1, 1, 100), busy().more(1, 1, 100));
        refused("fit", x -> x.fit(5), busy().fit(5));
        refused("rests", x -> x.rests(1, 5), busy().rests(1, 5));
        refused("ask", x -> x.ask(60, 0, 5), busy().ask(60, 0, 5));
        refused("guilds, which lay there already", x -> x.guilds(2), busy().guilds(2));
        for (int n = 1; n <= 20; n += 6) {
            int m = n;
            thought("plan(" + n + ")", x -> x.plan(m));
        }
        thought("most(6)", x -> x.most(6));
        thought("amend", x -> x.amend(0, 0, 3, 9));
        thought("all", x -> x.all(0, 0, 3, 9));
        thought("guilds(100)", x -> x.guilds(100));
    }

    /** Nothing is done, though something else may lie there. */
    private static void thought(String what, Call call) {
        RestDays x = busy();
        call.on(x);
        Seen.alike(what + " does nothing", x, busy(), false);
    }
}
