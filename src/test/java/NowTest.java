/** Promises 6 to 11 and 38: what is now. */
final class NowTest {
    private static final String LAND = "week 3 hours 2;thing a 2 to 9;thing b 0 to 5;"
            + "law k rests 1 if a>0 then a becomes a-1;"
            + "law m rests 0 if b<5 then b becomes b+1 and a becomes a+b;"
            + "deed x if a<8 then a becomes a+3;deed y if b>0 then b becomes 0;deed z if hour then a becomes 0;"
            + "ban n rests 2 if a>6;ban o rests 0 if day*2+hour;ban p rests 1 if a+b-2;ban q rests 2 if 1;"
            + "goal a=5;gain a*10-b-day*1000-hour*100;guild g of k wants a;guild h of m wants 0-b;";

    public static void main(String[] args) {
        asTold();
        asItGoesOn();
        inLeapDay();
        wrongInputs();
        Checks.finish();
    }

    private static void asTold() {
        RestDays x = Checks.told(LAND);
        int[] due = {2, 2, 3, 4, 2, 3, 2, 0, 0, 0, 0, 0, 0, 0, 0, 0, 40, 0};
        for (int i = 0; i < due.length; i++) {
            Checks.same("about(" + i + ")", x.about(i), due[i]);
        }
        Checks.same("thing(0)", x.thing(0), 2);
        Checks.same("thing(1)", x.thing(1), 0);
        Checks.same("feast(0)", x.feast(0), 1);
        Checks.same("feast(1)", x.feast(1), 0);
        Checks.same("does(0)", x.does(0), 1);
        Checks.same("does(1), which rests", x.does(1), 0);
        Checks.same("can(0)", x.can(0), 1);
        Checks.same("can(1)", x.can(1), 0);
        Checks.same("can(2)", x.can(2), 0);
        // n: a is 2; o rests; p: 2+0-2 is 0; q is broken
        Checks.same("broken()", x.broken(), 8);
        Checks.same("says(0)", x.says(0), 0);
        Checks.same("says(1)", x.says(1), 20);
    }

    private static void asItGoesOn() {
        RestDays x = Checks.told(LAND);
        x.hours(1);
        // k: a 1; the clock is at DAY 0, HOUR 1
        Checks.same("thing(0) then", x.thing(0), 1);
        Checks.same("can(2) then", x.can(2), 1);
        Checks.same("broken() then: p of -1, q", x.broken(), 12);
        Checks.same("says(1) then", x.says(1), 10 - 100);
        Checks.same("HOUR", x.about(8), 1);
        x.hours(2);
        // k: a 0; then DAY 1: k rests, m: b 1, a 1
        Checks.same("thing(0) at last", x.thing(0), 1);
        Checks.same("thing(1) at last", x.thing(1), 1);
        Checks.same("DAY", x.about(7), 1);
        Checks.same("HOUR at last", x.about(8), 1);
        Checks.same("HOURS", x.about(9), 3);
        Checks.same("does(0), which rests", x.does(0), 0);
        Checks.same("does(1) now", x.does(1), 1);
        // o: 1*2+1 is not 0; p rests; q
        Checks.same("broken() at last", x.broken(), 10);
        Checks.same("says(1) at last", x.says(1), 10 - 1 - 1000 - 100);
        x.shift(0, 2);
        Checks.same("feast(0) shifted", x.feast(0), 2);
        Checks.same("does(0) shifted", x.does(0), 1);
        x.hours(1);
        // k: a 0; m: b 2, a 2; DAY 2: k rests, n and q rest
        Checks.same("broken() on DAY 2", x.broken(), 2 + 4);
        x.hours(2);
        // m: b 3, a 5; m: b 4, a 9; DAY 0
        Checks.same("most of a", x.thing(0), 9);
        Checks.same("thing(1) by DAY 0", x.thing(1), 4);
        Checks.same("broken() on DAY 0", x.broken(), 1 + 4 + 8);
        Checks.same("says(0) on DAY 0", x.says(0), 0);
    }

    private static void inLeapDay() {
        RestDays x = Checks.told(LAND);
        Checks.yes("leap", x.leap());
        Checks.same("DAY", x.about(7), 3);
        Checks.same("does(0)", x.does(0), 1);
        Checks.same("does(1)", x.does(1), 1);
        // o: 3*2+0, q; nothing rests
        Checks.same("broken()", x.broken(), 2 + 8);
        Checks.same("says(1)", x.says(1), 20 - 3000);
    }

    private static void wrongInputs() {
        RestDays x = Checks.told(LAND);
        for (int i : new int[] {-1, 6, Integer.MIN_VALUE, Integer.MAX_VALUE}) {
            Checks.same("thing(" + i + ")", x.thing(i), RestDays.NONE);
            Checks.same("feast(" + i + ")", x.feast(i), RestDays.NONE);
            Checks.same("does(" + i + ")", x.does(i), RestDays.NONE);
            Checks.same("can(" + i + ")", x.can(i), RestDays.NONE);
            Checks.same("says(" + i + ")", x.says(i), RestDays.GAP);
        }
        Checks.same("thing(2)", x.thing(2), RestDays.NONE);
        Checks.same("feast(2)", x.feast(2), RestDays.NONE);
        Checks.same("does(2)", x.does(2), RestDays.NONE);
        Checks.same("can(3)", x.can(3), RestDays.NONE);
        Checks.same("says(2)", x.says(2), RestDays.GAP);
        Checks.same("about(18)", x.about(18), RestDays.NONE);
        Checks.same("about(-1)", x.about(-1), RestDays.NONE);
        Checks.same("about(min)", x.about(Integer.MIN_VALUE), RestDays.NONE);
        Checks.same("about(max)", x.about(Integer.MAX_VALUE), RestDays.NONE);
        RestDays y = Checks.told("thing a 1 to 2;");
        Checks.same("says(0) without", y.says(0), 0);
        Checks.same("says(1) without", y.says(1), 0);
        Checks.same("broken() without", y.broken(), 0);
    }
}
