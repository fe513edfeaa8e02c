/** Promises 12 to 18, 36 and 37: ACTS, UNDO, CRIMES, BOXES. */
final class ActsTest {
    private static final String COUNT = "week 3 hours 2;thing a 0 to 999;thing b 0 to 9;"
            + "law k rests 1 if 1 then a becomes a+1;deed d if b<2 then b becomes b+1 and a becomes a+100;"
            + "ban n rests 2 if a%2;ban o rests 0 if day=1 or day=3;";

    public static void main(String[] args) {
        hours();
        mostHours();
        deeds();
        shifts();
        leaps();
        undoing();
        fortyKept();
        crimes();
        sixtyCrimes();
        boxes();
        sets();
        Checks.finish();
    }

    private static void hours() {
        RestDays x = Checks.told(COUNT);
        Checks.same("hours(-1)", x.hours(-1), RestDays.NONE);
        Checks.same("hours(61)", x.hours(61), RestDays.NONE);
        Checks.same("hours(max)", x.hours(Integer.MAX_VALUE), RestDays.NONE);
        Checks.same("no ACT", x.about(11), 0);
        Checks.same("hours(0)", x.hours(0), 0);
        Checks.same("an ACT", x.about(11), 1);
        Checks.same("hours(3)", x.hours(3), 3);
        Checks.same("a", x.thing(0), 2);
        Checks.same("hours(60)", x.hours(60), 63);
        // 63 HOURS: 10 weeks of 4 HOURS at work, then 2 of 3
        Checks.same("a then", x.thing(0), 42);
        Checks.same("DAY", x.about(7), 1);
        Checks.same("HOUR", x.about(8), 1);
    }

    private static void mostHours() {
        RestDays x = Checks.told(COUNT);
        for (int i = 1; i <= 33; i++) {
            Checks.same("hours(60) " + i, x.hours(60), 60 * i);
        }
        Checks.same("hours(21)", x.hours(21), RestDays.NONE);
        Checks.same("HOURS", x.about(9), 1980);
        Checks.same("hours(20)", x.hours(20), 2000);
        Checks.same("hours(1)", x.hours(1), RestDays.NONE);
        Checks.same("hours(0)", x.hours(0), 2000);
        Checks.same("a has its most", x.thing(0), 999);
        x.undo();
        x.undo();
        Checks.same("undone", x.hours(19), 1999);
    }

    private static void deeds() {
        RestDays x = Checks.told(COUNT);
        Checks.no("deed(1)", x.deed(1));
        Checks.no("deed(-1)", x.deed(-1));
        Checks.no("deed(min)", x.deed(Integer.MIN_VALUE));
        Checks.yes("deed(0)", x.deed(0));
        Checks.yes("deed(0) again", x.deed(0));
        Checks.no("deed(0) a third time", x.deed(0));
        Checks.same("a", x.thing(0), 200);
        Checks.same("b", x.thing(1), 2);
        Checks.same("HOURS", x.about(9), 0);
        Checks.same("ACTS", x.about(11), 2);
    }

    private static void shifts() {
        RestDays x = Checks.told(COUNT);
        Checks.same("shift(0, 2)", x.shift(0, 2), 1);
        Checks.same("feast(0)", x.feast(0), 2);
        Checks.same("shift(0, 0)", x.shift(0, 0), 2);
        Checks.same("shift to where it is", x.shift(0, 0), RestDays.NONE);
        Checks.same("shift(0, 3)", x.shift(0, 3), RestDays.NONE);
        Checks.same("shift(0, -1)", x.shift(0, -1), RestDays.NONE);
        Checks.same("shift(1, 0)", x.shift(1, 0), RestDays.NONE);
        Checks.same("shift(-1, 0)", x.shift(-1, 0), RestDays.NONE);
        Checks.same("ACTS", x.about(11), 2);
        Checks.same("feast(0) then", x.feast(0), 0);
        x.hours(2);
        Checks.same("a rests on DAY 0", x.thing(0), 0);
    }

    private static void leaps() {
        RestDays x = Checks.told(COUNT);
        x.hours(1);
        Checks.no("leap at HOUR 1", x.leap());
        x.hours(1);
        Checks.yes("leap", x.leap());
        Checks.no("leap in a LEAP DAY", x.leap());
        Checks.same("DAY", x.about(7), 3);
        Checks.same("HOUR", x.about(8), 0);
        Checks.same("ACTS", x.about(11), 3);
        x.hours(1);
        Checks.no("leap within a LEAP DAY", x.leap());
        Checks.same("DAY still", x.about(7), 3);
        Checks.same("HOUR 1", x.about(8), 1);
        Checks.same("a, as no LAW rests", x.thing(0), 3);
        // o is broken on DAY 3, n as a is odd
        Checks.same("crime", x.crime(x.about(10) - 1, 1), 3);
        x.hours(1);
        Checks.same("the DAY to come", x.about(7), 1);
        Checks.same("HOUR 0", x.about(8), 0);
        Checks.same("HOURS", x.about(9), 4);
        Checks.yes("another leap at once", x.leap());
        x.hours(2);
        Checks.same("the DAY to come again", x.about(7), 1);
        x.hours(4);
        Checks.same("on and on", x.about(7), 0);
        RestDays y = Checks.told("week 2 hours 1;");
        Checks.yes("leap of one HOUR", y.leap());
        Checks.no("and no other in it", y.leap());
        y.hours(1);
        Checks.same("DAY 0", y.about(7), 0);
        Checks.yes("leap ahead of DAY 0 again", y.leap());
    }

    private static void undoing() {
        RestDays x = Checks.told(COUNT);
        Checks.no("undo nothing", x.undo());
        Checks.no("redo nothing", x.redo());
        x.deed(0);
        x.hours(2);
        x.leap();
        x.shift(0, 2);
        x.hours(1);
        Checks.same("ACTS", x.about(11), 5);
        Checks.same("HOUR ahead", x.about(8), 1);
        Checks.yes("undo hours", x.undo());
        Checks.same("HOURS", x.about(9), 2);
        Checks.same("HOUR", x.about(8), 0);
        Checks.same("a", x.thing(0), 102);
        Checks.yes("undo shift", x.undo());
        Checks.same("feast(0)", x.feast(0), 1);
        Checks.yes("undo leap", x.undo());
        Checks.same("DAY", x.about(7), 1);
        Checks.yes("undo hours 2", x.undo());
        Checks.same("HOURS none", x.about(9), 0);
        Checks.yes("undo deed", x.undo());
        Checks.same("b", x.thing(1), 0);
        Checks.no("undo no more", x.undo());
        Checks.same("to redo", x.about(12), 5);
        Checks.yes("redo deed", x.redo());
        Checks.same("b again", x.thing(1), 1);
        Checks.yes("redo hours", x.redo());
        Checks.yes("redo leap", x.redo());
        Checks.same("DAY again", x.about(7), 3);
        // what can't be is no ACT, and leaves what can be done again
        Checks.no("leap", x.leap());
        Checks.same("shift", x.shift(0, 9), RestDays.NONE);
        Checks.same("hours", x.hours(61), RestDays.NONE);
        Checks.same("still to redo", x.about(12), 2);
        Checks.yes("redo shift", x.redo());
        Checks.same("feast(0) again", x.feast(0), 2);
        Checks.same("ACTS to undo", x.about(11), 4);
        x.hours(0);
        Checks.same("another ACT", x.about(12), 0);
        Checks.no("redo no more", x.redo());
        Checks.same("ACTS then", x.about(11), 5);
    }

    private static void fortyKept() {
        RestDays x = Checks.told(COUNT);
        for (int i = 1; i <= 43; i++) {
            x.hours(1);
            Checks.same("ACTS " + i, x.about(11), Math.min(i, 40));
        }
        for (int i = 1; i <= 40; i++) {
            Checks.yes("undo " + i, x.undo());
            Checks.same("HOURS " + i, x.about(9), 43 - i);
        }
        Checks.no("undo 41", x.undo());
        Checks.same("to redo", x.about(12), 40);
        for (int i = 1; i <= 40; i++) {
            Checks.yes("redo " + i, x.redo());
            Checks.same("HOURS again " + i, x.about(9), 3 + i);
        }
        Checks.no("redo 41", x.redo());
    }

    private static void crimes() {
        RestDays x = Checks.told(COUNT);
        x.hours(6);
        // behind the LAWS a is 1 2 | 2 2 | 3 4: n rests on DAY 2; o is broken on DAY 1
        Checks.same("CRIMES", x.about(10), 3);
        Checks.same("crime(0, 0)", x.crime(0, 0), 0);
        Checks.same("crime(0, 1)", x.crime(0, 1), 1);
        Checks.same("crime(1, 0)", x.crime(1, 0), 2);
        Checks.same("crime(1, 1)", x.crime(1, 1), 2);
        Checks.same("crime(2, 0)", x.crime(2, 0), 3);
        Checks.same("crime(2, 1)", x.crime(2, 1), 2);
        Checks.same("crime(3, 0)", x.crime(3, 0), RestDays.NONE);
        Checks.same("crime(-1, 0)", x.crime(-1, 0), RestDays.NONE);
        Checks.same("crime(0, 2)", x.crime(0, 2), RestDays.NONE);
        Checks.same("crime(0, -1)", x.crime(0, -1), RestDays.NONE);
        x.undo();
        Checks.same("CRIMES undone", x.about(10), 0);
        Checks.same("crime(0, 0) undone", x.crime(0, 0), RestDays.NONE);
        x.deed(0);
        x.shift(0, 0);
        x.hours(4);
        // a is 100 100 | 101 102: o and n on DAY 1
        Checks.same("CRIMES then", x.about(10), 2);
        Checks.same("crime(0, 0) then", x.crime(0, 0), 2);
        Checks.same("crime(0, 1) then", x.crime(0, 1), 3);
        Checks.same("crime(1, 1) then", x.crime(1, 1), 2);
        Checks.no("a deed alone is none: undone ones are gone", x.redo());
    }

    private static void sixtyCrimes() {
        RestDays x = Checks.told("ban n rests 6 if 1;");
        x.hours(60);
        // 56 HOURS from 28, of which 4 are DAY 6; then 4 more
        Checks.same("CRIMES of 60 HOURS", x.about(10), 52);
        Checks.same("behind the rest", x.crime(24, 0), 28);
        x.hours(7);
        Checks.same("CRIMES of 67", x.about(10), 59);
        x.hours(1);
        Checks.same("CRIMES of 68", x.about(10), 60);
        Checks.same("the last", x.crime(59, 0), 67);
        x.hours(1);
        Checks.same("the first 60 are noted", x.about(10), 60);
        Checks.same("crime(60, 0)", x.crime(60, 0), RestDays.NONE);
        x.undo();
        x.undo();
        Checks.same("undone", x.about(10), 59);
        x.redo();
        Checks.same("the last again", x.crime(59, 0), 67);
    }

    private static void boxes() {
        RestDays x = Checks.told(COUNT);
        Checks.same("back(0) of none", x.back(0), RestDays.NONE);
        for (int i : new int[] {-1, 3, Integer.MIN_VALUE, Integer.MAX_VALUE}) {
            Checks.same("image(" + i + ")", x.image(i), RestDays.NONE);
            Checks.same("back(" + i + ")", x.back(i), RestDays.NONE);
        }
        Checks.same("image(2)", x.image(2), 0);
        x.hours(5);
        x.shift(0, 2);
        Checks.same("image(0)", x.image(0), 5);
        x.hours(1);
        x.leap();
        x.hours(1);
        Checks.same("image(1)", x.image(1), 7);
        int crimes = x.about(10);
        x.undo();
        Checks.same("back(0)", x.back(0), 5);
        Checks.same("no ACTS", x.about(11), 0);
        Checks.same("none to redo", x.about(12), 0);
        Checks.no("undo", x.undo());
        Checks.no("redo", x.redo());
        Checks.same("DAY", x.about(7), 2);
        Checks.same("HOUR", x.about(8), 1);
        Checks.same("feast(0)", x.feast(0), 2);
        x.deed(0);
        x.hours(20);
        Checks.same("back(1)", x.back(1), 7);
        Checks.same("DAY in the LEAP DAY", x.about(7), 3);
        Checks.same("HOUR in the LEAP DAY", x.about(8), 1);
        Checks.same("b", x.thing(1), 0);
        Checks.same("CRIMES", x.about(10), crimes);
        Checks.same("the last CRIME", x.crime(crimes - 1, 0), 6);
        x.hours(1);
        Checks.same("the DAY that was to come", x.about(7), 0);
        Checks.same("back(2)", x.back(2), 0);
        Checks.same("a", x.thing(0), 0);
        Checks.same("feast(0) as told", x.feast(0), 1);
        Checks.same("CRIMES none", x.about(10), 0);
        Checks.same("back(1) once more", x.back(1), 7);
        Checks.same("image over it", x.image(2), 7);
        x.hours(1);
        Checks.same("back to it", x.back(2), 7);
        Checks.same("at HOUR 1 of it", x.about(8), 1);
        x.hours(4);
        x.shift(0, 0);
        x.undo();
        Checks.yes("undo to what was kept", x.undo());
        Checks.same("HOURS of it", x.about(9), 7);
        Checks.same("DAY of it", x.about(7), 3);
        Checks.same("HOUR of it", x.about(8), 1);
        Checks.same("feast of it", x.feast(0), 2);
        Checks.same("CRIMES of it", x.about(10), crimes);
    }

    private static void sets() {
        RestDays x = Checks.told("thing a 5 to 9;thing b 3 to 6;"
                + "deed d if 1 then a becomes b and b becomes a and a becomes a*100 and b becomes b-4;"
                + "law k rests 6 if a=9 then a becomes 0;law m rests 6 if a=0 then b becomes 6-hour-day*0;"
                + "law n rests 6 if b=6 then a becomes 1;");
        x.deed(0);
        // a 3, b 3, a 300 at most 9, b -1 at least 0
        Checks.same("a", x.thing(0), 9);
        Checks.same("b", x.thing(1), 0);
        x.hours(1);
        // each LAW sees what those ahead of it did
        Checks.same("a by LAWS", x.thing(0), 1);
        Checks.same("b by LAWS", x.thing(1), 6);
    }
}
