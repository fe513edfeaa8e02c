/** What the tests of texts share: LANDS with a FAULT, LANDS without one, what a formula comes to. */
abstract class Texts {
    static void fault(String text, int what, int place) {
        RestDays x = new RestDays();
        Checks.same("land: " + text, Checks.land(x, text), RestDays.NONE);
        Checks.same("fault of: " + text, x.fault(0), what);
        Checks.same("place of: " + text, x.fault(1), place);
    }

    static RestDays good(String text) {
        return Checks.told(text);
    }

    /** By an a of 7 and an o of 0, on DAY 0 in HOUR 0. */
    static void comes(String e, int due) {
        Checks.same(e, good("thing a 7 to 9;thing o 0 to 9;gain " + e + ";").says(1), due);
    }

    /** LAWS by each of which a becomes one more, all of which rest on DAY 0 of a week of one HOUR a DAY. */
    static String alikeLaws(int days, int laws) {
        StringBuilder s = new StringBuilder("week " + days + " hours 1;thing a 0 to 99;");
        for (int l = 0; l < laws; l++) {
            s.append("law ").append((char) ('a' + l)).append(" rests 0 if 1 then a becomes a+1;");
        }
        return s.toString();
    }
}
