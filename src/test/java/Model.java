import java.util.ArrayList;
import java.util.Arrays;
import java.util.HashMap;
import java.util.HashSet;
import java.util.LinkedHashMap;
import java.util.List;
import java.util.Map;
import java.util.Set;
import java.util.TreeSet;

/**
 * The document told a second time, as plainly as can be and without a thought of speed or room:
 * formulas are trees, what is kept are copies, what is looked for is tried out. RandomTest holds
 * RestDays against it.
 */
final class Model {
    static final int NONE = -1;
    static final int GAP = -1000000;
    static final List<String> RESERVED = List.of("week", "hours", "thing", "to", "law", "rests", "if",
            "then", "and", "deed", "ban", "goal", "gain", "guild", "of", "wants", "becomes", "or", "also",
            "not", "day", "hour");

    // ---------------------------------------------------------------- what is told

    interface Tree {
        int in(State s);
    }

    record Set1(int thing, Tree e) { }

    record Actor(Tree e, List<Set1> sets) { }

    static final class Told {
        int days = 7;
        int dayHours = 4;
        int units = 0;
        final List<int[]> things = new ArrayList<>();
        final List<Actor> laws = new ArrayList<>();
        final List<Integer> lawFeasts = new ArrayList<>();
        final List<Actor> deeds = new ArrayList<>();
        final List<Tree> bans = new ArrayList<>();
        final List<Integer> banFeasts = new ArrayList<>();
        final List<Tree> wants = new ArrayList<>();
        final List<Integer> guildLaws = new ArrayList<>();
        Tree goal;
        Tree gain;
        final Map<String, List<String>> names = new HashMap<>();

        List<String> names(String sort) {
            return names.computeIfAbsent(sort, k -> new ArrayList<>());
        }
    }

    static final class Fault extends RuntimeException {
        final int what;
        final int place;

        Fault(int what, int place) {
            super(null, null, false, false);
            this.what = what;
            this.place = place;
        }
    }

    record Token(String text, int place, boolean good) { }

    static List<Token> tokens(String t) {
        List<Token> all = new ArrayList<>();
        int i = 0;
        while (i < t.length()) {
            char c = t.charAt(i);
            int j = i + 1;
            if (c == ' ' || c == '\n') {
                i++;
                continue;
            }
            boolean good;
            if (c >= 'a' && c <= 'z') {
                while (j < t.length() && t.charAt(j) >= 'a' && t.charAt(j) <= 'z') {
                    j++;
                }
                good = j - i <= 8;
            } else if (c >= '0' && c <= '9') {
                while (j < t.length() && t.charAt(j) >= '0' && t.charAt(j) <= '9') {
                    j++;
                }
                good = j - i <= 4 && !(j < t.length() && t.charAt(j) >= 'a' && t.charAt(j) <= 'z');
            } else {
                good = ";()<>=+-*/%".indexOf(c) >= 0;
            }
            all.add(new Token(t.substring(i, j), i, good));
            i = j;
        }
        all.add(new Token("", t.length(), true));
        return all;
    }

    static final class Reader {
        final List<Token> tokens;
        int at = 0;
        int unitsHere;
        final Told land = new Told();

        Reader(String text) {
            tokens = tokens(text);
        }

        String peek() {
            Token t = tokens.get(at);
            if (!t.good()) {
                throw new Fault(1, t.place());
            }
            return t.text();
        }

        Fault bad(int what) {
            peek();
            return new Fault(what, tokens.get(at).place());
        }

        void need(String s) {
            if (!peek().equals(s)) {
                throw bad(2);
            }
            at++;
        }

        boolean take(String s) {
            if (!peek().equals(s)) {
                return false;
            }
            at++;
            return true;
        }

        boolean atWord() {
            return !peek().isEmpty() && Character.isLetter(peek().charAt(0));
        }

        boolean atNumber() {
            return !peek().isEmpty() && Character.isDigit(peek().charAt(0));
        }

        int number(int least, int most) {
            if (!atNumber()) {
                throw bad(2);
            }
            int n = Integer.parseInt(peek());
            if (n < least || n > most) {
                throw bad(4);
            }
            at++;
            return n;
        }

        String name() {
            if (!atWord() || RESERVED.contains(peek())) {
                throw bad(2);
            }
            return peek();
        }

        void newName(String sort) {
            String n = name();
            if (land.names(sort).contains(n)) {
                throw bad(3);
            }
            land.names(sort).add(n);
            at++;
        }

        int oldName(String sort) {
            int i = land.names(sort).indexOf(name());
            if (i < 0) {
                throw bad(5);
            }
            at++;
            return i;
        }

        Told land() {
            boolean first = true;
            while (!peek().isEmpty()) {
                line(first);
                need(";");
                first = false;
            }
            return land;
        }

        void most(int told, int most) {
            if (told >= most) {
                throw bad(2);
            }
            at++;
        }

        void line(boolean first) {
            switch (peek()) {
                case "week" -> {
                    most(first ? 0 : 1, 1);
                    land.days = number(2, 9);
                    need("hours");
                    land.dayHours = number(1, 6);
                }
                case "thing" -> {
                    most(land.things.size(), 6);
                    // its own name is no THING's told ahead, but no e stands in its line
                    newName("thing");
                    int n = number(0, 999);
                    need("to");
                    land.things.add(new int[] {n, number(n, 999)});
                }
                case "law" -> {
                    most(land.laws.size(), 5);
                    newName("law");
                    need("rests");
                    land.lawFeasts.add(number(0, land.days - 1));
                    need("if");
                    land.laws.add(actor());
                }
                case "deed" -> {
                    most(land.deeds.size(), 6);
                    newName("deed");
                    need("if");
                    land.deeds.add(actor());
                }
                case "ban" -> {
                    most(land.bans.size(), 4);
                    newName("ban");
                    need("rests");
                    land.banFeasts.add(number(0, land.days - 1));
                    need("if");
                    land.bans.add(formula());
                }
                case "goal" -> {
                    most(land.goal == null ? 0 : 1, 1);
                    land.goal = formula();
                }
                case "gain" -> {
                    most(land.gain == null ? 0 : 1, 1);
                    land.gain = formula();
                }
                case "guild" -> {
                    most(land.wants.size(), 4);
                    newName("guild");
                    need("of");
                    land.guildLaws.add(oldName("law"));
                    need("wants");
                    land.wants.add(formula());
                }
                default -> throw bad(2);
            }
        }

        Actor actor() {
            Tree e = formula();
            need("then");
            List<Set1> sets = new ArrayList<>();
            do {
                int thing = oldName("thing");
                need("becomes");
                sets.add(new Set1(thing, formula()));
                if (sets.size() == 4 && peek().equals("and")) {
                    throw bad(2);
                }
            } while (take("and"));
            return new Actor(e, sets);
        }

        Tree formula() {
            unitsHere = 0;
            return e(0);
        }

        Tree e(int within) {
            Tree t = any(within);
            while (take("or")) {
                Tree l = t;
                Tree r = any(within);
                t = s -> (l.in(s) != 0) | (r.in(s) != 0) ? 1 : 0;
            }
            return t;
        }

        Tree any(int within) {
            Tree t = both(within);
            while (take("also")) {
                Tree l = t;
                Tree r = both(within);
                t = s -> (l.in(s) != 0) & (r.in(s) != 0) ? 1 : 0;
            }
            return t;
        }

        Tree both(int within) {
            if (peek().equals("not")) {
                if (within == 7) {
                    throw bad(2);
                }
                at++;
                Tree of = both(within + 1);
                return s -> of.in(s) == 0 ? 1 : 0;
            }
            Tree l = sum(within);
            if (take("<")) {
                Tree r = sum(within);
                return s -> l.in(s) < r.in(s) ? 1 : 0;
            }
            if (take(">")) {
                Tree r = sum(within);
                return s -> l.in(s) > r.in(s) ? 1 : 0;
            }
            if (take("=")) {
                Tree r = sum(within);
                return s -> l.in(s) == r.in(s) ? 1 : 0;
            }
            return l;
        }

        Tree sum(int within) {
            Tree t = term(within);
            while (true) {
                Tree l = t;
                if (take("+")) {
                    Tree r = term(within);
                    t = s -> l.in(s) + r.in(s);
                } else if (take("-")) {
                    Tree r = term(within);
                    t = s -> l.in(s) - r.in(s);
                } else {
                    return t;
                }
            }
        }

        Tree term(int within) {
            Tree t = unit(within);
            while (true) {
                Tree l = t;
                if (take("*")) {
                    Tree r = unit(within);
                    t = s -> l.in(s) * r.in(s);
                } else if (take("/")) {
                    Tree r = unit(within);
                    t = s -> r.in(s) == 0 ? 0 : (int) ((long) l.in(s) / r.in(s));
                } else if (take("%")) {
                    Tree r = unit(within);
                    t = s -> r.in(s) == 0 ? 0 : (int) ((long) l.in(s) % r.in(s));
                } else {
                    return t;
                }
            }
        }

        Tree unit(int within) {
            boolean paren = peek().equals("(");
            boolean name = atWord() && !RESERVED.contains(peek());
            if (!paren && !name && !atNumber() && !peek().equals("day") && !peek().equals("hour")) {
                throw bad(2);
            }
            if (++unitsHere > 30 || ++land.units > 150) {
                throw bad(2);
            }
            if (paren) {
                if (within == 7) {
                    throw bad(2);
                }
                at++;
                Tree t = e(within + 1);
                need(")");
                return t;
            }
            if (name) {
                int thing = oldName("thing");
                return s -> s.things[thing];
            }
            String w = peek();
            at++;
            if (w.equals("day")) {
                return s -> s.leap ? s.days : s.day;
            }
            if (w.equals("hour")) {
                return s -> s.hour;
            }
            int n = Integer.parseInt(w);
            return s -> n;
        }
    }

    // ---------------------------------------------------------------- what is

    static final class State {
        Told land;
        int days;
        int[] things;
        int day;
        int hour;
        boolean leap;
        int[] lawFeasts;
        int[] banFeasts;
        int hours;
        List<int[]> crimes = new ArrayList<>();

        static State first(Told land) {
            State s = new State();
            s.land = land;
            s.days = land.days;
            s.things = land.things.stream().mapToInt(t -> t[0]).toArray();
            s.lawFeasts = land.lawFeasts.stream().mapToInt(i -> i).toArray();
            s.banFeasts = land.banFeasts.stream().mapToInt(i -> i).toArray();
            return s;
        }

        State copy() {
            State s = new State();
            s.land = land;
            s.days = days;
            s.things = things.clone();
            s.day = day;
            s.hour = hour;
            s.leap = leap;
            s.lawFeasts = lawFeasts.clone();
            s.banFeasts = banFeasts.clone();
            s.hours = hours;
            s.crimes = new ArrayList<>(crimes);
            return s;
        }

        State by(int[] feasts) {
            State s = copy();
            s.lawFeasts = feasts.clone();
            return s;
        }

        boolean rests(int feast) {
            return !leap && feast == day;
        }

        boolean does(int law) {
            return !rests(lawFeasts[law]) && land.laws.get(law).e().in(this) != 0;
        }

        void sets(Actor a) {
            for (Set1 set : a.sets()) {
                int v = set.e().in(this);
                int most = land.things.get(set.thing())[1];
                things[set.thing()] = v < 0 ? 0 : v > most ? most : v;
            }
        }

        void law(int law) {
            if (does(law)) {
                sets(land.laws.get(law));
            }
        }

        void laws() {
            for (int l = 0; l < land.laws.size(); l++) {
                law(l);
            }
        }

        int broken() {
            int bits = 0;
            for (int b = 0; b < land.bans.size(); b++) {
                if (!rests(banFeasts[b]) && land.bans.get(b).in(this) != 0) {
                    bits += 1 << b;
                }
            }
            return bits;
        }

        void clock() {
            hours++;
            hour++;
            if (hour == land.dayHours) {
                hour = 0;
                if (!leap) {
                    day = (day + 1) % days;
                }
                leap = false;
            }
        }

        State in(int n) {
            State s = copy();
            for (int i = 0; i < n; i++) {
                s.laws();
                s.clock();
            }
            return s;
        }

        String key() {
            return Arrays.toString(things) + day + "," + hour + "," + leap;
        }
    }

    static final class Look {
        int hours;
        int thing;
        int so;
        int told;
        long untold = Long.MAX_VALUE;
    }

    static final class Spent extends RuntimeException {
        Spent() {
            super(null, null, false, false);
        }
    }

    StringBuilder tape = new StringBuilder();
    Told land = new Told();
    State now = State.first(land);
    int fault = 0;
    int place = NONE;
    final List<State> past = new ArrayList<>();
    final List<State> future = new ArrayList<>();
    List<Integer> lying = new ArrayList<>();
    final List<Look> looks = new ArrayList<>();
    final State[] boxes = new State[3];
    int time = 0;

    int feed(int... all) {
        if (tape.length() + 20 > 1700) {
            return NONE;
        }
        for (int n : all) {
            for (int i = 3; i >= 0; i--) {
                tape.append((char) (n >>> 8 * i & 255));
            }
        }
        return tape.length();
    }

    int end(int n) {
        if (n < 0 || n > tape.length()) {
            return NONE;
        }
        tape.setLength(n);
        return n;
    }

    int land() {
        String text = tape.toString();
        tape.setLength(0);
        try {
            land = new Reader(text).land();
        } catch (Fault f) {
            fault = f.what;
            place = f.place;
            return NONE;
        }
        fault = 0;
        place = NONE;
        now = State.first(land);
        past.clear();
        future.clear();
        looks.clear();
        lying.clear();
        Arrays.fill(boxes, null);
        return land.things.size();
    }

    int fault(int what) {
        return what == 0 ? fault : what == 1 ? place : NONE;
    }

    static boolean in(int i, List<?> list) {
        return i >= 0 && i < list.size();
    }

    int thing(int i) {
        return in(i, land.things) ? now.things[i] : NONE;
    }

    int feast(int i) {
        return in(i, land.laws) ? now.lawFeasts[i] : NONE;
    }

    int does(int i) {
        return !in(i, land.laws) ? NONE : now.does(i) ? 1 : 0;
    }

    int can(int i) {
        return !in(i, land.deeds) ? NONE : land.deeds.get(i).e().in(now) != 0 ? 1 : 0;
    }

    int broken() {
        return now.broken();
    }

    int says(int what) {
        if (what == 0) {
            return land.goal == null ? 0 : land.goal.in(now);
        }
        if (what == 1) {
            return land.gain == null ? 0 : land.gain.in(now);
        }
        return GAP;
    }

    void act(State before) {
        past.add(before);
        if (past.size() > 40) {
            past.remove(0);
        }
        future.clear();
    }

    int hours(int n) {
        if (n < 0 || n > 60 || now.hours + n > 2000) {
            return NONE;
        }
        act(now.copy());
        for (int i = 0; i < n; i++) {
            now.laws();
            int bits = now.broken();
            if (bits != 0 && now.crimes.size() < 60) {
                now.crimes.add(new int[] {now.hours, bits});
            }
            now.clock();
        }
        return now.hours;
    }

    boolean deed(int d) {
        if (can(d) != 1) {
            return false;
        }
        act(now.copy());
        now.sets(land.deeds.get(d));
        return true;
    }

    int shift(int law, int day) {
        if (!in(law, land.laws) || day < 0 || day >= land.days || now.lawFeasts[law] == day) {
            return NONE;
        }
        act(now.copy());
        int was = now.lawFeasts[law];
        now.lawFeasts[law] = day;
        return was;
    }

    boolean leap() {
        if (now.hour > 0 || now.leap) {
            return false;
        }
        act(now.copy());
        now.leap = true;
        return true;
    }

    boolean undo() {
        if (past.isEmpty()) {
            return false;
        }
        future.add(now);
        now = past.remove(past.size() - 1);
        return true;
    }

    boolean redo() {
        if (future.isEmpty()) {
            return false;
        }
        past.add(now);
        now = future.remove(future.size() - 1);
        return true;
    }

    int crime(int i, int what) {
        return !in(i, now.crimes) || what < 0 || what > 1 ? NONE : now.crimes.get(i)[what];
    }

    int will(int thing, int n) {
        return !in(thing, land.things) || n < 0 || n > 300 ? NONE : now.in(n).things[thing];
    }

    int round(int what) {
        if (what < 0 || what > 1) {
            return NONE;
        }
        Map<String, Integer> seen = new HashMap<>();
        State s = now.copy();
        for (int h = 0; h <= 300; h++) {
            Integer before = seen.putIfAbsent(s.key(), h);
            if (before != null) {
                return what == 0 ? h : h - before;
            }
            s = s.in(1);
        }
        return NONE;
    }

    int clash(int a, int b) {
        if (!in(a, land.laws) || !in(b, land.laws)) {
            return NONE;
        }
        if (!now.does(a) || !now.does(b)) {
            return 0;
        }
        State ab = now.copy();
        ab.law(a);
        ab.law(b);
        State ba = now.copy();
        ba.law(b);
        ba.law(a);
        return Arrays.equals(ab.things, ba.things) ? 0 : 1;
    }

    /** All that can be come to in the next HOUR, with the DEEDS to it; the first way to each. */
    Map<String, Object[]> next(Map<String, Object[]> here, int[] come) {
        Map<String, Object[]> there = new LinkedHashMap<>();
        for (Object[] way : here.values()) {
            for (int d = 0; d <= land.deeds.size(); d++) {
                State s = ((State) way[0]).copy();
                List<Integer> deeds = new ArrayList<>(deeds(way));
                boolean none = d == land.deeds.size();
                if (!none) {
                    if (land.deeds.get(d).e().in(s) == 0) {
                        continue;
                    }
                    s.sets(land.deeds.get(d));
                }
                deeds.add(none ? NONE : d);
                s.laws();
                if (s.broken() != 0) {
                    continue;
                }
                s.clock();
                String key = Arrays.toString(s.things);
                Object[] old = there.get(key);
                if (old == null || isAhead(deeds, deeds(old))) {
                    there.put(key, new Object[] {s, deeds});
                }
            }
        }
        come[0] += there.size();
        if (come[0] > 5000) {
            throw new Spent();
        }
        return there;
    }

    @SuppressWarnings("unchecked")
    static List<Integer> deeds(Object[] way) {
        return (List<Integer>) way[1];
    }

    static boolean isAhead(List<Integer> a, List<Integer> b) {
        for (int i = 0; i < a.size(); i++) {
            int x = a.get(i) == NONE ? 99 : a.get(i);
            int y = b.get(i) == NONE ? 99 : b.get(i);
            if (x != y) {
                return x < y;
            }
        }
        return false;
    }

    Map<String, Object[]> start(State s) {
        Map<String, Object[]> here = new LinkedHashMap<>();
        here.put("", new Object[] {s.copy(), new ArrayList<Integer>()});
        return here;
    }

    int plan(int n) {
        lying.clear();
        if (n < 1 || n > 20 || land.goal == null) {
            return NONE;
        }
        if (land.goal.in(now) != 0) {
            return 0;
        }
        int[] come = {1};
        Map<String, Object[]> here = start(now);
        try {
            for (int h = 1; h <= n; h++) {
                here = next(here, come);
                List<Integer> best = null;
                for (Object[] way : here.values()) {
                    if (land.goal.in((State) way[0]) != 0 && (best == null || isAhead(deeds(way), best))) {
                        best = deeds(way);
                    }
                }
                if (best != null) {
                    lying.addAll(best);
                    return h;
                }
            }
        } catch (Spent s) {
            return -2;
        }
        return NONE;
    }

    /** The gain and its DEEDS; null if there is none. */
    Object[] most(State from, int n) {
        int[] come = {1};
        Map<String, Object[]> here = start(from);
        for (int h = 1; h <= n; h++) {
            here = next(here, come);
        }
        Object[] best = null;
        for (Object[] way : here.values()) {
            int gain = land.gain.in((State) way[0]);
            if (best == null || gain > (Integer) best[0] || gain == (Integer) best[0] && isAhead(deeds(way), deeds(best))) {
                best = new Object[] {gain, deeds(way)};
            }
        }
        return best;
    }

    int most(int n) {
        lying.clear();
        if (n < 1 || n > 6 || land.gain == null) {
            return GAP;
        }
        try {
            Object[] best = most(now, n);
            if (best == null) {
                return GAP;
            }
            lying.addAll(deeds(best));
            return (Integer) best[0];
        } catch (Spent s) {
            return GAP - 1;
        }
    }

    int loophole(int a, int b) {
        if (!in(a, land.laws) || !in(b, land.laws) || a == b || land.gain == null) {
            return GAP;
        }
        int[][] resting = {{a, b}, {a}, {b}};
        Integer[] gains = new Integer[3];
        boolean spent = false;
        for (int i = 0; i < 3; i++) {
            State s = now.copy();
            s.day = 0;
            s.hour = 0;
            s.leap = false;
            Arrays.fill(s.lawFeasts, -7);
            Arrays.fill(s.banFeasts, -7);
            for (int l : resting[i]) {
                s.lawFeasts[l] = 0;
            }
            try {
                Object[] best = most(s, land.dayHours);
                gains[i] = best == null ? null : (Integer) best[0];
            } catch (Spent e) {
                spent = true;
            }
        }
        if (spent) {
            return GAP - 1;
        }
        if (gains[0] == null || gains[1] == null || gains[2] == null) {
            return GAP;
        }
        return gains[0] - (gains[1] > gains[2] ? gains[1] : gains[2]);
    }

    boolean wish(int[] feasts, int thing, int least, int most, int n) {
        int v = now.by(feasts).in(n).things[thing];
        return v >= least && v <= most;
    }

    boolean noWish(int thing, int least, int most, int n) {
        return !in(thing, land.things) || n < 0 || n > 100 || least < 0 || least > most || most > 999;
    }

    int amend(int thing, int least, int most, int n) {
        lying.clear();
        if (noWish(thing, least, most, n)) {
            return NONE;
        }
        int[] own = now.lawFeasts;
        // every pair of (LAW, DAY) lists, sorted as told: by how many, then by LAW, DAY, LAW, DAY
        List<int[]> tries = new ArrayList<>();
        tries.add(new int[0]);
        for (int l = 0; l < own.length; l++) {
            for (int d = 0; d < land.days; d++) {
                tries.add(new int[] {l, d});
                for (int m = l + 1; m < own.length; m++) {
                    for (int f = 0; f < land.days; f++) {
                        tries.add(new int[] {l, d, m, f});
                    }
                }
            }
        }
        tries.sort((x, y) -> x.length != y.length ? x.length - y.length : Arrays.compare(x, y));
        for (int[] t : tries) {
            int[] feasts = own.clone();
            boolean other = true;
            for (int i = 0; i < t.length; i += 2) {
                other &= feasts[t[i]] != t[i + 1];
                feasts[t[i]] = t[i + 1];
            }
            if (other && wish(feasts, thing, least, most, n)) {
                for (int i = 0; i < t.length; i += 2) {
                    lying.add(10 * t[i] + t[i + 1]);
                }
                return t.length / 2;
            }
        }
        return NONE;
    }

    /** All calendars, LAW 0 counting most; null if they are too many. */
    List<int[]> calendars() {
        int laws = land.laws.size();
        if (Math.pow(land.days, laws) > 20000) {
            return null;
        }
        List<int[]> all = new ArrayList<>();
        all.add(new int[0]);
        for (int l = 0; l < laws; l++) {
            List<int[]> longer = new ArrayList<>();
            for (int[] c : all) {
                for (int d = 0; d < land.days; d++) {
                    int[] e = Arrays.copyOf(c, l + 1);
                    e[l] = d;
                    longer.add(e);
                }
            }
            all = longer;
        }
        return all;
    }

    int all(int thing, int least, int most, int n) {
        lying.clear();
        if (noWish(thing, least, most, n)) {
            return NONE;
        }
        List<int[]> all = calendars();
        if (all == null) {
            return -2;
        }
        all.removeIf(c -> !wish(c, thing, least, most, n));
        if (!all.isEmpty()) {
            for (int d : all.get(0)) {
                lying.add(d);
            }
        }
        return all.size();
    }

    int guilds(int n) {
        lying.clear();
        if (n < 0 || n > 100) {
            return NONE;
        }
        int[] feasts = now.lawFeasts.clone();
        for (int turn = 1; turn <= 30; turn++) {
            int[] before = feasts.clone();
            for (int g = 0; g < land.wants.size(); g++) {
                int law = land.guildLaws.get(g);
                int[] wanted = new int[land.days];
                int best = Integer.MIN_VALUE;
                for (int d = 0; d < land.days; d++) {
                    int[] f = feasts.clone();
                    f[law] = d;
                    wanted[d] = land.wants.get(g).in(now.by(f).in(n));
                    best = Math.max(best, wanted[d]);
                }
                if (wanted[feasts[law]] != best) {
                    int d = 0;
                    while (wanted[d] != best) {
                        d++;
                    }
                    feasts[law] = d;
                    before = null;
                }
            }
            if (before != null) {
                for (int d : feasts) {
                    lying.add(d);
                }
                return turn;
            }
        }
        return NONE;
    }

    int more(int what, int law, int n) {
        if (n < 0 || n > 100 || land.gain == null || what < 0 || what > 1 || what == 1 && !in(law, land.laws)) {
            return GAP;
        }
        State s = now.copy();
        s.days = land.days + 1;
        if (what == 1) {
            s.lawFeasts[law] = land.days;
        }
        return land.gain.in(s.in(n));
    }

    int lies(int i) {
        return in(i, lying) ? lying.get(i) : GAP;
    }

    int look(int hours, int thing, int so) {
        if (hours < 0 || hours > 60 || !in(thing, land.things) || so < 0 || so > 999 || looks.size() == 20) {
            return NONE;
        }
        Look l = new Look();
        l.hours = hours;
        l.thing = thing;
        l.so = so;
        l.told = time;
        looks.add(l);
        return looks.size() - 1;
    }

    boolean untell(int i) {
        if (!in(i, looks) || looks.get(i).untold != Long.MAX_VALUE) {
            return false;
        }
        looks.get(i).untold = time;
        return true;
    }

    int later(int by) {
        if (by < 0 || by > 1000 || time + by > 100000) {
            return NONE;
        }
        time += by;
        return time;
    }

    /** The calendars that FIT as known at k; null if SPENT. */
    List<int[]> fitting(int k) {
        List<int[]> all = calendars();
        if (all == null) {
            return null;
        }
        State first = State.first(land);
        for (Look l : looks) {
            if (l.told <= k && !(l.untold <= k)) {
                all.removeIf(c -> first.by(c).in(l.hours).things[l.thing] != l.so);
            }
        }
        return all;
    }

    int fit(int k) {
        List<int[]> all = fitting(k);
        return all == null ? -2 : all.size();
    }

    int rests(int law, int k) {
        if (!in(law, land.laws)) {
            return NONE;
        }
        List<int[]> all = fitting(k);
        if (all == null) {
            return -2;
        }
        Set<Integer> days = new TreeSet<>();
        all.forEach(c -> days.add(c[law]));
        return days.stream().mapToInt(d -> 1 << d).sum();
    }

    int ask(int n, int what, int k) {
        if (n < 0 || n > 60 || what < 0 || what > 1 || land.things.isEmpty()) {
            return NONE;
        }
        List<int[]> all = fitting(k);
        if (all == null) {
            return -2;
        }
        if (all.isEmpty()) {
            return NONE;
        }
        int best = NONE;
        int fewest = Integer.MAX_VALUE;
        for (int t = 0; t < land.things.size(); t++) {
            Map<Integer, Integer> left = new HashMap<>();
            for (int[] c : all) {
                left.merge(State.first(land).by(c).in(n).things[t], 1, Integer::sum);
            }
            int most = left.values().stream().mapToInt(i -> i).max().getAsInt();
            if (most < fewest) {
                fewest = most;
                best = t;
            }
        }
        return what == 0 ? best : fewest;
    }

    int image(int box) {
        if (box < 0 || box > 2) {
            return NONE;
        }
        boxes[box] = now.copy();
        return now.hours;
    }

    int back(int box) {
        if (box < 0 || box > 2 || boxes[box] == null) {
            return NONE;
        }
        now = boxes[box].copy();
        past.clear();
        future.clear();
        return now.hours;
    }

    int about(int what) {
        int[] all = {land.things.size(), land.laws.size(), land.deeds.size(), land.bans.size(),
            land.wants.size(), land.days, land.dayHours, now.leap ? land.days : now.day, now.hour, now.hours,
            now.crimes.size(), past.size(), future.size(), looks.size(), time, tape.length(), land.units,
            lying.size()};
        return what >= 0 && what < all.length ? all[what] : NONE;
    }
}
