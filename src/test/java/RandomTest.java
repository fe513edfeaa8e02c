import java.util.ArrayList;
import java.util.List;
import java.util.Random;

/**
 * Promises 1 to 38: RestDays and the Model are told the same random LANDS and asked the same random
 * calls. The seeds are fixed: the arguments (from, to) choose others.
 */
final class RandomTest {
    private static final int CALLS = 512;
    private static final int[] ODD = {-1, Integer.MIN_VALUE, Integer.MAX_VALUE, -2, 7, 20, 61, 101, 301,
        1000, 1001, 100000};

    private final Random random;
    private final RestDays x = new RestDays();
    private final Model model = new Model();
    private final List<String> calls = new ArrayList<>();
    private final Writer writer;
    private boolean wrong = false;

    RandomTest(long seed) {
        random = new Random(seed);
        writer = new Writer(random);
    }

    public static void main(String[] args) {
        long from = args.length > 0 ? Long.parseLong(args[0]) : 0;
        long to = args.length > 1 ? Long.parseLong(args[1]) : 1500;
        for (long seed = from; seed < to; seed++) {
            RandomTest run = new RandomTest(seed);
            run.run();
            if (run.wrong) {
                System.out.println("seed " + seed);
                run.calls.forEach(c -> System.out.println("  " + c));
            }
            Checks.no("run " + seed + " differs", run.wrong);
        }
        Checks.finish();
    }

    private void run() {
        for (int i = 1 + random.nextInt(3); i > 0 && !wrong; i--) {
            tell();
            // a LAND with a FAULT leaves the one ahead of it: seldom what is worth asking
            for (int j = 0; model.fault(0) != 0 && j < 4; j++) {
                tell();
            }
            for (int j = 0; j < 80 && calls.size() < CALLS && !wrong; j++) {
                call();
            }
        }
    }

    private void tell() {
        String text = writer.land();
        if (random.nextInt(3) == 0) {
            text = writer.spoilt(text);
        }
        if (text.length() > 1700) {
            text = text.substring(0, 1700);
        }
        byte[] bytes = text.getBytes(java.nio.charset.StandardCharsets.ISO_8859_1);
        for (int i = 0; i < bytes.length; i += 20) {
            int[] n = new int[5];
            for (int j = 0; j < 5; j++) {
                n[j] = Checks.four(bytes, i + 4 * j);
            }
            same("feed", x.feed(n[0], n[1], n[2], n[3], n[4]), model.feed(n));
        }
        same("end " + text.length(), x.end(text.length()), model.end(text.length()));
        same("land: " + text, x.land(), model.land());
        same("fault 0", x.fault(0), model.fault(0));
        same("fault 1", x.fault(1), model.fault(1));
        for (int i = 0; i < 17; i++) {
            same("about " + i, x.about(i), model.about(i));
        }
    }

    private void same(String call, long got, long due) {
        calls.add(call + " -> " + due);
        // nothing is promised of what is called behind the 512th
        if (got != due && !wrong && calls.size() <= CALLS) {
            calls.add("ANSWERED " + got);
            wrong = true;
        }
    }

    private int up(int n) {
        if (random.nextInt(40) == 0) {
            return ODD[random.nextInt(ODD.length)];
        }
        return n <= 0 || random.nextInt(25) == 0 ? n : random.nextInt(n);
    }

    private void call() {
        switch (random.nextInt(44)) {
            case 0, 1, 2 -> {
                int n = up(random.nextInt(8) == 0 ? 61 : 9);
                same("hours " + n, x.hours(n), model.hours(n));
            }
            case 3, 4 -> {
                int n = up(model.about(2));
                same("deed " + n, x.deed(n) ? 1 : 0, model.deed(n) ? 1 : 0);
            }
            case 5, 6 -> {
                int l = up(model.about(1));
                int d = up(model.about(5));
                same("shift " + l + "," + d, x.shift(l, d), model.shift(l, d));
            }
            case 7 -> same("leap", x.leap() ? 1 : 0, model.leap() ? 1 : 0);
            case 8, 9 -> {
                for (int i = random.nextInt(4); i >= 0; i--) {
                    same("undo", x.undo() ? 1 : 0, model.undo() ? 1 : 0);
                }
            }
            case 10 -> {
                for (int i = random.nextInt(4); i >= 0; i--) {
                    same("redo", x.redo() ? 1 : 0, model.redo() ? 1 : 0);
                }
            }
            case 11 -> {
                int i = up(model.about(10));
                int w = up(2);
                same("crime " + i + "," + w, x.crime(i, w), model.crime(i, w));
            }
            case 12 -> {
                int b = up(3);
                same("image " + b, x.image(b), model.image(b));
            }
            case 13 -> {
                int b = up(3);
                same("back " + b, x.back(b), model.back(b));
            }
            case 14, 15 -> state();
            case 16, 17 -> {
                int t = up(model.about(0));
                int n = up(301);
                same("will " + t + "," + n, x.will(t, n), model.will(t, n));
            }
            case 18 -> {
                int w = up(2);
                same("round " + w, x.round(w), model.round(w));
            }
            case 19, 20 -> {
                int l = up(model.about(1));
                int m = up(model.about(1));
                same("clash " + l + "," + m, x.clash(l, m), model.clash(l, m));
            }
            case 21, 22 -> {
                int n = random.nextInt(3) == 0 ? up(21) : up(8);
                same("plan " + n, x.plan(n), model.plan(n));
                lies();
            }
            case 23, 24 -> {
                int n = up(7);
                same("most " + n, x.most(n), model.most(n));
                lies();
            }
            case 25 -> {
                int l = up(model.about(1));
                int m = up(model.about(1));
                same("loophole " + l + "," + m, x.loophole(l, m), model.loophole(l, m));
            }
            case 26, 27, 28, 29 -> wish();
            case 30, 31 -> {
                int n = up(random.nextBoolean() ? 101 : 20);
                same("guilds " + n, x.guilds(n), model.guilds(n));
                lies();
            }
            case 32, 33 -> {
                int w = up(2);
                int l = up(model.about(1));
                int n = up(101);
                same("more " + w + "," + l + "," + n, x.more(w, l, n), model.more(w, l, n));
            }
            case 34, 35, 36 -> look();
            case 37 -> {
                int l = up(model.about(13));
                same("untell " + l, x.untell(l) ? 1 : 0, model.untell(l) ? 1 : 0);
            }
            case 38 -> {
                int by = up(random.nextInt(3) == 0 ? 1001 : 4);
                same("later " + by, x.later(by), model.later(by));
            }
            case 39, 40 -> known();
            case 41 -> same("broken", x.broken(), model.broken());
            default -> lies();
        }
    }

    private void state() {
        for (int i = 0; i < 6; i++) {
            same("thing " + i, x.thing(i), model.thing(i));
            same("feast " + i, x.feast(i), model.feast(i));
            same("does " + i, x.does(i), model.does(i));
            same("can " + i, x.can(i), model.can(i));
        }
        int odd = up(3);
        same("thing " + odd, x.thing(odd), model.thing(odd));
        same("feast " + odd, x.feast(odd), model.feast(odd));
        same("does " + odd, x.does(odd), model.does(odd));
        same("can " + odd, x.can(odd), model.can(odd));
        same("says " + odd, x.says(odd), model.says(odd));
        same("fault " + odd, x.fault(odd), model.fault(odd));
        same("says 0", x.says(0), model.says(0));
        same("says 1", x.says(1), model.says(1));
        same("broken", x.broken(), model.broken());
        for (int i = -1; i < 19; i++) {
            same("about " + i, x.about(i), model.about(i));
        }
    }

    private void lies() {
        int n = model.about(17);
        same("about 17", x.about(17), n);
        for (int i = 0; i <= n; i++) {
            same("lies " + i, x.lies(i), model.lies(i));
        }
        int odd = up(5);
        same("lies " + odd, x.lies(odd), model.lies(odd));
    }

    private void wish() {
        int t = up(model.about(0));
        int n = up(random.nextInt(4) == 0 ? 101 : 16);
        int near = Math.max(0, model.will(t, Math.max(0, Math.min(300, n))));
        int least = random.nextInt(3) == 0 ? up(1000) : Math.max(0, near - 2 + random.nextInt(5));
        int most = random.nextInt(30) == 0 ? up(1001) : least + random.nextInt(3);
        if (random.nextBoolean()) {
            same("amend " + t + "," + least + "," + most + "," + n, x.amend(t, least, most, n),
                    model.amend(t, least, most, n));
        } else {
            same("all " + t + "," + least + "," + most + "," + n, x.all(t, least, most, n),
                    model.all(t, least, most, n));
        }
        lies();
    }

    private void look() {
        int h = up(random.nextInt(6) == 0 ? 61 : 12);
        int t = up(model.about(0));
        int so = up(1000);
        if (random.nextInt(12) != 0 && model.about(0) > 0 && t >= 0 && t < model.about(0) && h >= 0 && h <= 60) {
            Model.State first = Model.State.first(model.land);
            int[] feasts = new int[model.land.laws.size()];
            for (int i = 0; i < feasts.length; i++) {
                feasts[i] = random.nextInt(model.land.days);
            }
            so = first.by(feasts).in(h).things[t];
        }
        same("look " + h + "," + t + "," + so, x.look(h, t, so), model.look(h, t, so));
    }

    private void known() {
        int k = random.nextInt(5) == 0 ? up(model.about(14)) : model.about(14);
        int l = up(model.about(1));
        same("fit " + k, x.fit(k), model.fit(k));
        same("rests " + l + "," + k, x.rests(l, k), model.rests(l, k));
        int n = up(random.nextInt(6) == 0 ? 61 : 14);
        int w = up(2);
        same("ask " + n + "," + w + "," + k, x.ask(n, w, k), model.ask(n, w, k));
    }
}
