import java.nio.charset.StandardCharsets;
import java.util.ArrayList;
import java.util.List;
import java.util.Random;

/** Long random runs, with texts good and bad and arguments in and out of their bounds, against the oracle. */
public final class OracleTest {
    private static final int RUNS = 1200;
    private static final int[] EDGES = {Integer.MIN_VALUE, Integer.MAX_VALUE, -2, -1, 0, 1, 2, 5, 6, 7, 8, 9, 15, 16,
        30, 31, 39, 40, 41, 50, 51, 200, 201, 2000, 2001, -2000, -2001, 9999, 10000, 1000000, 1000001, -1000000, -1000001};

    private final Random random;
    private final Due due;
    private final StickStrings object = new StickStrings();
    private final Oracle oracle = new Oracle();
    private final List<String> calls = new ArrayList<>();
    private final int run;

    private OracleTest(int run, Due due) {
        this.run = run;
        this.due = due;
        this.random = new Random(run * 7919L + 17);
    }

    public static void main(String[] args) {
        Due due = new Due();
        for (int run = 0; run < RUNS && due.wrong() == 0; run++) {
            new OracleTest(run, due).go();
        }
        due.end();
    }

    private void go() {
        tell(new Texts(random).good());
        int more = 30 + random.nextInt(60);
        int often = random.nextInt(3) == 0 ? 1000 : 12;
        for (int i = 0; i < more && due.wrong() == 0; i++) {
            if (random.nextInt(often) == 0) {
                Texts texts = new Texts(random);
                tell(random.nextInt(3) == 0 ? texts.good() : texts.bad());
            }
            call(random.nextInt(40));
        }
        if (due.wrong() != 0) {
            System.out.println("run " + run + ":");
            calls.forEach(System.out::println);
        }
    }

    private void tell(String text) {
        calls.add("text " + text.replace("\n", "\\n"));
        StringBuilder padded = new StringBuilder(text);
        while (padded.length() % 20 != 0) {
            padded.append(' ');
        }
        for (int at = 0; at < padded.length(); at += 20) {
            String twenty = padded.substring(at, at + 20);
            byte[] b = twenty.getBytes(StandardCharsets.ISO_8859_1);
            int[] n = new int[5];
            for (int i = 0; i < 20; i++) {
                n[i / 4] = n[i / 4] << 8 | b[i] & 255;
            }
            due.is("feed", object.feed(n[0], n[1], n[2], n[3], n[4]), oracle.feed(twenty));
        }
        int length = random.nextInt(30) == 0 ? pick(0, 820) : text.length();
        due.is("text", object.text(length), oracle.text(length));
        due.is("fault 0", object.fault(0), oracle.fault(0));
        due.is("fault 1", object.fault(1), oracle.fault(1));
        for (int what = 0; what < 9; what++) {
            due.is("count " + what, object.count(what), oracle.count(what));
        }
    }

    private int pick(int least, int most) {
        if (random.nextInt(60) == 0) {
            return EDGES[random.nextInt(EDGES.length)];
        }
        if (random.nextInt(60) == 0) {
            return random.nextBoolean() ? least - 1 : most + 1;
        }
        return most < least ? least : least + random.nextInt(most - least + 1);
    }

    private int player() {
        return pick(0, oracle.count(1) - 1);
    }

    private int beat() {
        return pick(0, oracle.count(2) - 1);
    }

    private int off() {
        return random.nextInt(4) == 0 ? pick(0, 9999) : pick(0, 60);
    }

    private int v() {
        return random.nextInt(5) == 0 ? pick(-5, 5) : pick(-2000, 2000);
    }

    private static String show(String name, int... numbers) {
        return name + java.util.Arrays.toString(numbers);
    }

    private void is(String call, long got, long want) {
        calls.add(call + " -> " + got);
        due.is("run " + run + " " + call, got, want);
    }

    private void call(int which) {
        int p = player();
        int q = player();
        int n = beat();
        int m = random.nextInt(3) == 0 ? n : beat();
        int x = pick(0, 40);
        int y = pick(0, 40);
        int e = off();
        int v = v();
        switch (which) {
            case 0 -> is(show("fault", q), object.fault(q), oracle.fault(q));
            case 1 -> {
                int what = pick(0, 1);
                int letters = Due.letters(Texts.NAMES[random.nextInt(Texts.NAMES.length)]);
                is(show("named", what, letters), object.named(what, letters), oracle.named(what, letters));
            }
            case 2, 3 -> look(p, pick(0, 7));
            case 4 -> {
                int law = pick(0, oracle.count(0) - 1);
                int what = pick(0, 5);
                is(show("law", law, what), object.law(law, what), oracle.law(law, what));
            }
            case 5 -> {
                int beat = pick(0, oracle.count(2));
                is(show("begin", beat), object.begin(beat), oracle.begin(beat));
            }
            case 6 -> is(show("way", p, q), object.way(p, q), oracle.way(p, q));
            case 7, 8 -> is(show("entry", p, n), object.entry(p, n), oracle.entry(p, n));
            case 9 -> is(show("spread", n), object.spread(n), oracle.spread(n));
            case 10 -> is(show("lag", n), object.lag(n), oracle.lag(n));
            case 11 -> is(show("verdict", e), object.verdict(e), oracle.verdict(e));
            case 12 -> {
                int what = pick(0, 1);
                is(show("guilty", e, what), object.guilty(e, what), oracle.guilty(e, what));
            }
            case 13, 14 -> {
                int bits = pick(0, 15);
                is(show("take", p, bits), object.take(p, bits) ? 1 : 0, oracle.take(p, bits) ? 1 : 0);
            }
            case 15, 16 -> {
                int sx = pick(0, 30);
                int sy = pick(0, 30);
                is(show("seat", p, sx, sy), object.seat(p, sx, sy) ? 1 : 0, oracle.seat(p, sx, sy) ? 1 : 0);
            }
            case 17 -> is("undo", object.undo(), oracle.undo());
            case 18 -> is(show("sound", p, n, x, y), object.sound(p, n, x, y), oracle.sound(p, n, x, y));
            case 19 -> is(show("together", x, y, n, m), object.together(x, y, n, m), oracle.together(x, y, n, m));
            case 20 -> {
                int what = pick(0, 2);
                int last = Math.min(n + 1, oracle.count(2) - 1);
                is(show("where", n, last, what), object.where(n, last, what), oracle.where(n, last, what));
            }
            case 21 -> is(show("shift", p, x, y), object.shift(p, x, y), oracle.shift(p, x, y));
            case 22, 23 -> is(show("moved", p, n, v, q, m), object.moved(p, n, v, q, m), oracle.moved(p, n, v, q, m));
            case 24 -> is(show("far", p, n, v, m), object.far(p, n, v, m), oracle.far(p, n, v, m));
            case 25 -> is(show("ends", p, n, v), object.ends(p, n, v), oracle.ends(p, n, v));
            case 26 -> {
                int k = pick(0, 40);
                is(show("goes", p, n, v, k, e), object.goes(p, n, v, k, e), oracle.goes(p, n, v, k, e));
            }
            case 27 -> is(show("by", p), object.by(p), oracle.by(p));
            case 28, 29, 30 -> film(p, n);
            case 31 -> {
                int note = pick(0, oracle.count(4) - 1);
                is(show("strike", note), object.strike(note), oracle.strike(note));
            }
            case 32 -> {
                int by = pick(-1, oracle.count(4));
                is(show("known", by), object.known(by) ? 1 : 0, oracle.known(by) ? 1 : 0);
            }
            default -> callMore(which, p, q, n);
        }
    }

    private void callMore(int which, int p, int q, int n) {
        int e = off();
        int what = pick(0, 1);
        switch (which) {
            case 33 -> is(show("fits", p, e), object.fits(p, e), oracle.fits(p, e));
            case 34 -> is(show("next", p, e, what), object.next(p, e, what), oracle.next(p, e, what));
            case 35 -> {
                int x = pick(0, 40);
                int y = pick(0, 40);
                int m = Math.min(n + 2, oracle.count(2) - 1);
                int whose = pick(0, oracle.count(1));
                if (oracle.count(1) <= 4 || random.nextInt(4) == 0) {
                    is(show("order", x, y, n, m, whose), object.order(x, y, n, m, whose), oracle.order(x, y, n, m, whose));
                }
            }
            case 36 -> is(show("pause", p, what), object.pause(p, what), oracle.pause(p, what));
            case 37 -> is(show("two", p, q, n), object.two(p, q, n), oracle.two(p, q, n));
            case 38 -> is(show("clear", what), object.clear(what), oracle.clear(what));
            default -> {
                int seed = random.nextInt();
                int many = pick(1, 5);
                int j = random.nextInt(3) == 0 ? pick(0, 200) : pick(0, 5);
                is(show("draws", seed, many, j, e), object.draws(seed, many, j, e), oracle.draws(seed, many, j, e));
                is(show("draws", -1 - seed, many, j, e), object.draws(-1 - seed, many, j, e),
                        oracle.draws(-1 - seed, many, j, e));
                int count = pick(0, 8);
                is(show("count", count), object.count(count), oracle.count(count));
            }
        }
    }

    private void look(int player, int what) {
        int want;
        int answer = 0;
        try {
            answer = oracle.look(player, what);
            want = 0;
        } catch (IndexOutOfBoundsException e) {
            want = 1;
        } catch (java.util.NoSuchElementException e) {
            want = 2;
        }
        is(show("look throws", player, what), Due.lookThrows(object, player, what), want);
        if (want == 0) {
            is(show("look", player, what), object.look(player, what), answer);
        }
    }

    /** Times near what some LAW says, so that it matters which LAWS fit. */
    private void film(int p, int n) {
        int entry = oracle.entry(p, n);
        int time = entry == Oracle.NO || random.nextInt(8) == 0 ? pick(-1000000, 1000000) : entry + pick(-40, 40);
        is(show("film", p, n, time), object.film(p, n, time), oracle.film(p, n, time));
    }
}
