import java.util.NoSuchElementException;
import java.util.Random;

/** All promises: the same runs of calls, made by chance from fixed seeds, on VanPlays and on PlainScheme. */
public final class RandomRunsTest {
    private static final int RUNS = 1200;
    private static final int CALLS = 300;
    private static final long NO_SUCH = Long.MIN_VALUE;
    private static final int[] STRANGE = {-1, -2, 12, 14, 99, 100, 200, Integer.MIN_VALUE, Integer.MAX_VALUE};

    private final Random random;
    private final String name;
    private final VanPlays real = new VanPlays();
    private final PlainScheme plain = new PlainScheme();
    private final int span;
    private final int land;

    private RandomRunsTest(int seed) {
        random = new Random(seed);
        name = "run " + seed + ": ";
        // Long spans of nights make the plain search slow, so only some runs have them.
        span = random.nextInt(40) == 0 ? 14 : 3 + random.nextInt(6);
        land = 1 + random.nextInt(random.nextInt(4) == 0 ? 100 : 20);
    }

    public static void main(String[] args) {
        for (int seed = 0; seed < RUNS; seed++) {
            RandomRunsTest run = new RandomRunsTest(seed);
            run.begin();
            for (int i = 0; i < CALLS - 60; i++) {
                run.anyCall();
            }
        }
        Check.close();
    }

    private void begin() {
        int halls = random.nextInt(10);
        for (int i = 0; i < halls; i++) {
            hall();
        }
        int shows = random.nextInt(5);
        for (int i = 0; i < shows; i++) {
            show();
        }
        for (int i = 0; i < 2 * halls; i++) {
            give();
        }
    }

    private void anyCall() {
        int s = pick(6);
        int h = pick(12);
        int night = pick(14);
        switch (random.nextInt(24)) {
            case 0 -> hall();
            case 1 -> show();
            case 2 -> rewire();
            case 3, 4, 5 -> give();
            case 6 -> same("fits", real.fits(s, h), plain.fits(s, h));
            case 7 -> plugged(s, h);
            case 8 -> same("lacks", real.lacks(s, h), plain.lacks(s, h));
            case 9, 10, 11 -> book(s);
            case 12 -> same("on", real.on(s, night), plain.on(s, night));
            case 13, 14 -> snow(h, night);
            case 15 -> same("worth", real.worth(s), plain.worth(s));
            case 16, 17 -> terms(s);
            case 18, 19, 20 -> doors(s);
            case 21 -> parts(s, night);
            case 22 -> sums();
            default -> tapeCalls();
        }
        same("fault", real.fault(), plain.fault());
        same("count", real.count(2), plain.count(2));
        same("tape", real.count(3), plain.count(3));
    }

    private int pick(int below) {
        return random.nextInt(30) == 0 ? STRANGE[random.nextInt(STRANGE.length)] : random.nextInt(below);
    }

    private int pickFrom(int least, int most) {
        return random.nextInt(40) == 0 ? STRANGE[random.nextInt(STRANGE.length)]
                : least + random.nextInt(most - least + 1);
    }

    private void same(String call, long got, long want) {
        Check.due(name + call, got, want);
    }

    private void same(String call, boolean got, boolean want) {
        Check.due(name + call, got, want);
    }

    private void feed(int... bytes) {
        same("end(0)", real.end(0), plain.end(0));
        for (int i = 0; i < bytes.length; i += 20) {
            int[] five = new int[5];
            for (int k = 0; k < 5; k++) {
                five[k] = Check.number(bytes, i + 4 * k);
            }
            same("feed", real.feed(five[0], five[1], five[2], five[3], five[4]),
                    plain.feed(five[0], five[1], five[2], five[3], five[4]));
        }
        same("end", real.end(bytes.length), plain.end(bytes.length));
    }

    private void feedAmps(int least, int most, int top) {
        int size = random.nextInt(25) == 0 ? random.nextInt(11) : least + random.nextInt(most - least + 1);
        int[] amps = new int[size];
        for (int i = 0; i < size; i++) {
            amps[i] = random.nextInt(60) == 0 ? 0 : 1 + random.nextInt(top);
        }
        feed(amps);
    }

    private int high() {
        return pickFrom(random.nextInt(5) == 0 ? 0 : 20, 25);
    }

    private void hall() {
        feedAmps(1, 4, random.nextBoolean() ? 40 : 255);
        int x = pickFrom(0, Math.min(99, land));
        int y = pickFrom(0, Math.min(99, land));
        int high = high();
        int wide = high();
        same("hall", real.hall(x, y, high, wide), plain.hall(x, y, high, wide));
    }

    private void show() {
        feedAmps(0, random.nextInt(4) == 0 ? 8 : 3, random.nextBoolean() ? 15 : 60);
        int from = pickFrom(0, 14 - span);
        int start = from >= 0 && from <= 13 ? from : 0;
        int to = pickFrom(start, Math.min(13, start + span - 1));
        int miles = pickFrom(1, Math.max(1, random.nextInt(3) == 0 ? land / 3 : land));
        int row = pickFrom(1, random.nextInt(3) == 0 ? 14 : 3);
        int high = random.nextInt(15) == 0 ? high() : random.nextInt(22);
        int wide = random.nextInt(15) == 0 ? high() : random.nextInt(22);
        same("show", real.show(high, wide, from, to, miles, row), plain.show(high, wide, from, to, miles, row));
    }

    private void rewire() {
        feedAmps(1, 4, 60);
        int h = pick(12);
        int high = high();
        int wide = high();
        same("rewire", real.rewire(h, high, wide), plain.rewire(h, high, wide));
    }

    private void give() {
        int h = pick(12);
        int s = pick(6);
        int points = pickFrom(0, random.nextBoolean() ? 2 : 10);
        same("give", real.give(h, s, points), plain.give(h, s, points));
    }

    private void plugged(int s, int h) {
        for (int l = -1; l < 9; l++) {
            same("plugged", real.plugged(s, h, l), plain.plugged(s, h, l));
        }
    }

    private void book(int s) {
        same("book", real.book(s), plain.book(s));
        tour(s);
    }

    private void tour(int s) {
        for (int night = -1; night < 15; night++) {
            same("on(" + s + ", " + night + ")", real.on(s, night), plain.on(s, night));
        }
        same("worth", real.worth(s), plain.worth(s));
    }

    private void snow(int h, int night) {
        int place = h;
        // Snow where a show is tells more than snow at an empty hall.
        if (random.nextInt(3) != 0 && plain.on(random.nextInt(6), night) != -1) {
            for (int s = 0; s < 6; s++) {
                place = plain.on(s, night) != -1 ? plain.on(s, night) : place;
            }
        }
        same("snow", real.snow(place, night), plain.snow(place, night));
        for (int s = 0; s < 6; s++) {
            tour(s);
        }
    }

    private void terms(int s) {
        feed(Check.bytesOf(text()));
        same("terms", real.terms(s), plain.terms(s));
    }

    private String text() {
        StringBuilder text = new StringBuilder();
        int terms = random.nextInt(6);
        int above = 0;
        for (int i = 0; i < terms && text.length() < 170; i++) {
            above += random.nextInt(12) == 0 ? 0 : 1 + random.nextInt(3000);
            switch (random.nextInt(5)) {
                case 0 -> join(text, "fee", number(99999), ";");
                case 1, 2 -> join(text, "share", number(100), "above", "" + above, ";");
                case 3 -> join(text, "subsidy", number(100), "most", number(2000), ";");
                default -> join(text, "loss", random.nextInt(3) == 0 ? "hall" : "both", ";");
            }
        }
        if (random.nextInt(2) == 0) {
            spoil(text);
        }
        return text.length() > 200 ? text.substring(0, 200) : text.toString();
    }

    private String number(int most) {
        int number = random.nextInt(30) == 0 ? 101 : random.nextInt(10) == 0 ? most : random.nextInt(most + 1);
        return random.nextInt(12) == 0 ? "0" + number : "" + number;
    }

    private void join(StringBuilder text, String... parts) {
        for (String part : parts) {
            boolean must = text.length() > 0 && Character.isLetterOrDigit(text.charAt(text.length() - 1))
                    && Character.isLetterOrDigit(part.charAt(0));
            if (must || random.nextInt(4) == 0) {
                text.append(random.nextInt(5) == 0 ? "\n" : random.nextInt(5) == 0 ? "  " : " ");
            }
            text.append(part);
        }
    }

    private void spoil(StringBuilder text) {
        String signs = "abfehlos;; \n\t019.,!A";
        int times = 1 + random.nextInt(2);
        for (int i = 0; i < times && text.length() > 0; i++) {
            int place = random.nextInt(text.length());
            char sign = random.nextInt(10) == 0 ? (char) random.nextInt(256)
                    : signs.charAt(random.nextInt(signs.length()));
            switch (random.nextInt(4)) {
                case 0 -> text.setCharAt(place, sign);
                case 1 -> text.insert(place, sign);
                case 2 -> text.deleteCharAt(place);
                default -> text.setLength(place);
            }
        }
    }

    private void doors(int s) {
        for (int night = -1; night < 15; night++) {
            int pence = random.nextInt(20) == 0 ? STRANGE[random.nextInt(STRANGE.length)]
                    : random.nextInt(20) == 0 ? 999999 + random.nextInt(3)
                    : random.nextInt(random.nextBoolean() ? 8000 : 100000);
            if (random.nextInt(3) != 0) {
                same("door", real.door(s, night, pence), plain.door(s, night, pence));
            }
        }
        parts(s, pick(14));
        sums();
    }

    private void parts(int s, int night) {
        for (int what = -1; what < 5; what++) {
            int part = what;
            same("shared(" + s + ", " + night + ", " + what + ")", orNoSuch(() -> real.shared(s, night, part)),
                    orNoSuch(() -> plain.shared(s, night, part)));
        }
    }

    private void sums() {
        for (int what = -1; what < 6; what++) {
            same("sum(" + what + ")", real.sum(what), plain.sum(what));
            same("count(" + what + ")", real.count(what), plain.count(what));
        }
        for (int h = -1; h < 13; h++) {
            int hall = h;
            same("keeps(" + h + ")", orNoSuch(() -> real.keeps(hall)), orNoSuch(() -> plain.keeps(hall)));
        }
    }

    private void tapeCalls() {
        for (int i = 0; i < 12; i++) {
            int a = random.nextInt();
            int n = random.nextInt(4) == 0 ? random.nextInt(260) - 20 : -1;
            same("feed", real.feed(a, a + 1, a ^ 5, ~a, a << 3), plain.feed(a, a + 1, a ^ 5, ~a, a << 3));
            same("end", real.end(n), plain.end(n));
        }
        if (random.nextBoolean()) {
            int s = pick(6);
            same("terms", real.terms(s), plain.terms(s));
        }
    }

    private static long orNoSuch(Check.Call call) {
        try {
            return call.answer();
        } catch (NoSuchElementException none) {
            return NO_SUCH;
        }
    }
}
