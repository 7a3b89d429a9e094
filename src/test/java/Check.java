import java.nio.charset.StandardCharsets;
import java.util.Arrays;
import java.util.NoSuchElementException;

/** What the tests have in common: counting wrong answers, and putting bytes on a tape. */
final class Check {
    private static int wrong = 0;

    private Check() {
    }

    interface Call {
        int answer();
    }

    static void due(String call, long got, long want) {
        if (got != want) {
            wrong++;
            System.out.println(call + " answered " + got + ", due is " + want);
        }
    }

    static void due(String call, boolean got, boolean want) {
        due(call, got ? 1 : 0, want ? 1 : 0);
    }

    static void due(String call, String got, String want) {
        if (!got.equals(want)) {
            wrong++;
            System.out.println(call + ": seen is\n  " + got + "\ndue is\n  " + want);
        }
    }

    static void dueThrow(String call, Call made) {
        try {
            int got = made.answer();
            wrong++;
            System.out.println(call + " answered " + got + ", due is a NoSuchElementException");
        } catch (NoSuchElementException due) {
            return;
        }
    }

    static void close() {
        System.out.println(wrong == 0 ? "all answers are as due" : wrong + " answers are not as due");
        if (wrong != 0) {
            System.exit(1);
        }
    }

    /** Numbers just outside of least .. most and far from it, with some that a narrower number would wrap into it. */
    static int[] outside(int least, int most) {
        int[] numbers = {least - 1, most + 1, Integer.MIN_VALUE, Integer.MAX_VALUE, Integer.MIN_VALUE + least,
            least - 256, most + 256, least + 256, least - 65536, least + 65536};
        return Arrays.stream(numbers).filter(n -> n < least || n > most).distinct().toArray();
    }

    /** The tape, empty before, has these bytes. */
    static void tape(VanPlays x, int... bytes) {
        for (int start = 0; start < bytes.length; start += 20) {
            x.feed(number(bytes, start), number(bytes, start + 4), number(bytes, start + 8),
                    number(bytes, start + 12), number(bytes, start + 16));
        }
        x.end(bytes.length);
    }

    static int number(int[] bytes, int start) {
        int number = 0;
        for (int i = start; i < start + 4; i++) {
            number = number << 8 | (i < bytes.length ? bytes[i] & 255 : 0);
        }
        return number;
    }

    static int[] bytesOf(String text) {
        byte[] raw = text.getBytes(StandardCharsets.ISO_8859_1);
        int[] bytes = new int[raw.length];
        for (int i = 0; i < raw.length; i++) {
            bytes[i] = raw[i] & 255;
        }
        return bytes;
    }

    static int hall(VanPlays x, int east, int north, int high, int wide, int... amps) {
        tape(x, amps);
        return x.hall(east, north, high, wide);
    }

    /** A hall that every show without lamps fits. */
    static int wideHall(VanPlays x, int east, int north) {
        return hall(x, east, north, 99, 99, 255);
    }

    static int show(VanPlays x, int high, int wide, int... lamps) {
        tape(x, lamps);
        return x.show(high, wide, 0, 13, 200, 14);
    }

    /** A show without lamps that fits every hall. */
    static int smallShow(VanPlays x, int from, int to, int miles, int row) {
        x.end(0);
        return x.show(0, 0, from, to, miles, row);
    }

    /** Twelve halls and six shows of all nights, each hall with a point for each show, none booked yet. */
    static VanPlays fullScheme() {
        VanPlays x = new VanPlays();
        for (int h = 0; h < 12; h++) {
            wideHall(x, h, 0);
        }
        for (int s = 0; s < 6; s++) {
            smallShow(x, 0, 13, 200, 14);
            for (int h = 0; h < 12; h++) {
                x.give(h, s, 1);
            }
        }
        return x;
    }

    static int terms(VanPlays x, int s, String text) {
        tape(x, bytesOf(text));
        return x.terms(s);
    }

    /** The halls of a tour, night by night, a dot for none. */
    static String tour(VanPlays x, int s) {
        StringBuilder nights = new StringBuilder();
        for (int night = 0; night < 14; night++) {
            int h = x.on(s, night);
            nights.append(h == VanPlays.NONE ? "." : Integer.toString(h, 16));
        }
        return nights.toString();
    }

    static void dueTour(String when, VanPlays x, int s, String want) {
        StringBuilder padded = new StringBuilder(want);
        while (padded.length() < 14) {
            padded.append('.');
        }
        String got = tour(x, s);
        if (!got.equals(padded.toString())) {
            wrong++;
            System.out.println(when + ": the tour is " + got + ", due is " + padded);
        }
    }
}
