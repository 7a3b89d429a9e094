import java.util.NoSuchElementException;

/**
 * "A call that throws changes nothing", "and all stays", "they stay", "and none come": each call that is refused or
 * only looks is made on one of two like objects, and then all that can be seen of both is the same.
 */
public final class RefusalTest {
    private static final Act NOTHING = x -> { };
    /** What a refused call that takes the tape does all the same. */
    private static final Act EMPTY_TAPE = x -> x.end(0);

    private interface Act {
        void on(VanPlays x);
    }

    public static void main(String[] args) {
        refusedTapeCalls();
        refusedHalls();
        refusedShows();
        refusedRewires();
        refusedGives();
        refusedBookings();
        refusedSnow();
        refusedTerms();
        refusedDoors();
        throwingCalls();
        lookingCalls();
        seenTellsApart();
        Check.close();
    }

    /** Two halls, two booked shows with doors and terms, a fault, and a text on the tape. */
    private static VanPlays scheme() {
        VanPlays x = new VanPlays();
        Check.hall(x, 0, 0, 40, 50, 10, 5);
        Check.hall(x, 3, 4, 30, 60, 9, 6);
        Check.tape(x, 5, 5, 4);
        x.show(30, 40, 0, 4, 7, 2);
        Check.smallShow(x, 1, 3, 4, 1);
        x.give(0, 0, 6);
        x.give(1, 0, 5);
        x.give(0, 1, 3);
        x.give(1, 1, 2);
        x.book(0);
        x.book(1);
        Check.terms(x, 0, "fee 900;share 50 above 10;subsidy 10 most 9;loss both;");
        Check.terms(x, 1, "fee 8;");
        Check.terms(x, 1, "share 101");
        x.door(0, 0, 500);
        x.door(1, 1, 70);
        Check.tape(x, Check.bytesOf("fee 7;share 4 above "));
        return x;
    }

    /** All that can be seen; the last calls use the tape and book anew, so it is the last look at an object. */
    private static String seen(VanPlays x) {
        StringBuilder seen = new StringBuilder();
        for (int what = 0; what < 4; what++) {
            seen.append(x.count(what)).append(' ');
        }
        seen.append("fault ").append(x.fault()).append(", ");
        for (int s = 0; s < 3; s++) {
            for (int h = 0; h < 3; h++) {
                seen.append(x.fits(s, h)).append(' ').append(x.lacks(s, h)).append(' ');
                seen.append(x.plugged(s, h, 0)).append(x.plugged(s, h, 2)).append(", ");
            }
        }
        addToursAndDoors(x, seen);
        x.feed(0x353b2020, 0x20202020, 0x20202020, 0x20202020, 0x20202020);
        seen.append("tape ").append(x.terms(0)).append(' ').append(x.fault()).append(", ");
        addToursAndDoors(x, seen);
        for (int s = 1; s >= 0; s--) {
            seen.append("book ").append(x.book(s)).append(' ').append(Check.tour(x, s)).append(", ");
        }
        return seen.toString();
    }

    private static void addToursAndDoors(VanPlays x, StringBuilder seen) {
        for (int s = 0; s < 2; s++) {
            seen.append(Check.tour(x, s)).append(" worth ").append(x.worth(s)).append(' ');
            for (int night = 0; night < 5; night++) {
                seen.append(sharedOf(x, s, night, 0)).append('/').append(sharedOf(x, s, night, 3)).append(' ');
            }
        }
        for (int what = 0; what < 5; what++) {
            seen.append(x.sum(what)).append(' ');
        }
        seen.append("keeps ").append(x.keeps(0)).append(' ').append(x.keeps(1)).append(", ");
    }

    private static String sharedOf(VanPlays x, int s, int night, int what) {
        try {
            return Integer.toString(x.shared(s, night, what));
        } catch (NoSuchElementException none) {
            return "-";
        }
    }

    /** Behind the call all is as if the other act had been in its place. */
    private static void same(String call, Act made, Act instead) {
        VanPlays one = scheme();
        VanPlays other = scheme();
        made.on(one);
        instead.on(other);
        Check.due("behind " + call, seen(one), seen(other));
    }

    private static void refusedTapeCalls() {
        for (int n : Check.outside(0, 20)) {
            same("end(" + n + ")", x -> Check.due("end", x.end(n), false), NOTHING);
        }
        Act fill = x -> {
            for (int i = 0; i < 9; i++) {
                x.feed(0x20202020, 0x20202020, 0x20202020, 0x20202020, 0x20202020);
            }
        };
        Act beyond = x -> {
            fill.on(x);
            Check.due("feed", x.feed(-1, -1, -1, -1, -1), -1);
        };
        same("feed beyond 200", beyond, fill);
    }

    private static void refusedHalls() {
        for (int bad : Check.outside(0, 99)) {
            same("hall with x " + bad, x -> hall(x, bad, 1, 1, 1), EMPTY_TAPE);
            same("hall with y " + bad, x -> hall(x, 1, bad, 1, 1), EMPTY_TAPE);
            same("hall with high " + bad, x -> hall(x, 1, 1, bad, 1), EMPTY_TAPE);
            same("hall with wide " + bad, x -> hall(x, 1, 1, 1, bad), EMPTY_TAPE);
        }
        same("hall of twenty circuits", x -> Check.due("hall", x.hall(1, 1, 1, 1), -1), EMPTY_TAPE);
        same("hall of none", x -> Check.due("hall", withoutTape(x).hall(1, 1, 1, 1), -1), EMPTY_TAPE);
        Act ten = x -> {
            x.end(0);
            for (int h = 2; h < 12; h++) {
                Check.wideHall(x, 0, 0);
            }
        };
        same("a thirteenth hall", x -> {
            ten.on(x);
            hall(x, 1, 1, 1, 1);
        }, ten);
    }

    private static void hall(VanPlays x, int east, int north, int high, int wide) {
        Check.due("hall", Check.hall(withoutTape(x), east, north, high, wide, 9), -1);
    }

    private static VanPlays withoutTape(VanPlays x) {
        x.end(0);
        return x;
    }

    private static void refusedShows() {
        same("show too high", x -> Check.due("show", withoutTape(x).show(100, 1, 0, 4, 9, 9), -1), EMPTY_TAPE);
        same("show too wide", x -> Check.due("show", withoutTape(x).show(1, 100, 0, 4, 9, 9), -1), EMPTY_TAPE);
        same("show from -1", x -> Check.due("show", withoutTape(x).show(1, 1, -1, 4, 9, 9), -1), EMPTY_TAPE);
        same("show to 14", x -> Check.due("show", withoutTape(x).show(1, 1, 0, 14, 9, 9), -1), EMPTY_TAPE);
        same("show from 3 to 2", x -> Check.due("show", withoutTape(x).show(1, 1, 3, 2, 9, 9), -1), EMPTY_TAPE);
        same("show of no miles", x -> Check.due("show", withoutTape(x).show(1, 1, 0, 4, 0, 9), -1), EMPTY_TAPE);
        same("show of no row", x -> Check.due("show", withoutTape(x).show(1, 1, 0, 4, 9, 0), -1), EMPTY_TAPE);
        same("show of twenty lamps", x -> Check.due("show", x.show(1, 1, 0, 4, 9, 9), -1), EMPTY_TAPE);
        Act four = x -> {
            x.end(0);
            for (int s = 2; s < 6; s++) {
                Check.smallShow(x, 0, 13, 1, 1);
            }
        };
        same("a seventh show", x -> {
            four.on(x);
            Check.due("show", x.show(1, 1, 0, 4, 9, 9), -1);
        }, four);
    }

    private static void refusedRewires() {
        for (int bad : Check.outside(0, 1)) {
            same("rewire hall " + bad, x -> rewire(x, bad, 1, 1, 9), EMPTY_TAPE);
        }
        for (int h = 0; h < 2; h++) {
            int hall = h;
            same("rewire too high", x -> rewire(x, hall, 100, 1, 9), EMPTY_TAPE);
            same("rewire below 0", x -> rewire(x, hall, -1, 1, 9), EMPTY_TAPE);
            same("rewire too wide", x -> rewire(x, hall, 1, 100, 9), EMPTY_TAPE);
            same("rewire narrower than 0", x -> rewire(x, hall, 1, -1, 9), EMPTY_TAPE);
            same("rewire without circuits", x -> rewire(x, hall, 1, 1), EMPTY_TAPE);
            same("rewire with five", x -> rewire(x, hall, 1, 1, 9, 9, 9, 9, 9), EMPTY_TAPE);
            same("rewire with a 0 behind", x -> rewire(x, hall, 1, 1, 9, 9, 0), EMPTY_TAPE);
            same("rewire with a 0 ahead", x -> rewire(x, hall, 1, 1, 0, 9), EMPTY_TAPE);
        }
    }

    private static void rewire(VanPlays x, int h, int high, int wide, int... amps) {
        Check.tape(withoutTape(x), amps);
        Check.due("rewire", x.rewire(h, high, wide), false);
    }

    private static void refusedGives() {
        for (int bad : new int[] {-1, 8, 10, 11, 256, Integer.MIN_VALUE, Integer.MAX_VALUE}) {
            same("give " + bad, x -> Check.due("give", x.give(0, 0, bad), false), NOTHING);
        }
        for (int bad : Check.outside(0, 1)) {
            same("give of hall " + bad, x -> Check.due("give", x.give(bad, 0, 1), false), NOTHING);
            same("give to show " + bad, x -> Check.due("give", x.give(0, bad, 1), false), NOTHING);
        }
    }

    private static void refusedBookings() {
        for (int bad : Check.outside(0, 1)) {
            same("book " + bad, x -> Check.due("book", x.book(bad), -1), NOTHING);
        }
    }

    private static void refusedSnow() {
        for (int bad : Check.outside(0, 1)) {
            same("snow at hall " + bad, x -> Check.due("snow", x.snow(bad, 0), -1), NOTHING);
        }
        for (int bad : Check.outside(0, 13)) {
            same("snow on night " + bad, x -> Check.due("snow", x.snow(0, bad), -1), NOTHING);
        }
        same("snow where nobody is", x -> Check.due("snow", x.snow(1, 0), -1), NOTHING);
    }

    private static void refusedTerms() {
        // Of the same kind as the fault that is there, so that fault() tells nothing new.
        String other = "fee 1;share 9 above 9;subsidy 9 most 7;loss hall;share 9 above 9;";
        for (int s = 0; s < 2; s++) {
            int show = s;
            same("terms with a fault",
                    x -> Check.due("terms", Check.terms(withoutTape(x), show, other), -64), EMPTY_TAPE);
        }
        for (int bad : Check.outside(0, 1)) {
            same("terms of show " + bad, x -> Check.due("terms", x.terms(bad), -300), EMPTY_TAPE);
        }
    }

    private static void refusedDoors() {
        for (int bad : Check.outside(0, 1000000)) {
            same("door of " + bad, x -> Check.due("door", x.door(0, 0, bad), false), NOTHING);
        }
        for (int bad : Check.outside(0, 13)) {
            same("door on night " + bad, x -> Check.due("door", x.door(0, bad, 5), false), NOTHING);
        }
        for (int bad : Check.outside(0, 1)) {
            same("door of show " + bad, x -> Check.due("door", x.door(bad, 0, 5), false), NOTHING);
        }
        same("door where it is not booked", x -> Check.due("door", x.door(0, 2, 5), false), NOTHING);
    }

    private static void throwingCalls() {
        for (int bad : Check.outside(0, 3)) {
            same("shared of " + bad, x -> Check.dueThrow("shared", () -> x.shared(0, 0, bad)), NOTHING);
        }
        same("shared without a door", x -> Check.dueThrow("shared", () -> x.shared(0, 1, 0)), NOTHING);
        same("shared of no night", x -> Check.dueThrow("shared", () -> x.shared(0, 14, 0)), NOTHING);
        same("shared of no show", x -> Check.dueThrow("shared", () -> x.shared(2, 0, 0)), NOTHING);
        for (int bad : Check.outside(0, 1)) {
            same("keeps of " + bad, x -> Check.dueThrow("keeps", () -> x.keeps(bad)), NOTHING);
        }
    }

    private static void lookingCalls() {
        same("looking", x -> {
            for (int i = -1; i < 5; i++) {
                x.fits(i, 1);
                x.lacks(1, i);
                x.plugged(0, 0, i);
                x.plugged(i, i, 0);
                x.on(0, i);
                x.worth(i);
                x.sum(i);
                x.count(i);
                x.fault();
                sharedOf(x, 0, 0, i);
            }
        }, NOTHING);
    }

    /** Calls that are not refused can be seen: else the comparisons above would tell nothing. */
    private static void seenTellsApart() {
        Act[] acts = {x -> x.end(19), x -> x.feed(0, 0, 0, 0, 0), x -> x.give(0, 0, 5), x -> x.give(1, 1, 3),
            x -> x.snow(0, 0), x -> x.door(0, 1, 0), x -> x.door(0, 0, 501),
            x -> Check.terms(withoutTape(x), 1, "fee 9;"),
            x -> Check.terms(withoutTape(x), 0, "fee 899;share 50 above 10;subsidy 10 most 9;loss both;"),
            x -> Check.wideHall(withoutTape(x), 0, 0), x -> Check.smallShow(x, 0, 0, 1, 1), x -> x.book(0)};
        for (int i = 0; i < acts.length; i++) {
            VanPlays changed = scheme();
            acts[i].on(changed);
            Check.due("act " + i + " can be seen", seen(changed).equals(seen(scheme())), false);
        }
    }
}
