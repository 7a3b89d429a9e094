import java.util.Arrays;

/** Promises 4 (hall), 5 (show), 6 (rewire) and 7 (give). */
public final class HallsAndShowsTest {
    public static void main(String[] args) {
        hallPlace();
        hallSize();
        hallCircuits();
        hallAmps();
        hallsAreTwelve();
        hallTape();
        showSize();
        showLamps();
        showAmps();
        showNights();
        showMiles();
        showRow();
        showsAreSix();
        showTape();
        rewires();
        rewireKeepsTours();
        rewireNoSuchHall();
        rewireNotAsTold();
        rewireTape();
        gives();
        giveInThePlace();
        giveAboveTen();
        giveBelowNone();
        giveNoSuchOnes();
        Check.close();
    }

    /** "a place x, y (0 to 99 miles each)". */
    private static void hallPlace() {
        VanPlays x = new VanPlays();
        Check.due("the least place", Check.hall(x, 0, 0, 5, 5, 1), 0);
        Check.due("the greatest place", Check.hall(x, 99, 99, 5, 5, 1), 1);
        Check.due("the greatest x", Check.hall(x, 99, 0, 5, 5, 1), 2);
        Check.due("the greatest y", Check.hall(x, 0, 99, 5, 5, 1), 3);
        for (int bad : Check.outside(0, 99)) {
            Check.due("x " + bad, Check.hall(x, bad, 5, 5, 5, 1), -1);
            Check.due("y " + bad, Check.hall(x, 5, bad, 5, 5, 1), -1);
        }
        Check.due("the refused are no halls", x.count(0), 4);
    }

    /** "HIGH, WIDE (0 to 99)" of a HALL. */
    private static void hallSize() {
        VanPlays x = new VanPlays();
        Check.due("the least size", Check.hall(x, 5, 5, 0, 0, 1), 0);
        Check.due("the greatest size", Check.hall(x, 5, 5, 99, 99, 1), 1);
        Check.due("the greatest height", Check.hall(x, 5, 5, 99, 0, 1), 2);
        Check.due("the greatest width", Check.hall(x, 5, 5, 0, 99, 1), 3);
        for (int bad : Check.outside(0, 99)) {
            Check.due("high " + bad, Check.hall(x, 5, 5, bad, 5, 1), -1);
            Check.due("wide " + bad, Check.hall(x, 5, 5, 5, bad, 1), -1);
        }
        Check.due("the refused are no halls", x.count(0), 4);
    }

    /** "CIRCUITS (1 to 4)". */
    private static void hallCircuits() {
        VanPlays x = new VanPlays();
        Check.due("no circuits", Check.hall(x, 0, 0, 0, 0), -1);
        for (int size = 1; size <= 4; size++) {
            Check.due(size + " circuits", Check.hall(x, 0, 0, 0, 0, ones(size)), size - 1);
        }
        for (int size : new int[] {5, 6, 8, 9, 20, 199, 200}) {
            Check.due(size + " circuits", Check.hall(x, 0, 0, 0, 0, ones(size)), -1);
        }
        Check.due("the refused are no halls", x.count(0), 4);
    }

    /** "each of so many AMPS (1 to 255)": a 0 is refused wherever it is. */
    private static void hallAmps() {
        VanPlays x = new VanPlays();
        Check.due("the least amps", Check.hall(x, 0, 0, 0, 0, 1, 1, 1, 1), 0);
        Check.due("the most amps", Check.hall(x, 0, 0, 0, 0, 255, 255, 255, 255), 1);
        Check.due("a circuit of 0 alone", Check.hall(x, 0, 0, 0, 0, 0), -1);
        for (int place = 0; place < 4; place++) {
            int[] amps = ones(4);
            amps[place] = 0;
            Check.due("circuit " + place + " of 0", Check.hall(x, 0, 0, 0, 0, amps), -1);
        }
        Check.due("the refused are no halls", x.count(0), 2);
        Check.show(x, 0, 0, 1, 1, 1, 1);
        Check.due("four of 1 take four lamps of 1", x.fits(0, 0), 1);
        Check.show(x, 0, 0, 255, 255, 255, 255);
        Check.due("four of 255 take four lamps of 255", x.fits(1, 1), 1);
    }

    /** "NONE: there are 12". */
    private static void hallsAreTwelve() {
        VanPlays x = new VanPlays();
        for (int h = 0; h < 12; h++) {
            Check.due("hall " + h, Check.hall(x, h, h, h, h, h + 1), h);
        }
        Check.due("the thirteenth hall", Check.hall(x, 0, 0, 0, 0, 1), -1);
        Check.due("and once more", Check.hall(x, 0, 0, 0, 0, 1), -1);
        Check.due("count of all halls", x.count(0), 12);
        Check.show(x, 11, 11, 12);
        Check.due("the last hall is as it was told", x.fits(0, 11), 1);
        Check.due("the one ahead of it is lower", x.fits(0, 10), 0);
    }

    /** "the tape's bytes (empty then, here and below)" for a HALL that is made and for each that is refused. */
    private static void hallTape() {
        VanPlays x = new VanPlays();
        Check.hall(x, 0, 0, 0, 0, 1);
        Check.due("tape behind a hall", x.count(3), 0);
        Check.hall(x, 100, 0, 0, 0, 1);
        Check.due("tape behind a wrong place", x.count(3), 0);
        Check.hall(x, 0, 0, 0, -1, 1);
        Check.due("tape behind a wrong size", x.count(3), 0);
        Check.hall(x, 0, 0, 0, 0, 1, 1, 1, 1, 1);
        Check.due("tape behind too many circuits", x.count(3), 0);
        Check.hall(x, 0, 0, 0, 0, 1, 0);
        Check.due("tape behind a circuit of 0", x.count(3), 0);
        Check.due("the next has no circuits", x.hall(0, 0, 0, 0), -1);
        for (int h = 1; h < 13; h++) {
            Check.hall(x, 0, 0, 0, 0, 1);
        }
        Check.due("tape behind the thirteenth hall", x.count(3), 0);
    }

    /** "SHOWS 0 .. 5: HIGH, WIDE" as a HALL's. */
    private static void showSize() {
        VanPlays x = new VanPlays();
        Check.due("the least size", x.show(0, 0, 0, 13, 1, 1), 0);
        Check.due("the greatest size", x.show(99, 99, 0, 13, 1, 1), 1);
        for (int bad : Check.outside(0, 99)) {
            Check.due("high " + bad, x.show(bad, 5, 0, 13, 1, 1), -1);
            Check.due("wide " + bad, x.show(5, bad, 0, 13, 1, 1), -1);
        }
        Check.due("the refused are no shows", x.count(1), 2);
        Check.hall(x, 0, 0, 99, 98, 1);
        Check.due("as high as 99, not as wide", x.fits(1, 0), -1);
    }

    /** "LAMPS (0 to 8)". */
    private static void showLamps() {
        VanPlays x = new VanPlays();
        int number = 0;
        for (int size : new int[] {0, 1, 4, 5, 8}) {
            Check.due(size + " lamps", Check.show(x, 0, 0, ones(size)), number);
            number++;
        }
        for (int size : new int[] {9, 10, 20, 199, 200}) {
            Check.due(size + " lamps", Check.show(x, 0, 0, ones(size)), -1);
        }
        Check.due("the refused are no shows", x.count(1), 5);
        Check.hall(x, 0, 0, 0, 0, 255);
        Check.due("the eighth lamp", x.plugged(4, 0, 7), 0);
    }

    /** "each of AMPS (1 to 255)": a LAMP of 0 is refused wherever it is. */
    private static void showAmps() {
        VanPlays x = new VanPlays();
        Check.due("the least amps", Check.show(x, 0, 0, ones(8)), 0);
        Check.due("the most amps", Check.show(x, 0, 0, 255, 255, 255, 255, 255, 255, 255, 255), 1);
        for (int place = 0; place < 8; place++) {
            int[] amps = ones(8);
            amps[place] = 0;
            Check.due("lamp " + place + " of 0", Check.show(x, 0, 0, amps), -1);
        }
        Check.due("a lamp of 0 alone", Check.show(x, 0, 0, 0), -1);
        Check.due("the refused are no shows", x.count(1), 2);
        Check.hall(x, 0, 0, 0, 0, 1);
        Check.due("eight of 1", x.lacks(0, 0), 7);
        Check.due("eight of 255", x.lacks(1, 0), 8 * 255 - 1);
    }

    /** "NIGHTS from .. to (0 to 13)". */
    private static void showNights() {
        VanPlays x = new VanPlays();
        Check.due("the first night alone", x.show(0, 0, 0, 0, 1, 1), 0);
        Check.due("the last night alone", x.show(0, 0, 13, 13, 1, 1), 1);
        Check.due("all nights", x.show(0, 0, 0, 13, 1, 1), 2);
        for (int bad : Check.outside(0, 13)) {
            Check.due("from " + bad, x.show(0, 0, bad, 13, 1, 1), -1);
            Check.due("to " + bad, x.show(0, 0, 0, bad, 1, 1), -1);
            Check.due("from and to " + bad, x.show(0, 0, bad, bad, 1, 1), -1);
        }
        Check.due("from a night behind to", x.show(0, 0, 5, 4, 1, 1), -1);
        Check.due("from the last to the first", x.show(0, 0, 13, 0, 1, 1), -1);
        Check.due("the refused are no shows", x.count(1), 3);
    }

    /** "MILES a night (1 to 200)". */
    private static void showMiles() {
        VanPlays x = new VanPlays();
        Check.due("the least miles", x.show(0, 0, 0, 13, 1, 1), 0);
        Check.due("the most miles", x.show(0, 0, 0, 13, 200, 1), 1);
        for (int bad : Check.outside(1, 200)) {
            Check.due("miles " + bad, x.show(0, 0, 0, 13, bad, 1), -1);
        }
        Check.due("the refused are no shows", x.count(1), 2);
    }

    /** "IN A ROW (1 to 14)". */
    private static void showRow() {
        VanPlays x = new VanPlays();
        Check.due("the least in a row", x.show(0, 0, 0, 13, 1, 1), 0);
        Check.due("the most in a row", x.show(0, 0, 0, 13, 1, 14), 1);
        Check.due("more in a row than nights", x.show(0, 0, 3, 3, 1, 14), 2);
        for (int bad : Check.outside(1, 14)) {
            Check.due("row " + bad, x.show(0, 0, 0, 13, 1, bad), -1);
        }
        Check.due("the refused are no shows", x.count(1), 3);
    }

    /** "its number; NONE likewise (6)". */
    private static void showsAreSix() {
        VanPlays x = new VanPlays();
        for (int s = 0; s < 6; s++) {
            Check.due("show " + s, Check.show(x, s, 0, s + 1), s);
        }
        Check.due("the seventh show", Check.show(x, 0, 0, 1), -1);
        Check.due("and once more", Check.show(x, 0, 0), -1);
        Check.due("count of all shows", x.count(1), 6);
        Check.hall(x, 0, 0, 5, 5, 1);
        Check.due("the last show is as it was told", x.lacks(5, 0), 5);
    }

    /** "(empty then, here and below)" for a SHOW that is made and for each that is refused. */
    private static void showTape() {
        VanPlays x = new VanPlays();
        Check.show(x, 0, 0, 1);
        Check.due("tape behind a show", x.count(3), 0);
        Check.show(x, 100, 0, 1);
        Check.due("tape behind a wrong size", x.count(3), 0);
        Check.tape(x, 1);
        x.show(0, 0, 5, 4, 1, 1);
        Check.due("tape behind wrong nights", x.count(3), 0);
        Check.tape(x, 1);
        x.show(0, 0, 0, 0, 0, 1);
        Check.due("tape behind wrong miles", x.count(3), 0);
        Check.tape(x, 1);
        x.show(0, 0, 0, 0, 1, 0);
        Check.due("tape behind a wrong row", x.count(3), 0);
        Check.show(x, 0, 0, ones(9));
        Check.due("tape behind too many lamps", x.count(3), 0);
        Check.show(x, 0, 0, 0);
        Check.due("tape behind a lamp of 0", x.count(3), 0);
        for (int s = 1; s < 7; s++) {
            Check.show(x, 0, 0, 1);
        }
        Check.due("tape behind the seventh show", x.count(3), 0);
    }

    private static VanPlays wired() {
        VanPlays x = new VanPlays();
        Check.hall(x, 5, 5, 10, 10, 4, 4);
        Check.hall(x, 5, 5, 10, 10, 3);
        Check.show(x, 10, 10, 4, 4);
        return x;
    }

    private static boolean rewire(VanPlays x, int h, int high, int wide, int... amps) {
        Check.tape(x, amps);
        return x.rewire(h, high, wide);
    }

    /** "CIRCUITS of HALL h are the tape's bytes now, HIGH and WIDE as told". */
    private static void rewires() {
        VanPlays x = wired();
        Check.due("before", x.fits(0, 1), -2);
        Check.due("two circuits", rewire(x, 1, 10, 10, 4, 4), true);
        Check.due("they are there", x.fits(0, 1), 1);
        Check.due("fewer circuits", rewire(x, 1, 10, 10, 7), true);
        Check.due("the others are gone", x.fits(0, 1), -2);
        Check.due("and lack", x.lacks(0, 1), 1);
        Check.due("lower", rewire(x, 1, 9, 10, 8), true);
        Check.due("too low now", x.fits(0, 1), 0);
        Check.due("narrower", rewire(x, 1, 10, 9, 8), true);
        Check.due("too narrow now", x.fits(0, 1), -1);
        Check.due("the least", rewire(x, 1, 0, 0, 1), true);
        Check.due("the most", rewire(x, 1, 99, 99, 255, 255, 255, 255), true);
        Check.due("it fits again", x.fits(0, 1), 1);
        Check.due("the other hall is as it was", x.fits(0, 0), 1);
    }

    /** "(TOURS stay)". */
    private static void rewireKeepsTours() {
        VanPlays x = wired();
        x.give(0, 0, 3);
        Check.due("booked", x.book(0), 3);
        x.door(0, 0, 50);
        Check.due("too low", rewire(x, 0, 0, 0, 1), true);
        Check.due("it does not fit now", x.fits(0, 0), 0);
        Check.dueTour("tours stay", x, 0, "0");
        Check.due("worth stays", x.worth(0), 3);
        Check.due("doors stay", x.keeps(0), 50);
    }

    /** "false, and all stays: no such one". */
    private static void rewireNoSuchHall() {
        VanPlays x = wired();
        for (int bad : Check.outside(0, 1)) {
            Check.due("hall " + bad, rewire(x, bad, 99, 99, 255), false);
        }
        Check.due("the twelfth, of two", rewire(x, 11, 99, 99, 255), false);
        Check.due("hall 0 stays", x.fits(0, 0), 1);
        Check.due("hall 1 stays", x.lacks(0, 1), 5);
        VanPlays all = Check.fullScheme();
        Check.due("the twelfth of twelve", rewire(all, 11, 0, 0, 1), true);
        Check.due("the thirteenth", rewire(all, 12, 0, 0, 1), false);
    }

    /** "or they are not as told". */
    private static void rewireNotAsTold() {
        VanPlays x = wired();
        Check.due("no bytes", rewire(x, 0, 10, 10), false);
        Check.due("five bytes", rewire(x, 0, 10, 10, 1, 1, 1, 1, 1), false);
        for (int place = 0; place < 4; place++) {
            int[] amps = ones(4);
            amps[place] = 0;
            Check.due("circuit " + place + " of 0", rewire(x, 0, 10, 10, amps), false);
        }
        for (int bad : Check.outside(0, 99)) {
            Check.due("high " + bad, rewire(x, 0, bad, 9, 1), false);
            Check.due("wide " + bad, rewire(x, 0, 9, bad, 1), false);
        }
        Check.due("height, width and circuits stay", x.fits(0, 0), 1);
        Check.due("the second circuit stays", x.plugged(0, 0, 1), 1);
    }

    /** "(empty then, here and below)" for rewire, taken or refused. */
    private static void rewireTape() {
        VanPlays x = wired();
        rewire(x, 0, 10, 10, 4);
        Check.due("tape behind it", x.count(3), 0);
        rewire(x, 0, 10, 10, 4, 0);
        Check.due("tape behind a circuit of 0", x.count(3), 0);
        rewire(x, 0, 100, 10, 4);
        Check.due("tape behind a wrong size", x.count(3), 0);
        rewire(x, 2, 10, 10, 4);
        Check.due("tape behind no such hall", x.count(3), 0);
    }

    private static VanPlays giving() {
        VanPlays x = new VanPlays();
        Check.wideHall(x, 0, 0);
        Check.wideHall(x, 0, 0);
        for (int s = 0; s < 3; s++) {
            Check.smallShow(x, 0, 13, 1, 1);
        }
        return x;
    }

    /** "HALL h gives POINTS to SHOW s": 0 to 10, "each HALL has 10 to give". */
    private static void gives() {
        VanPlays x = giving();
        Check.due("all ten", x.give(0, 0, 10), true);
        Check.due("none to another", x.give(0, 1, 0), true);
        Check.due("another hall has its own", x.give(1, 1, 10), true);
        Check.due("ten of hall 0", x.book(0), 10);
        Check.due("ten of hall 1", x.book(1), 10);
        VanPlays all = Check.fullScheme();
        Check.due("the last hall to the last show", all.give(11, 5, 5), true);
        Check.due("not one more", all.give(11, 5, 6), false);
    }

    /** "(in the place of what it gave)". */
    private static void giveInThePlace() {
        VanPlays x = giving();
        x.give(0, 0, 10);
        Check.due("ten again", x.give(0, 0, 10), true);
        Check.due("less", x.give(0, 0, 4), true);
        Check.due("four", x.book(0), 4);
        Check.due("what is left to another", x.give(0, 1, 6), true);
        Check.due("none", x.give(0, 0, 0), true);
        Check.due("not asked any more", x.book(0), 0);
        Check.due("all to the other", x.give(0, 1, 10), true);
    }

    /** "or above 10 with all that it gave to others": to each of the others, ahead and behind. */
    private static void giveAboveTen() {
        VanPlays x = giving();
        for (int bad : new int[] {11, 12, 256, 266, 65536, Integer.MAX_VALUE, Integer.MAX_VALUE - 10}) {
            Check.due("points " + bad, x.give(0, 0, bad), false);
        }
        x.give(0, 0, 4);
        x.give(0, 2, 3);
        Check.due("four to the one between", x.give(0, 1, 4), false);
        Check.due("three to the one between", x.give(0, 1, 3), true);
        Check.due("five in the place of four", x.give(0, 0, 5), false);
        Check.due("four in the place of three", x.give(0, 2, 4), false);
        for (int bad : new int[] {Integer.MAX_VALUE, Integer.MAX_VALUE - 6, 256}) {
            Check.due("points " + bad + " with those of others", x.give(0, 0, bad), false);
        }
        Check.due("what it gave stays", x.book(0), 4);
        Check.due("what it gave stays", x.book(1), 3);
        Check.due("what it gave stays", x.book(2), 3);
        x.give(0, 1, 0);
        Check.due("seven in the place of four", x.give(0, 0, 7), true);
    }

    /** "below 0". */
    private static void giveBelowNone() {
        VanPlays x = giving();
        x.give(0, 0, 4);
        x.give(0, 1, 6);
        for (int bad : new int[] {-1, -4, -10, -252, -256, Integer.MIN_VALUE, Integer.MIN_VALUE + 4}) {
            Check.due("points " + bad, x.give(0, 0, bad), false);
        }
        Check.due("what it gave stays", x.book(0), 4);
    }

    /** "false: no such ones". */
    private static void giveNoSuchOnes() {
        VanPlays x = giving();
        for (int bad : Check.outside(0, 1)) {
            Check.due("hall " + bad, x.give(bad, 0, 1), false);
        }
        Check.due("the twelfth, of two", x.give(11, 0, 1), false);
        for (int bad : Check.outside(0, 2)) {
            Check.due("show " + bad, x.give(0, bad, 1), false);
        }
        Check.due("the sixth, of three", x.give(0, 5, 1), false);
        Check.due("neither", x.give(2, 3, 0), false);
        Check.smallShow(x, 0, 13, 1, 1);
        Check.due("a refused give leaves nothing for a later show", x.book(3), 0);
        Check.due("all ten are there to give", x.give(0, 3, 10), true);
        VanPlays all = Check.fullScheme();
        Check.due("the thirteenth hall", all.give(12, 0, 0), false);
        Check.due("the seventh show", all.give(0, 6, 0), false);
    }

    private static int[] ones(int size) {
        int[] ones = new int[size];
        Arrays.fill(ones, 1);
        return ones;
    }
}
