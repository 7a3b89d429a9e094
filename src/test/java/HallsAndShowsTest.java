/** Promises 4 (hall), 5 (show), 6 (rewire) and 7 (give). */
public final class HallsAndShowsTest {
    public static void main(String[] args) {
        hallEdges();
        hallTape();
        showEdges();
        showTape();
        rewires();
        gives();
        Check.close();
    }

    private static void hallEdges() {
        VanPlays x = new VanPlays();
        Check.due("hall at the least", Check.hall(x, 0, 0, 0, 0, 1), 0);
        Check.due("hall at the most", Check.hall(x, 99, 99, 99, 99, 255, 255, 255, 255), 1);
        int[] outside = {-1, 100, Integer.MIN_VALUE, Integer.MAX_VALUE};
        for (int bad : outside) {
            Check.due("x " + bad, Check.hall(x, bad, 0, 0, 0, 1), -1);
            Check.due("y " + bad, Check.hall(x, 0, bad, 0, 0, 1), -1);
            Check.due("high " + bad, Check.hall(x, 0, 0, bad, 0, 1), -1);
            Check.due("wide " + bad, Check.hall(x, 0, 0, 0, bad, 1), -1);
        }
        Check.due("no circuits", Check.hall(x, 0, 0, 0, 0), -1);
        Check.due("five circuits", Check.hall(x, 0, 0, 0, 0, 1, 1, 1, 1, 1), -1);
        Check.due("a circuit of 0", Check.hall(x, 0, 0, 0, 0, 1, 1, 0), -1);
        Check.due("count after refusals", x.count(0), 2);
        for (int h = 2; h < 12; h++) {
            Check.due("hall " + h, Check.hall(x, h, h, h, h, h), h);
        }
        Check.due("the thirteenth hall", Check.hall(x, 0, 0, 0, 0, 1), -1);
        Check.due("count of all halls", x.count(0), 12);
    }

    private static void hallTape() {
        VanPlays x = new VanPlays();
        Check.hall(x, 0, 0, 0, 0, 1);
        Check.due("tape behind a hall", x.count(3), 0);
        Check.hall(x, 100, 0, 0, 0, 1);
        Check.due("tape behind a refused hall", x.count(3), 0);
        for (int h = 1; h < 13; h++) {
            Check.hall(x, 0, 0, 0, 0, 1);
        }
        Check.due("tape behind the thirteenth hall", x.count(3), 0);
    }

    private static void showEdges() {
        VanPlays x = new VanPlays();
        x.end(0);
        Check.due("show at the least", x.show(0, 0, 0, 0, 1, 1), 0);
        Check.tape(x, 255, 255, 255, 255, 255, 255, 255, 255);
        Check.due("show at the most", x.show(99, 99, 13, 13, 200, 14), 1);
        int[] outside = {-1, 100, Integer.MIN_VALUE, Integer.MAX_VALUE};
        for (int bad : outside) {
            Check.due("high " + bad, x.show(bad, 0, 0, 0, 1, 1), -1);
            Check.due("wide " + bad, x.show(0, bad, 0, 0, 1, 1), -1);
        }
        int[] noNights = {-1, 14, Integer.MIN_VALUE, Integer.MAX_VALUE};
        for (int bad : noNights) {
            Check.due("from " + bad, x.show(0, 0, bad, 13, 1, 1), -1);
            Check.due("to " + bad, x.show(0, 0, 0, bad, 1, 1), -1);
        }
        Check.due("from behind to", x.show(0, 0, 5, 4, 1, 1), -1);
        int[] noMiles = {-1, 0, 201, Integer.MIN_VALUE, Integer.MAX_VALUE};
        for (int bad : noMiles) {
            Check.due("miles " + bad, x.show(0, 0, 0, 0, bad, 1), -1);
        }
        int[] noRow = {-1, 0, 15, Integer.MIN_VALUE, Integer.MAX_VALUE};
        for (int bad : noRow) {
            Check.due("row " + bad, x.show(0, 0, 0, 0, 1, bad), -1);
        }
        Check.due("nine lamps", Check.show(x, 0, 0, 1, 1, 1, 1, 1, 1, 1, 1, 1), -1);
        Check.due("a lamp of 0", Check.show(x, 0, 0, 1, 0), -1);
        Check.due("count after refusals", x.count(1), 2);
        for (int s = 2; s < 6; s++) {
            Check.due("show " + s, Check.show(x, 0, 0, 1), s);
        }
        Check.due("the seventh show", Check.show(x, 0, 0, 1), -1);
        Check.due("count of all shows", x.count(1), 6);
    }

    private static void showTape() {
        VanPlays x = new VanPlays();
        Check.show(x, 0, 0, 1);
        Check.due("tape behind a show", x.count(3), 0);
        Check.show(x, 100, 0, 1);
        Check.due("tape behind a refused show", x.count(3), 0);
    }

    private static void rewires() {
        VanPlays x = new VanPlays();
        Check.hall(x, 5, 5, 10, 10, 4);
        Check.show(x, 10, 10, 4, 4);
        Check.due("before", x.fits(0, 0), -2);
        Check.due("two circuits", rewire(x, 0, 10, 10, 4, 4), true);
        Check.due("they are there", x.fits(0, 0), 1);
        Check.due("tape behind it", x.count(3), 0);
        Check.due("no bytes", rewire(x, 0, 10, 10), false);
        Check.due("five bytes", rewire(x, 0, 10, 10, 1, 1, 1, 1, 1), false);
        Check.due("a byte 0", rewire(x, 0, 10, 10, 4, 0), false);
        Check.due("tape behind a refusal", x.count(3), 0);
        int[] outside = {-1, 100, Integer.MIN_VALUE, Integer.MAX_VALUE};
        for (int bad : outside) {
            Check.due("high " + bad, rewire(x, 0, bad, 10, 1), false);
            Check.due("wide " + bad, rewire(x, 0, 10, bad, 1), false);
        }
        for (int bad : new int[] {-1, 1, 12, Integer.MIN_VALUE, Integer.MAX_VALUE}) {
            Check.due("hall " + bad, rewire(x, bad, 10, 10, 1), false);
        }
        Check.due("tape behind no such hall", x.count(3), 0);
        Check.due("all stays", x.fits(0, 0), 1);
        x.give(0, 0, 3);
        Check.due("booked", x.book(0), 3);
        Check.due("lower", rewire(x, 0, 9, 10, 4, 4), true);
        Check.due("too low now", x.fits(0, 0), 0);
        Check.dueTour("tours stay", x, 0, "0");
        Check.due("edges", rewire(x, 0, 99, 0, 255, 255, 255, 255), true);
        Check.due("too narrow now", x.fits(0, 0), -1);
    }

    private static boolean rewire(VanPlays x, int h, int high, int wide, int... amps) {
        Check.tape(x, amps);
        return x.rewire(h, high, wide);
    }

    private static void gives() {
        VanPlays x = new VanPlays();
        Check.wideHall(x, 0, 0);
        Check.wideHall(x, 0, 0);
        for (int s = 0; s < 3; s++) {
            Check.smallShow(x, 0, 13, 1, 1);
        }
        Check.due("all ten", x.give(0, 0, 10), true);
        Check.due("one more to another", x.give(0, 1, 1), false);
        Check.due("none to another", x.give(0, 1, 0), true);
        Check.due("another hall has its own", x.give(1, 1, 10), true);
        Check.due("in the place of what it gave", x.give(0, 0, 4), true);
        Check.due("three to another", x.give(0, 1, 3), true);
        Check.due("four to a third", x.give(0, 2, 4), false);
        Check.due("three to a third", x.give(0, 2, 3), true);
        Check.due("five in the place of four", x.give(0, 0, 5), false);
        Check.due("the same again", x.give(0, 0, 4), true);
        for (int bad : new int[] {-1, 11, Integer.MIN_VALUE, Integer.MAX_VALUE}) {
            Check.due("points " + bad, x.give(0, 0, bad), false);
        }
        for (int bad : new int[] {-1, 2, 12, Integer.MIN_VALUE, Integer.MAX_VALUE}) {
            Check.due("hall " + bad, x.give(bad, 0, 0), false);
        }
        for (int bad : new int[] {-1, 3, 6, Integer.MIN_VALUE, Integer.MAX_VALUE}) {
            Check.due("show " + bad, x.give(0, bad, 0), false);
        }
        Check.due("what stood stands", x.book(0), 4);
        Check.due("what stood stands", x.book(2), 3);
    }
}
