/** Promises 11 (book), 12 (on) and 14 (worth). */
public final class TourTest {
    public static void main(String[] args) {
        nothingAsked();
        firstOfLikeOnes();
        ways();
        rests();
        firstSixAsked();
        otherShows();
        bookedAgain();
        mostOfAll();
        onEdges();
        worthNow();
        noSuchShow();
        Check.close();
    }

    /** Halls in one place, with a show of these nights that all of them gave these points. */
    private static VanPlays scheme(int from, int to, int miles, int row, int... points) {
        VanPlays x = new VanPlays();
        for (int h = 0; h < points.length; h++) {
            Check.wideHall(x, 0, 0);
        }
        Check.smallShow(x, from, to, miles, row);
        for (int h = 0; h < points.length; h++) {
            x.give(h, 0, points[h]);
        }
        return x;
    }

    private static void nothingAsked() {
        VanPlays x = scheme(0, 13, 1, 14, 0, 0, 0);
        Check.due("no points", x.book(0), 0);
        Check.dueTour("no points", x, 0, "");
        Check.tape(x, 200, 200);
        x.show(0, 0, 0, 13, 1, 14);
        x.give(0, 1, 9);
        Check.due("gave points but its lamps are too many", x.book(1), 0);
        Check.dueTour("does not fit", x, 1, "");
        Check.due("nights on tours", x.count(2), 0);
    }

    private static void firstOfLikeOnes() {
        VanPlays x = scheme(3, 9, 1, 14, 1, 1, 1);
        Check.due("all three", x.book(0), 3);
        Check.dueTour("a hall ahead of none, the lesser ahead", x, 0, "...012");
        x = scheme(4, 5, 1, 14, 2, 3, 2, 3);
        Check.due("two of four", x.book(0), 6);
        Check.dueTour("the two with the most", x, 0, "....13");
        x = scheme(13, 13, 1, 14, 2, 3, 3);
        Check.due("a single night", x.book(0), 3);
        Check.dueTour("the lesser of like ones", x, 0, ".............1");
    }

    private static void ways() {
        VanPlays x = new VanPlays();
        Check.wideHall(x, 0, 0);
        Check.wideHall(x, 3, 4);
        Check.smallShow(x, 0, 5, 7, 14);
        Check.smallShow(x, 0, 5, 6, 14);
        Check.smallShow(x, 0, 5, 2, 14);
        Check.smallShow(x, 0, 3, 2, 14);
        Check.smallShow(x, 0, 2, 2, 14);
        for (int s = 0; s < 5; s++) {
            x.give(0, s, 1);
            x.give(1, s, 2);
        }
        Check.due("seven miles in a night", x.book(0), 3);
        Check.dueTour("seven miles in a night", x, 0, "01");
        x.give(0, 0, 0);
        x.give(1, 0, 0);
        x.book(0);
        Check.due("six miles a night", x.book(1), 3);
        Check.dueTour("six miles a night: a night between", x, 1, "0.1");
        x.give(0, 1, 0);
        x.give(1, 1, 0);
        x.book(1);
        Check.due("two miles a night", x.book(2), 3);
        Check.dueTour("two miles a night: four nights", x, 2, "0...1");
        x.give(0, 2, 0);
        x.give(1, 2, 0);
        x.book(2);
        Check.due("three nights are no four", x.book(3), 2);
        Check.dueTour("then the hall with the most", x, 3, "1");
    }

    private static void rests() {
        VanPlays x = scheme(0, 6, 1, 1, 1, 1, 1, 1);
        Check.due("one in a row", x.book(0), 4);
        Check.dueTour("one in a row", x, 0, "0.1.2.3");
        x = scheme(0, 6, 1, 3, 1, 1, 1, 1, 1, 1);
        Check.due("three in a row", x.book(0), 6);
        Check.dueTour("three in a row", x, 0, "012.345");
        x = scheme(0, 5, 1, 3, 1, 1, 1, 1, 1, 1);
        Check.due("three in a row, a night less", x.book(0), 5);
        Check.dueTour("three in a row, a night less", x, 0, "012.34");
        x = scheme(0, 13, 1, 6, 1, 1, 1, 1, 1, 1);
        Check.due("six in a row", x.book(0), 6);
        Check.dueTour("six in a row", x, 0, "012345");
        x = scheme(0, 13, 1, 5, 1, 1, 1, 1, 1, 1);
        Check.due("five in a row", x.book(0), 6);
        Check.dueTour("five in a row", x, 0, "01234.5");
    }

    private static void firstSixAsked() {
        VanPlays x = scheme(0, 13, 1, 14, 1, 0, 1, 1, 1, 1, 1, 10, 10);
        Check.due("six are asked, not those with the most", x.book(0), 6);
        Check.dueTour("six are asked", x, 0, "023456");
        Check.tape(x, 1);
        x.rewire(2, 99, 99);
        Check.tape(x, 5);
        x.show(0, 0, 0, 13, 1, 14);
        for (int h = 0; h < 9; h++) {
            x.give(h, 0, 0);
            x.give(h, 1, 1);
        }
        x.book(0);
        Check.due("six are asked of those that fit", x.book(1), 6);
        Check.dueTour("hall 2 has too few amps", x, 1, "013456");
    }

    private static void otherShows() {
        VanPlays x = scheme(0, 1, 1, 14, 1, 1);
        Check.smallShow(x, 0, 1, 1, 14);
        x.give(0, 1, 1);
        x.give(1, 1, 1);
        x.book(0);
        Check.due("the other way round", x.book(1), 2);
        Check.dueTour("the other way round", x, 1, "10");
        Check.smallShow(x, 0, 1, 1, 14);
        x.give(0, 2, 8);
        x.give(1, 2, 8);
        Check.due("no night is left", x.book(2), 0);
        Check.dueTour("no night is left", x, 2, "");
    }

    private static void bookedAgain() {
        VanPlays x = scheme(0, 1, 1, 14, 1, 1);
        x.book(0);
        x.door(0, 0, 100);
        x.door(0, 1, 100);
        Check.due("doors", x.sum(4), 2);
        Check.due("its own nights are free ahead of it", x.book(0), 2);
        Check.dueTour("the same again", x, 0, "01");
        Check.due("its doors are forgotten", x.sum(4), 0);
        Check.smallShow(x, 0, 1, 1, 14);
        x.give(0, 1, 1);
        x.book(1);
        x.door(0, 0, 100);
        x.door(1, 1, 100);
        x.book(0);
        Check.due("another show's doors stay", x.sum(4), 1);
        x.give(0, 0, 0);
        x.give(1, 0, 0);
        Check.due("nothing is asked now", x.book(0), 0);
        Check.dueTour("the tour ahead is gone", x, 0, "");
    }

    /** A greedy search takes hall 0 on night 0 and then comes nowhere. */
    private static void mostOfAll() {
        VanPlays x = new VanPlays();
        Check.wideHall(x, 0, 0);
        Check.wideHall(x, 50, 50);
        Check.wideHall(x, 51, 50);
        Check.wideHall(x, 52, 50);
        Check.smallShow(x, 0, 2, 1, 3);
        x.give(0, 0, 10);
        x.give(1, 0, 4);
        x.give(2, 0, 4);
        x.give(3, 0, 4);
        Check.due("three near ones", x.book(0), 12);
        Check.dueTour("three near ones", x, 0, "123");
        x.give(3, 0, 2);
        Check.due("a like sum", x.book(0), 10);
        Check.dueTour("of like ones the lesser hall on the first night", x, 0, "0");
    }

    private static void onEdges() {
        VanPlays x = scheme(0, 13, 1, 14, 1);
        x.book(0);
        Check.due("on", x.on(0, 0), 0);
        for (int bad : new int[] {-1, 14, Integer.MIN_VALUE, Integer.MAX_VALUE}) {
            Check.due("night " + bad, x.on(0, bad), -1);
        }
        for (int bad : new int[] {-1, 1, 6, Integer.MIN_VALUE, Integer.MAX_VALUE}) {
            Check.due("show " + bad, x.on(bad, 0), -1);
        }
    }

    private static void worthNow() {
        VanPlays x = scheme(0, 13, 1, 14, 1, 2);
        Check.due("before any booking", x.worth(0), 0);
        x.book(0);
        Check.due("as booked", x.worth(0), 3);
        x.give(0, 0, 8);
        Check.due("the points of now", x.worth(0), 10);
        x.give(0, 0, 0);
        x.give(1, 0, 0);
        Check.due("no points any more", x.worth(0), 0);
        Check.due("but still on", x.on(0, 0), 0);
    }

    private static void noSuchShow() {
        VanPlays x = scheme(0, 13, 1, 14, 1);
        for (int bad : new int[] {-1, 1, 6, Integer.MIN_VALUE, Integer.MAX_VALUE}) {
            Check.due("book " + bad, x.book(bad), -1);
            Check.due("worth " + bad, x.worth(bad), -1);
        }
    }
}
