/** Promise 13 (snow). */
public final class SnowTest {
    public static void main(String[] args) {
        movedToTheFirst();
        notOverATaken();
        notBeyondTheLast();
        waysAndRests();
        noLongerAsked();
        lostAltogether();
        doorForgotten();
        nightIsFreeAgain();
        nobodyThere();
        Check.close();
    }

    private static VanPlays scheme(int to, int miles, int row, int... places) {
        VanPlays x = new VanPlays();
        for (int east : places) {
            Check.wideHall(x, east, 0);
        }
        Check.smallShow(x, 0, to, miles, row);
        for (int h = 0; h < places.length; h++) {
            x.give(h, 0, 1);
        }
        x.book(0);
        return x;
    }

    private static void movedToTheFirst() {
        VanPlays x = scheme(5, 1, 14, 0, 0, 0);
        Check.dueTour("booked", x, 0, "012");
        Check.due("behind the tour", x.snow(1, 1), 3);
        Check.dueTour("behind the tour", x, 0, "0.21");
        Check.due("not ahead of the snow, but its nights behind", x.snow(2, 2), 4);
        Check.dueTour("again", x, 0, "0..12");
        Check.due("worth is as it was", x.worth(0), 3);
        Check.due("the last night", x.snow(1, 3), 5);
        Check.dueTour("the last night", x, 0, "0...21");
    }

    private static void notOverATaken() {
        VanPlays x = scheme(5, 1, 14, 0);
        Check.smallShow(x, 1, 2, 1, 14);
        Check.wideHall(x, 0, 0);
        x.give(0, 1, 1);
        Check.due("another show there on night 1", x.book(1), 1);
        Check.due("on night 2", x.snow(0, 0), 2);
        Check.dueTour("on night 2", x, 0, "..0");
        Check.dueTour("the other show stays", x, 1, ".0");
        Check.due("the other show is moved beyond", x.snow(0, 1), -2);
        Check.dueTour("for it night 2 is taken", x, 1, "");
        Check.dueTour("the show stays", x, 0, "..0");
    }

    private static void notBeyondTheLast() {
        VanPlays x = scheme(2, 1, 14, 0, 0);
        Check.due("the last night", x.snow(0, 0), 2);
        Check.due("none behind it", x.snow(0, 2), -2);
        Check.dueTour("goes on without that hall", x, 0, ".1");
        Check.due("nights on tours", x.count(2), 1);
        Check.due("worth", x.worth(0), 1);
    }

    private static void waysAndRests() {
        VanPlays x = scheme(8, 5, 14, 0, 5, 10);
        Check.dueTour("booked", x, 0, "012");
        Check.due("ten miles are two nights", x.snow(0, 0), 4);
        Check.dueTour("ten miles are two nights", x, 0, ".12.0");
        x = scheme(8, 5, 14, 0, 5, 10);
        Check.due("five miles are a night", x.snow(1, 1), 3);
        Check.dueTour("the others are near enough without it", x, 0, "0.21");
        x = scheme(6, 1, 2, 0, 0, 0, 0);
        Check.dueTour("two in a row", x, 0, "01.23");
        Check.due("two in a row are kept", x.snow(0, 0), 6);
        Check.dueTour("two in a row are kept", x, 0, ".1.23.0");
        x = scheme(6, 1, 3, 0, 0, 0, 0, 0);
        Check.dueTour("three in a row", x, 0, "012.34");
        Check.due("the free night may be filled", x.snow(0, 0), 6);
        Check.dueTour("but not so that six are in a row", x, 0, ".12.340");
        x = scheme(6, 1, 3, 0, 0, 0, 0, 0);
        Check.due("a gap that the law leaves", x.snow(2, 2), 3);
        Check.dueTour("a gap that the law leaves is taken", x, 0, "01.234");
    }

    private static void noLongerAsked() {
        VanPlays x = scheme(5, 1, 14, 0, 0);
        x.give(0, 0, 0);
        Check.tape(x, 1);
        x.rewire(0, 0, 0);
        Check.due("whether it is asked is not looked at", x.snow(0, 0), 2);
        Check.due("worth of now", x.worth(0), 1);
        x.give(1, 0, 0);
        Check.due("nor for the other halls", x.snow(0, 2), 3);
        Check.dueTour("moved", x, 0, ".1.0");
    }

    private static void lostAltogether() {
        VanPlays x = scheme(0, 1, 14, 0);
        Check.due("a single night", x.snow(0, 0), -2);
        Check.dueTour("nothing is left", x, 0, "");
        Check.due("worth", x.worth(0), 0);
        Check.due("nobody is there any more", x.snow(0, 0), -1);
    }

    private static void doorForgotten() {
        VanPlays x = scheme(5, 1, 14, 0, 0);
        x.door(0, 0, 70);
        x.door(0, 1, 80);
        x.snow(0, 0);
        Check.due("its door is forgotten", x.sum(4), 1);
        Check.dueThrow("none on the night of the snow", () -> x.shared(0, 0, 0));
        Check.dueThrow("none on the new night", () -> x.shared(0, 2, 0));
        Check.due("the other stays", x.shared(0, 1, 0), 80);
        Check.due("a door on the new night", x.door(0, 2, 90), true);
        Check.due("keeps", x.keeps(0), 90);
        x.snow(1, 1);
        Check.due("sum", x.sum(0), 90);
    }

    private static void nightIsFreeAgain() {
        VanPlays x = scheme(1, 1, 14, 0);
        Check.due("moved", x.snow(0, 0), 1);
        x.book(0);
        Check.dueTour("a new booking takes the night again", x, 0, "0");
    }

    private static void nobodyThere() {
        VanPlays x = scheme(5, 1, 14, 0, 0);
        Check.due("another night", x.snow(0, 1), -1);
        Check.due("a night behind", x.snow(0, 2), -1);
        for (int bad : new int[] {-1, 14, Integer.MIN_VALUE, Integer.MAX_VALUE}) {
            Check.due("night " + bad, x.snow(0, bad), -1);
        }
        for (int bad : new int[] {-1, 2, 12, Integer.MIN_VALUE, Integer.MAX_VALUE}) {
            Check.due("hall " + bad, x.snow(bad, 0), -1);
            Check.due("hall " + bad + " on a free night", x.snow(bad, 5), -1);
        }
        Check.dueTour("all stays", x, 0, "01");
    }
}
