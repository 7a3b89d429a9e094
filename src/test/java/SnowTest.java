/** Promise 13 (snow). */
public final class SnowTest {
    public static void main(String[] args) {
        movedToTheFirst();
        neverAhead();
        notOnItsOwnNights();
        notWhereAnotherShowIs();
        notBeyondItsNights();
        lastNightOfAll();
        waysFromTheOneAhead();
        waysToTheOneBehind();
        waysOfManyNights();
        rests();
        restsJustKept();
        noLongerAsked();
        goesOnWithout();
        lostAltogether();
        doorForgotten();
        doorOfALostOneForgotten();
        nightIsFreeAgain();
        nobodyThere();
        noSuchHall();
        noSuchNight();
        allThereCanBe();
        Check.close();
    }

    private static VanPlays scheme(int to, int miles, int row, int... places) {
        VanPlays x = new VanPlays();
        for (int east : places) {
            Check.wideHall(x, east, 0);
        }
        Check.smallShow(x, 0, to, miles, row);
        for (int h = 0; h < places.length; h++) {
            x.give(h, 0, 1);
        }
        x.book(0);
        return x;
    }

    private static void dueSnow(String what, VanPlays x, int h, int night, int moved, String tour) {
        Check.due(what, x.snow(h, night), moved);
        Check.dueTour(what, x, 0, tour);
    }

    /** "comes to that HALL on the first of its NIGHTS behind it". */
    private static void movedToTheFirst() {
        VanPlays x = scheme(5, 1, 14, 0, 0, 0);
        Check.dueTour("booked", x, 0, "012");
        dueSnow("behind the tour", x, 1, 1, 3, "0.21");
        dueSnow("again", x, 2, 2, 4, "0..12");
        dueSnow("the last night", x, 1, 3, 5, "0...21");
        Check.due("worth is as it was", x.worth(0), 3);
        Check.due("nights are as many as they were", x.count(2), 3);
        dueSnow("the very next night", scheme(5, 1, 14, 0), 0, 0, 1, ".0");
    }

    /** "behind it": a free NIGHT ahead of it is none. */
    private static void neverAhead() {
        VanPlays x = scheme(2, 1, 14, 0, 0);
        dueSnow("to the last", x, 0, 0, 2, ".10");
        dueSnow("night 0 is free, but ahead", x, 0, 2, -2, ".1");
    }

    /** "A TOUR of a SHOW: some of its NIGHTS, each with a HALL": one HALL a NIGHT. */
    private static void notOnItsOwnNights() {
        dueSnow("over five nights of its own", scheme(13, 1, 14, 0, 0, 0, 0, 0, 0), 0, 0, 6, ".123450");
    }

    /** "no other SHOW is BOOKED there on that NIGHT". */
    private static void notWhereAnotherShowIs() {
        VanPlays x = scheme(5, 1, 14, 0);
        Check.smallShow(x, 1, 2, 1, 14);
        Check.wideHall(x, 0, 0);
        x.give(0, 1, 1);
        Check.due("another show there on night 1", x.book(1), 1);
        dueSnow("on night 2", x, 0, 0, 2, "..0");
        Check.dueTour("the other show stays", x, 1, ".0");
        Check.due("the other show has no night behind", x.snow(0, 1), -2);
        Check.dueTour("for it night 2 is taken", x, 1, "");
        Check.dueTour("the show stays", x, 0, "..0");
    }

    /** "its NIGHTS": none behind its last one. */
    private static void notBeyondItsNights() {
        VanPlays x = scheme(2, 1, 14, 0, 0);
        dueSnow("its last night", x, 0, 0, 2, ".10");
        dueSnow("none behind it", x, 0, 2, -2, ".1");
        dueSnow("nor behind the last but one that is taken", scheme(1, 1, 14, 0, 0), 0, 0, -2, ".1");
    }

    /** "NIGHTS from .. to (0 to 13)": behind 13 there is none, on 13 there is. */
    private static void lastNightOfAll() {
        VanPlays x = new VanPlays();
        Check.wideHall(x, 0, 0);
        Check.smallShow(x, 12, 13, 1, 14);
        x.give(0, 0, 1);
        x.book(0);
        dueSnow("to the last night of all", x, 0, 12, 13, ".............0");
        dueSnow("snow on it", x, 0, 13, -2, "");
    }

    /**
     * "with which its TOUR, the lost one left out, is LAWFUL": the way from the HALL ahead of it, just long enough
     * and a mile too long.
     */
    private static void waysFromTheOneAhead() {
        VanPlays x = scheme(8, 5, 14, 0, 5, 10);
        Check.dueTour("booked", x, 0, "012");
        dueSnow("ten miles are two nights", x, 0, 0, 4, ".12.0");
        dueSnow("five miles are a night", scheme(8, 5, 14, 0, 5, 10), 1, 1, 3, "0.21");
        x = scheme(8, 5, 14, 0, 4, 9);
        dueSnow("nine miles are two nights", x, 0, 0, 4, ".12.0");
        x = scheme(8, 5, 14, 0, 1, 5);
        dueSnow("five miles are one", x, 0, 0, 3, ".120");
        x = scheme(8, 5, 14, 0, 1, 6);
        dueSnow("six miles are two", x, 0, 0, 4, ".12.0");
    }

    /** The same of the way to the HALL behind it. */
    private static void waysToTheOneBehind() {
        VanPlays x = scheme(8, 5, 14, 10, 5, 15);
        Check.dueTour("booked", x, 0, "01.2");
        dueSnow("five miles to both", x, 0, 0, 2, ".102");
        x = scheme(8, 5, 14, 9, 5, 15);
        Check.dueTour("booked", x, 0, "01.2");
        dueSnow("six miles to the one behind", x, 0, 0, 5, ".1.2.0");
    }

    /** The same over as many NIGHTS as there are. */
    private static void waysOfManyNights() {
        VanPlays x = scheme(13, 8, 14, 0, 8);
        dueSnow("the next night", x, 0, 0, 2, ".10");
        x = scheme(13, 8, 14, 0, 88);
        Check.dueTour("booked", x, 0, "0..........1");
        dueSnow("no eleven nights are left behind 88 miles", x, 0, 0, -2, "...........1");
        x = new VanPlays();
        Check.wideHall(x, 0, 0);
        Check.wideHall(x, 96, 0);
        Check.smallShow(x, 0, 13, 8, 14);
        x.give(1, 0, 1);
        x.book(0);
        x.give(0, 0, 1);
        Check.dueTour("booked", x, 0, "1");
        x.book(0);
        Check.dueTour("twelve nights behind", x, 0, "0...........1");
        dueSnow("a night later", x, 1, 12, 13, "0............1");
        dueSnow("none behind", x, 1, 13, -2, "0");
    }

    /** The same of NIGHTS without a free one between. */
    private static void rests() {
        VanPlays x = scheme(6, 1, 2, 0, 0, 0, 0);
        Check.dueTour("two in a row", x, 0, "01.23");
        dueSnow("two in a row are kept", x, 0, 0, 6, ".1.23.0");
        x = scheme(6, 1, 3, 0, 0, 0, 0, 0);
        Check.dueTour("three in a row", x, 0, "012.34");
        dueSnow("not so that five are in a row", x, 0, 0, 6, ".12.340");
        x = scheme(4, 1, 1, 0, 0);
        Check.dueTour("one in a row", x, 0, "0.1");
        dueSnow("neither ahead nor behind another", x, 0, 0, 4, "..1.0");
        x = scheme(3, 1, 1, 0, 0);
        dueSnow("no night that is kept", x, 0, 0, -2, "..1");
    }

    /** The same with just as many as may be. */
    private static void restsJustKept() {
        VanPlays x = scheme(6, 1, 3, 0, 0, 0, 0, 0);
        dueSnow("a gap that the law leaves", x, 2, 2, 3, "01.234");
        x = scheme(6, 1, 5, 0, 0, 0, 0, 0);
        dueSnow("five in a row again", x, 0, 0, 5, ".12340");
        x = scheme(6, 1, 4, 0, 0, 0, 0, 0);
        Check.dueTour("four in a row", x, 0, "0123.4");
        dueSnow("a gap between three and one is one too many", x, 0, 0, 6, ".123.40");
        x = scheme(4, 1, 1, 0, 0);
        dueSnow("one in a row from the first night on", x, 1, 2, 3, "0..1");
        x = scheme(4, 1, 2, 0, 0, 0);
        dueSnow("two in a row from the first night on", x, 2, 3, 4, "01..2");
    }

    /** "(whether its HALLS are ASKED now is not looked at)". */
    private static void noLongerAsked() {
        VanPlays x = scheme(5, 1, 14, 0, 0);
        x.give(0, 0, 0);
        Check.tape(x, 1);
        x.rewire(0, 0, 0);
        dueSnow("it gave no points", x, 0, 0, 2, ".10");
        Check.due("worth of now", x.worth(0), 1);
        x.give(1, 0, 0);
        dueSnow("nor did the other hall", x, 0, 2, 3, ".1.0");
        x = new VanPlays();
        Check.hall(x, 0, 0, 9, 9, 5);
        Check.show(x, 9, 9, 5);
        x.give(0, 0, 1);
        x.book(0);
        Check.tape(x, 4);
        x.rewire(0, 9, 9);
        dueSnow("it does not fit", x, 0, 0, 1, ".0");
    }

    /** "else its TOUR goes on without that HALL"; "-2 it is lost". */
    private static void goesOnWithout() {
        VanPlays x = scheme(2, 1, 14, 0, 0, 0);
        dueSnow("the first", x, 0, 0, -2, ".12");
        Check.due("worth", x.worth(0), 2);
        Check.due("nights on tours", x.count(2), 2);
        Check.due("it is not on any night", x.snow(0, 0), -1);
    }

    /** The same of the only HALL of a TOUR. */
    private static void lostAltogether() {
        VanPlays x = scheme(0, 1, 14, 0);
        dueSnow("a single night", x, 0, 0, -2, "");
        Check.due("worth", x.worth(0), 0);
        Check.due("nights on tours", x.count(2), 0);
        Check.due("nobody is there any more", x.snow(0, 0), -1);
        Check.due("it can be booked again", x.book(0), 1);
    }

    /** "(A DOOR of it is forgotten.)": that one alone, and it is not told for the new NIGHT. */
    private static void doorForgotten() {
        VanPlays x = scheme(5, 1, 14, 0, 0);
        x.door(0, 0, 70);
        x.door(0, 1, 80);
        x.snow(0, 0);
        Check.due("its door is forgotten", x.sum(4), 1);
        Check.dueThrow("none on the night of the snow", () -> x.shared(0, 0, 0));
        Check.dueThrow("none on the new night", () -> x.shared(0, 2, 0));
        Check.due("the other stays", x.shared(0, 1, 0), 80);
        Check.due("keeps nothing", x.keeps(0), 0);
        Check.due("no door on the night of the snow", x.door(0, 0, 90), false);
        Check.due("a door on the new night", x.door(0, 2, 90), true);
        Check.due("keeps", x.keeps(0), 90);
        x.snow(1, 1);
        Check.due("sum", x.sum(0), 90);
    }

    /** The same where the NIGHT is lost; a DOOR of another SHOW on that NIGHT stays. */
    private static void doorOfALostOneForgotten() {
        VanPlays x = scheme(0, 1, 14, 0);
        Check.wideHall(x, 0, 0);
        Check.smallShow(x, 0, 0, 1, 14);
        x.give(1, 1, 1);
        x.book(1);
        x.door(0, 0, 70);
        x.door(1, 0, 80);
        Check.due("lost", x.snow(0, 0), -2);
        Check.due("its door is forgotten", x.sum(0), 80);
        Check.dueThrow("no door", () -> x.shared(0, 0, 0));
        Check.due("the other show's stays", x.shared(1, 0, 0), 80);
    }

    /** SNOW is of a NIGHT once: a later booking may have it. */
    private static void nightIsFreeAgain() {
        VanPlays x = scheme(1, 1, 14, 0);
        Check.due("moved", x.snow(0, 0), 1);
        x.book(0);
        Check.dueTour("a new booking takes the night again", x, 0, "0");
    }

    /** "NONE: no such ones, or nobody is there". */
    private static void nobodyThere() {
        VanPlays x = scheme(5, 1, 14, 0, 0);
        Check.due("another night", x.snow(0, 1), -1);
        Check.due("a night behind", x.snow(0, 2), -1);
        Check.due("the last night", x.snow(0, 13), -1);
        Check.dueTour("all stays", x, 0, "01");
        Check.wideHall(x, 0, 0);
        Check.due("a hall without any", x.snow(2, 0), -1);
    }

    /** "NONE: no such ones" of HALLS, on NIGHTS with a TOUR and without. */
    private static void noSuchHall() {
        VanPlays x = scheme(5, 1, 14, 0, 0);
        for (int bad : Check.outside(0, 1)) {
            Check.due("hall " + bad, x.snow(bad, 0), -1);
            Check.due("hall " + bad + " on a free night", x.snow(bad, 5), -1);
        }
        Check.due("the twelfth of two", x.snow(11, 0), -1);
        Check.dueTour("all stays", x, 0, "01");
    }

    /** "NONE: no such ones" of NIGHTS. */
    private static void noSuchNight() {
        VanPlays x = scheme(5, 1, 14, 0, 0);
        for (int bad : Check.outside(0, 13)) {
            Check.due("night " + bad, x.snow(0, bad), -1);
        }
        Check.dueTour("all stays", x, 0, "01");
    }

    /** With all HALLS and SHOWS: the SHOW that is moved is the one there, over NIGHTS of the others. */
    private static void allThereCanBe() {
        VanPlays x = Check.fullScheme();
        for (int h = 0; h < 11; h++) {
            for (int s = 0; s < 6; s++) {
                x.give(h, s, 0);
            }
        }
        for (int s = 0; s < 6; s++) {
            Check.due("book " + s, x.book(s), 1);
            Check.due("on " + s, x.on(s, s), 11);
        }
        Check.due("over five others", x.snow(11, 0), 6);
        Check.due("the first show", x.on(0, 6), 11);
        Check.due("the last show, over the first", x.snow(11, 5), 7);
        Check.due("the last show", x.on(5, 7), 11);
        Check.due("nobody is there now", x.snow(11, 5), -1);
        Check.due("a thirteenth hall", x.snow(12, 1), -1);
        Check.due("nights on tours", x.count(2), 6);
    }
}
