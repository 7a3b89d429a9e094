/** Promises 11 (book), 12 (on) and 14 (worth). */
public final class TourTest {
    public static void main(String[] args) {
        nothingAsked();
        askedGavePoints();
        askedAreSix();
        aSeventhHasNoPart();
        askedFit();
        onceEach();
        noOtherShowThere();
        noNightIsLeft();
        whatCannotBeHadBringsNothing();
        waysJustLongEnough();
        waysOfManyNights();
        waysBackToALesserHall();
        restsOfEachLength();
        restsWithANightTooFew();
        itsNightsAlone();
        greatestWorth();
        hallAheadOfNone();
        lesserHallAhead();
        freeAheadOfIt();
        otherToursStay();
        doorsForgotten();
        bookNoSuchShow();
        onEdges();
        onNoSuchOnes();
        worthBeforeAnyBooking();
        worthOfPointsNow();
        worthNoSuchShow();
        allThereCanBe();
        Check.close();
    }

    /** Halls in one place, with a show of these nights that all of them gave these points. */
    private static VanPlays scheme(int from, int to, int miles, int row, int... points) {
        VanPlays x = new VanPlays();
        for (int h = 0; h < points.length; h++) {
            Check.wideHall(x, 0, 0);
        }
        Check.smallShow(x, from, to, miles, row);
        for (int h = 0; h < points.length; h++) {
            x.give(h, 0, points[h]);
        }
        return x;
    }

    private static void dueBook(String what, VanPlays x, int s, int worth, String tour) {
        Check.due(what, x.book(s), worth);
        Check.dueTour(what, x, s, tour);
        Check.due(what + ": worth", x.worth(s), worth);
    }

    /** ASKED may be none: then the TOUR is empty. */
    private static void nothingAsked() {
        VanPlays x = new VanPlays();
        Check.smallShow(x, 0, 13, 1, 14);
        dueBook("no halls", x, 0, 0, "");
        x = scheme(0, 13, 1, 14, 0, 0, 0);
        dueBook("no points", x, 0, 0, "");
        Check.show(x, 0, 0, 200, 200);
        x.give(0, 1, 9);
        dueBook("gave points but its lamps are too many", x, 1, 0, "");
        Check.due("nights on tours", x.count(2), 0);
    }

    /** "and that gave it POINTS": 1 is some, 0 is none. */
    private static void askedGavePoints() {
        VanPlays x = scheme(0, 13, 1, 14, 0, 1, 0, 10);
        dueBook("those that gave", x, 0, 11, "13");
        Check.smallShow(x, 0, 13, 1, 14);
        x.give(0, 1, 5);
        dueBook("points are for one show", x, 1, 5, "0");
    }

    /** "ASKED are the first six HALLS, by number". */
    private static void askedAreSix() {
        dueBook("five", scheme(0, 13, 1, 14, 1, 1, 1, 1, 1), 0, 5, "01234");
        dueBook("six", scheme(0, 13, 1, 14, 1, 1, 1, 1, 1, 1), 0, 6, "012345");
        dueBook("a seventh is not asked", scheme(0, 13, 1, 14, 1, 1, 1, 1, 1, 1, 10), 0, 6, "012345");
        dueBook("six of twelve", scheme(0, 13, 1, 14, 1, 0, 1, 1, 1, 1, 1, 10, 10, 0, 10, 10), 0, 6, "023456");
        dueBook("the last six of twelve", scheme(0, 13, 1, 14, 0, 0, 0, 0, 0, 0, 2, 2, 2, 2, 2, 2), 0, 12, "6789ab");
    }

    /** The same: on which NIGHTS a seventh is taken makes no NIGHT of the six another. */
    private static void aSeventhHasNoPart() {
        VanPlays x = scheme(0, 13, 1, 14, 1, 1, 1, 1, 1, 1, 1);
        for (int s = 1; s < 6; s++) {
            Check.smallShow(x, s, s, 1, 1);
            x.give(6, s, 1);
            x.book(s);
        }
        dueBook("a seventh that is taken on the nights of the six", x, 0, 6, "012345");
    }

    /** "that it FITS": one that it does not fit does not count among the six. */
    private static void askedFit() {
        VanPlays x = new VanPlays();
        Check.hall(x, 0, 0, 9, 10, 5);
        Check.hall(x, 0, 0, 10, 9, 5);
        Check.hall(x, 0, 0, 10, 10, 4);
        for (int h = 3; h < 10; h++) {
            Check.hall(x, 0, 0, 10, 10, 5);
        }
        Check.show(x, 10, 10, 5);
        for (int h = 0; h < 10; h++) {
            x.give(h, 0, h < 3 ? 10 : 1);
        }
        dueBook("too low, too narrow, too few amps", x, 0, 6, "345678");
        Check.tape(x, 5);
        x.rewire(0, 10, 10);
        dueBook("the first fits now", x, 0, 15, "034567");
    }

    /** "and is on it once". */
    private static void onceEach() {
        dueBook("one hall, fourteen nights", scheme(0, 13, 200, 14, 10), 0, 10, "0");
        dueBook("two halls, fourteen nights", scheme(0, 13, 200, 14, 1, 10), 0, 11, "01");
    }

    /** "no other SHOW is BOOKED there on that NIGHT". */
    private static void noOtherShowThere() {
        VanPlays x = scheme(0, 1, 1, 14, 1, 1);
        Check.smallShow(x, 0, 1, 1, 14);
        x.give(0, 1, 1);
        x.give(1, 1, 1);
        dueBook("the first show", x, 0, 2, "01");
        dueBook("the other way round", x, 1, 2, "10");
        x = scheme(0, 0, 1, 14, 1);
        Check.smallShow(x, 0, 13, 1, 14);
        x.give(0, 1, 1);
        x.book(0);
        dueBook("a night later", x, 1, 1, ".0");
        Check.wideHall(x, 0, 0);
        Check.smallShow(x, 0, 13, 1, 14);
        x.give(0, 2, 1);
        x.give(1, 2, 1);
        dueBook("behind two other shows", x, 2, 2, "1.0");
    }

    /** The same, where other SHOWS are there on all its NIGHTS. */
    private static void noNightIsLeft() {
        VanPlays x = scheme(0, 1, 1, 14, 1, 1);
        Check.smallShow(x, 0, 1, 1, 14);
        x.give(0, 1, 1);
        x.give(1, 1, 1);
        Check.smallShow(x, 0, 1, 1, 14);
        x.give(0, 2, 8);
        x.give(1, 2, 8);
        x.book(0);
        x.book(1);
        dueBook("no night is left", x, 2, 0, "");
        x.give(0, 0, 0);
        x.book(0);
        dueBook("a night is left", x, 2, 8, "0");
    }

    /** The same, of a HALL near one of two like ones: it makes neither of them the BEST. */
    private static void whatCannotBeHadBringsNothing() {
        VanPlays x = new VanPlays();
        Check.wideHall(x, 0, 0);
        Check.wideHall(x, 50, 0);
        Check.wideHall(x, 51, 0);
        for (int night = 0; night < 3; night++) {
            Check.smallShow(x, night, night, 1, 1);
            x.give(2, night, 1);
            x.book(night);
        }
        Check.smallShow(x, 0, 2, 1, 14);
        x.give(0, 3, 5);
        x.give(1, 3, 5);
        x.give(2, 3, 1);
        dueBook("taken on all nights", x, 3, 5, "0");
        x.give(2, 2, 0);
        x.book(2);
        dueBook("to be had on the last night", x, 3, 6, "1.2");
    }

    /** A hall in the corner and one so many miles from it; the show can have both if the way is not too long. */
    private static VanPlays twoHalls(int apart, int nights, int miles) {
        VanPlays x = new VanPlays();
        int east = Math.min(99, apart / 2 + apart % 2);
        Check.wideHall(x, 0, 0);
        Check.wideHall(x, east, apart - east);
        Check.smallShow(x, 0, nights, miles, 14);
        x.give(0, 0, 1);
        x.give(1, 0, 2);
        return x;
    }

    /** "no more miles apart (x and y, both differences together) than MILES" of one NIGHT. */
    private static void waysJustLongEnough() {
        for (int miles : new int[] {1, 2, 7, 100, 197, 198}) {
            dueBook(miles + " miles", twoHalls(miles, 1, miles), 0, 3, "01");
        }
        for (int miles : new int[] {1, 2, 7, 100, 197}) {
            dueBook(miles + " miles and one", twoHalls(miles + 1, 1, miles), 0, 2, "1");
            dueBook(miles + " miles and one, a night between", twoHalls(miles + 1, 2, miles), 0, 3, "0.1");
        }
        dueBook("200 miles are enough for all", twoHalls(198, 1, 200), 0, 3, "01");
        dueBook("no miles at all", twoHalls(0, 1, 1), 0, 3, "01");
        VanPlays x = new VanPlays();
        Check.wideHall(x, 4, 0);
        Check.wideHall(x, 0, 3);
        Check.smallShow(x, 0, 5, 7, 14);
        x.give(0, 0, 1);
        x.give(1, 0, 1);
        dueBook("one difference back, one on", x, 0, 2, "01");
        Check.wideHall(x, 0, 8);
        x.give(2, 0, 1);
        dueBook("the third from the second", x, 0, 3, "012");
    }

    /** "times how many NIGHTS the one is behind the other one", up to thirteen. */
    private static void waysOfManyNights() {
        for (int nights = 1; nights <= 13; nights++) {
            StringBuilder tour = new StringBuilder("0");
            while (tour.length() < nights) {
                tour.append('.');
            }
            tour.append('1');
            dueBook(nights + " nights", twoHalls(15 * nights, nights, 15), 0, 3, tour.toString());
            dueBook(nights + " nights and a mile", twoHalls(15 * nights + 1, nights, 15), 0, 2, "1");
        }
        dueBook("the longest way", twoHalls(198, 13, 16), 0, 3, "0............1");
    }

    /** The way is as long from a greater HALL to a lesser one. */
    private static void waysBackToALesserHall() {
        for (int nights : new int[] {2, 3}) {
            VanPlays x = new VanPlays();
            Check.wideHall(x, 0, 0);
            Check.wideHall(x, 25, 0);
            Check.wideHall(x, 10, 0);
            Check.smallShow(x, 0, nights, 10, 14);
            for (int h = 0; h < 3; h++) {
                x.give(h, 0, 1);
            }
            dueBook("fifteen miles back", x, 0, nights, nights == 2 ? "02" : "02.1");
        }
    }

    /** "no more NIGHTS on it without a free one between than IN A ROW tells". */
    private static void restsOfEachLength() {
        String[] due = {"0.1.2.3.4.5", "01.23.45", "012.345", "0123.45", "01234.5", "012345", "012345"};
        for (int row = 1; row <= 7; row++) {
            dueBook(row + " in a row", scheme(0, 13, 1, row, 1, 1, 1, 1, 1, 1), 0, 6, due[row - 1]);
        }
        dueBook("fourteen in a row", scheme(0, 13, 1, 14, 1, 1, 1, 1, 1, 1), 0, 6, "012345");
    }

    /** The same with just as many NIGHTS as all six need, and with one less. */
    private static void restsWithANightTooFew() {
        String[] due = {"0.1.2.3.4", "01.23.4", "012.34", "0123.4", "01234", "01234"};
        int[] needed = {11, 8, 7, 7, 7, 6};
        for (int row = 1; row <= 6; row++) {
            int nights = needed[row - 1];
            Check.due(row + " in a row, " + nights + " nights",
                    scheme(0, nights - 1, 1, row, 1, 1, 1, 1, 1, 1).book(0), 6);
            dueBook(row + " in a row, a night less",
                    scheme(0, nights - 2, 1, row, 1, 1, 1, 1, 1, 1), 0, 5, due[row - 1]);
        }
    }

    /** "some of its NIGHTS": none ahead of from, none behind to. */
    private static void itsNightsAlone() {
        dueBook("the first night alone", scheme(0, 0, 1, 14, 1, 1), 0, 1, "0");
        dueBook("the last night alone", scheme(13, 13, 1, 14, 1, 1), 0, 1, ".............0");
        dueBook("two nights", scheme(12, 13, 1, 14, 1, 1, 1), 0, 2, "............01");
        dueBook("nights between", scheme(3, 9, 1, 14, 1, 1, 1), 0, 3, "...012");
    }

    /** "BEST: the greatest WORTH": a greedy search takes hall 0 on night 0 and then comes nowhere. */
    private static void greatestWorth() {
        VanPlays x = new VanPlays();
        Check.wideHall(x, 0, 0);
        Check.wideHall(x, 50, 50);
        Check.wideHall(x, 51, 50);
        Check.wideHall(x, 52, 50);
        Check.smallShow(x, 0, 2, 1, 3);
        x.give(0, 0, 10);
        x.give(1, 0, 4);
        x.give(2, 0, 4);
        x.give(3, 0, 4);
        dueBook("three near ones", x, 0, 12, "123");
        x.give(3, 0, 3);
        dueBook("one more is enough", x, 0, 11, "123");
        x.give(3, 0, 2);
        dueBook("of like ones the first", x, 0, 10, "0");
        dueBook("the most there can be", scheme(0, 13, 1, 14, 10, 10, 10, 10, 10, 10), 0, 60, "012345");
    }

    /** "at the first NIGHT where they are unlike, a HALL ahead of none". */
    private static void hallAheadOfNone() {
        dueBook("as early as can be", scheme(3, 9, 1, 14, 1), 0, 1, "...0");
        dueBook("three as early as can be", scheme(0, 13, 1, 2, 1, 1, 1), 0, 3, "01.2");
        VanPlays x = scheme(0, 0, 1, 14, 10);
        Check.wideHall(x, 0, 0);
        Check.smallShow(x, 0, 5, 1, 14);
        x.book(0);
        x.give(1, 1, 1);
        dueBook("a greater hall ahead of none", x, 1, 1, "1");
    }

    /** "of two the lesser". */
    private static void lesserHallAhead() {
        dueBook("the two with the most", scheme(4, 5, 1, 14, 2, 3, 2, 3), 0, 6, "....13");
        dueBook("the lesser of like ones", scheme(13, 13, 1, 14, 2, 3, 3), 0, 3, ".............1");
        dueBook("the lesser first, though it has less", scheme(0, 1, 1, 14, 1, 9), 0, 10, "01");
    }

    /** "(in the place of the one ahead, which is free ahead of it". */
    private static void freeAheadOfIt() {
        VanPlays x = scheme(0, 1, 1, 14, 1, 1);
        dueBook("booked", x, 0, 2, "01");
        dueBook("the same again", x, 0, 2, "01");
        Check.smallShow(x, 0, 13, 1, 14);
        x.give(0, 1, 1);
        dueBook("another show a night later", x, 1, 1, ".0");
        dueBook("its own night is free", x, 0, 2, "01");
        x.give(0, 0, 0);
        x.give(1, 0, 0);
        dueBook("the tour ahead is gone", x, 0, 0, "");
        dueBook("and its night is free for the other", x, 1, 1, "0");
        Check.due("nights on tours", x.count(2), 1);
    }

    /** Only the TOUR of SHOW s is in the place of another. */
    private static void otherToursStay() {
        VanPlays x = scheme(0, 1, 1, 14, 1, 1);
        Check.smallShow(x, 0, 1, 1, 14);
        x.give(0, 1, 9);
        x.book(0);
        x.book(1);
        x.give(0, 1, 0);
        x.book(0);
        Check.dueTour("the other tour stays", x, 1, ".0");
    }

    /** "its DOORS are forgotten)", those of other SHOWS are not. */
    private static void doorsForgotten() {
        VanPlays x = scheme(0, 1, 1, 14, 1, 1);
        Check.smallShow(x, 0, 1, 1, 14);
        x.give(0, 1, 1);
        x.book(0);
        x.book(1);
        x.door(0, 0, 100);
        x.door(0, 1, 200);
        x.door(1, 1, 400);
        Check.due("doors", x.sum(0), 700);
        dueBook("the same tour again", x, 0, 2, "01");
        Check.due("another show's door stays", x.sum(0), 400);
        Check.dueThrow("its first door", () -> x.shared(0, 0, 0));
        Check.dueThrow("its second door", () -> x.shared(0, 1, 0));
        Check.due("of the other show", x.shared(1, 1, 0), 400);
    }

    /** book: "NONE: no such one." */
    private static void bookNoSuchShow() {
        VanPlays x = scheme(0, 13, 1, 14, 1);
        x.book(0);
        for (int bad : Check.outside(0, 0)) {
            Check.due("book " + bad, x.book(bad), -1);
        }
        Check.due("the sixth of one", x.book(5), -1);
        Check.dueTour("the tour stays", x, 0, "0");
    }

    /** on: "The HALL where SHOW s is on a NIGHT; NONE: none". */
    private static void onEdges() {
        VanPlays x = scheme(0, 13, 1, 1, 1, 1, 1, 1, 1, 1);
        Check.smallShow(x, 13, 13, 1, 1);
        x.give(5, 1, 1);
        Check.due("ahead of any booking", x.on(0, 0), -1);
        x.book(0);
        x.book(1);
        Check.due("on the first night", x.on(0, 0), 0);
        Check.due("on a free night", x.on(0, 1), -1);
        Check.due("on the last night of the tour", x.on(0, 10), 5);
        Check.due("behind the tour", x.on(0, 11), -1);
        Check.due("on the last night", x.on(1, 13), 5);
        Check.due("ahead of its nights", x.on(1, 12), -1);
    }

    /** on: "NONE: none, or no such ones." */
    private static void onNoSuchOnes() {
        VanPlays x = scheme(0, 13, 1, 14, 1);
        x.book(0);
        for (int bad : Check.outside(0, 13)) {
            Check.due("night " + bad, x.on(0, bad), -1);
        }
        for (int bad : Check.outside(0, 0)) {
            Check.due("show " + bad, x.on(bad, 0), -1);
        }
        Check.due("the sixth of one", x.on(5, 0), -1);
    }

    /** worth: an empty TOUR has none. */
    private static void worthBeforeAnyBooking() {
        VanPlays x = scheme(0, 13, 1, 14, 1, 2);
        Check.due("before any booking", x.worth(0), 0);
    }

    /** "WORTH: POINTS of its HALLS together" of "the TOUR of SHOW s as it is BOOKED". */
    private static void worthOfPointsNow() {
        VanPlays x = scheme(0, 13, 1, 14, 1, 2);
        x.book(0);
        Check.due("as booked", x.worth(0), 3);
        x.give(0, 0, 8);
        Check.due("the points of now", x.worth(0), 10);
        x.give(0, 0, 0);
        x.give(1, 0, 0);
        Check.due("no points any more", x.worth(0), 0);
        Check.dueTour("but still on", x, 0, "01");
    }

    /** worth: "NONE: no such one." */
    private static void worthNoSuchShow() {
        VanPlays x = scheme(0, 13, 1, 14, 1);
        x.book(0);
        for (int bad : Check.outside(0, 0)) {
            Check.due("worth " + bad, x.worth(bad), -1);
        }
        Check.due("the sixth of one", x.worth(5), -1);
    }

    /** "HALLS 0 .. 11", "SHOWS 0 .. 5": with all of them the last SHOW is one, the next is not. */
    private static void allThereCanBe() {
        VanPlays x = Check.fullScheme();
        String[] due = {"012345", "103254", "2301..45"};
        for (int s = 0; s < 3; s++) {
            dueBook("show " + s + " of six", x, s, 6, due[s]);
        }
        x.give(11, 5, 5);
        for (int h = 0; h < 6; h++) {
            x.give(h, 5, 0);
        }
        dueBook("the last six for the last show", x, 5, 10, "6789ab");
        Check.due("book a seventh", x.book(6), -1);
        Check.due("on of a seventh", x.on(6, 0), -1);
        Check.due("worth of a seventh", x.worth(6), -1);
    }
}
