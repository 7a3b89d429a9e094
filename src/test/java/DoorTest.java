/** Promises 17 (door), 18 (shared), 19 (sum) and 20 (keeps). */
public final class DoorTest {
    public static void main(String[] args) {
        penceEdges();
        penceOutside();
        inThePlaceOfOneTold();
        notBookedThen();
        doorNoSuchShow();
        sharedParts();
        sharedNoDoor();
        sharedAnotherWhat();
        sharedNoSuchOnes();
        sharedByTermsNow();
        nothingTold();
        aboveEachShare();
        upToTheNextShare();
        eachCut();
        subsidyCut();
        subsidyNoMoreThanMost();
        lossOfHall();
        lossOfBoth();
        greatestDoor();
        sumsWithoutDoors();
        showsWithoutTours();
        sumOfAnotherWhat();
        sums();
        greatestSums();
        keeps();
        keepsOnEdgeNights();
        keepsNoSuchHall();
        Check.close();
    }

    /** A show on night 2 at hall 0 and on night 3 at hall 1. */
    private static VanPlays scheme() {
        VanPlays x = new VanPlays();
        Check.wideHall(x, 0, 0);
        Check.wideHall(x, 0, 0);
        Check.smallShow(x, 2, 4, 1, 14);
        x.give(0, 0, 1);
        x.give(1, 0, 1);
        x.book(0);
        return x;
    }

    private static void due(String terms, int pence, int company, int hall, int scheme) {
        VanPlays x = scheme();
        String of = pence + " by <" + terms + ">: ";
        Check.terms(x, 0, terms);
        Check.due(of + "fault", x.fault(), 0);
        Check.due(of + "door", x.door(0, 2, pence), true);
        Check.due(of + "came in", x.shared(0, 2, 0), pence);
        Check.due(of + "company", x.shared(0, 2, 1), company);
        Check.due(of + "hall", x.shared(0, 2, 2), hall);
        Check.due(of + "scheme", x.shared(0, 2, 3), scheme);
        Check.due(of + "sum of company", x.sum(1), company);
        Check.due(of + "sum of hall", x.sum(2), hall);
        Check.due(of + "sum of scheme", x.sum(3), scheme);
        Check.due(of + "keeps", x.keeps(0), hall);
    }

    /** "what came in (pence, 0 to 1000000)". */
    private static void penceEdges() {
        VanPlays x = scheme();
        Check.due("the least", x.door(0, 2, 0), true);
        Check.due("the least is a door", x.sum(4), 1);
        Check.due("the least came in", x.shared(0, 2, 0), 0);
        Check.due("the most", x.door(0, 3, 1000000), true);
        Check.due("the most came in", x.shared(0, 3, 0), 1000000);
    }

    /** door: "false: it is not BOOKED then, or it is not as told", of pence. */
    private static void penceOutside() {
        VanPlays x = scheme();
        x.door(0, 2, 77);
        for (int bad : Check.outside(0, 1000000)) {
            Check.due("pence " + bad, x.door(0, 2, bad), false);
            Check.due("pence " + bad + " where none is told", x.door(0, 3, bad), false);
        }
        Check.due("what stood stands", x.shared(0, 2, 0), 77);
        Check.due("and no other", x.sum(4), 1);
    }

    /** "(in the place of one told)". */
    private static void inThePlaceOfOneTold() {
        VanPlays x = scheme();
        x.door(0, 2, 500);
        x.door(0, 3, 30);
        Check.due("another", x.door(0, 2, 400), true);
        Check.due("it is there", x.shared(0, 2, 0), 400);
        Check.due("still two", x.sum(4), 2);
        Check.due("together", x.sum(0), 430);
        Check.due("none came in", x.door(0, 2, 0), true);
        Check.due("it is there", x.shared(0, 2, 0), 0);
        Check.due("still two", x.sum(4), 2);
    }

    /** door: "false: it is not BOOKED then", on NIGHTS of all kinds. */
    private static void notBookedThen() {
        VanPlays x = scheme();
        for (int free : new int[] {0, 1, 4, 5, 13}) {
            Check.due("night " + free, x.door(0, free, 1), false);
        }
        for (int bad : Check.outside(0, 13)) {
            Check.due("night " + bad, x.door(0, bad, 1), false);
        }
        Check.due("no doors", x.sum(4), 0);
        Check.smallShow(x, 0, 13, 1, 14);
        Check.due("a show without a tour", x.door(1, 2, 1), false);
    }

    /** door: the same of a SHOW that is none. */
    private static void doorNoSuchShow() {
        VanPlays x = scheme();
        for (int bad : Check.outside(0, 0)) {
            Check.due("show " + bad, x.door(bad, 2, 1), false);
        }
        Check.due("the sixth of one", x.door(5, 2, 1), false);
        Check.due("no doors", x.sum(4), 0);
    }

    /** "0 what came in, 1 what the COMPANY has, 2 what the HALL keeps, 3 what the SCHEME gives." */
    private static void sharedParts() {
        VanPlays x = scheme();
        Check.terms(x, 0, "fee 100;share 10 above 500;subsidy 20 most 15;");
        x.door(0, 2, 1000);
        Check.due("came in", x.shared(0, 2, 0), 1000);
        Check.due("the company has", x.shared(0, 2, 1), 150);
        Check.due("the hall keeps", x.shared(0, 2, 2), 865);
        Check.due("the scheme gives", x.shared(0, 2, 3), 15);
    }

    /** "NoSuchElementException: there is no DOOR". */
    private static void sharedNoDoor() {
        VanPlays x = scheme();
        Check.dueThrow("no door yet", () -> x.shared(0, 2, 0));
        x.door(0, 2, 50);
        for (int what = 0; what < 4; what++) {
            int part = what;
            Check.dueThrow("no door on night 3", () -> x.shared(0, 3, part));
            Check.dueThrow("not on tour on night 0", () -> x.shared(0, 0, part));
            Check.dueThrow("not on tour on night 13", () -> x.shared(0, 13, part));
        }
        Check.due("a call that throws changes nothing", x.shared(0, 2, 0), 50);
    }

    /** "NoSuchElementException: there is no DOOR, or another what." */
    private static void sharedAnotherWhat() {
        VanPlays x = scheme();
        x.door(0, 2, 50);
        for (int bad : Check.outside(0, 3)) {
            Check.dueThrow("what " + bad, () -> x.shared(0, 2, bad));
            Check.dueThrow("neither a door nor what " + bad, () -> x.shared(0, 3, bad));
        }
    }

    /** "there is no DOOR" of what is no SHOW or no NIGHT. */
    private static void sharedNoSuchOnes() {
        VanPlays x = scheme();
        x.door(0, 2, 50);
        for (int bad : Check.outside(0, 13)) {
            Check.dueThrow("night " + bad, () -> x.shared(0, bad, 0));
        }
        for (int bad : Check.outside(0, 0)) {
            Check.dueThrow("show " + bad, () -> x.shared(bad, 2, 0));
        }
        Check.dueThrow("the sixth of one", () -> x.shared(5, 2, 0));
        VanPlays all = Check.fullScheme();
        Check.dueThrow("a seventh", () -> all.shared(6, 2, 0));
    }

    /** "by its TERMS now". */
    private static void sharedByTermsNow() {
        VanPlays x = scheme();
        x.door(0, 2, 50);
        Check.due("none told", x.shared(0, 2, 1), 0);
        Check.terms(x, 0, "fee 20;");
        Check.due("a fee", x.shared(0, 2, 1), 20);
        Check.terms(x, 0, "fee 30;");
        Check.due("another fee", x.shared(0, 2, 1), 30);
        Check.terms(x, 0, "fee 40;!");
        Check.due("a fault leaves it", x.shared(0, 2, 1), 30);
        Check.due("came in", x.shared(0, 2, 0), 50);
    }

    /** "What is not told: fee 0, no shares, subsidy 0 most 0, loss hall." */
    private static void nothingTold() {
        due("", 0, 0, 0, 0);
        due("", 500, 0, 500, 0);
        due("", 1000000, 0, 1000000, 0);
        due("fee 100;", 500, 100, 400, 0);
        due("subsidy 50 most 500;", 100, 0, 100, 0);
        due("fee 100;", 50, 100, -50, 0);
        due("share 100 above 0;", 70, 70, 0, 0);
    }

    /** "of what came in above each share's NUMBER". */
    private static void aboveEachShare() {
        due("share 50 above 100;", 0, 0, 0, 0);
        due("share 50 above 100;", 99, 0, 99, 0);
        due("share 50 above 100;", 100, 0, 100, 0);
        due("share 50 above 100;", 102, 1, 101, 0);
        due("share 100 above 100;", 101, 1, 100, 0);
        due("share 100 above 99999;", 99999, 0, 99999, 0);
        due("share 100 above 99999;", 100000, 1, 99999, 0);
        due("share 100 above 99999;", 1000000, 900001, 99999, 0);
        due("fee 7;share 0 above 0;", 250, 7, 243, 0);
    }

    /** "up to the next share's". */
    private static void upToTheNextShare() {
        String terms = "share 10 above 100;share 20 above 200;share 100 above 300;";
        due(terms, 100, 0, 100, 0);
        due(terms, 110, 1, 109, 0);
        due(terms, 200, 10, 190, 0);
        due(terms, 205, 11, 194, 0);
        due(terms, 250, 20, 230, 0);
        due(terms, 300, 30, 270, 0);
        due(terms, 301, 31, 270, 0);
        due(terms, 450, 180, 270, 0);
        due("fee 7;share 0 above 100;share 100 above 200;", 200, 7, 193, 0);
        due("fee 7;share 0 above 100;share 100 above 200;", 250, 57, 193, 0);
        due("share 100 above 0;share 0 above 1;", 9, 1, 8, 0);
    }

    /** "so many hundredths, each cut". */
    private static void eachCut() {
        due("share 50 above 100;", 101, 0, 101, 0);
        due("share 50 above 0;", 99, 49, 50, 0);
        due("share 99 above 0;", 1, 0, 1, 0);
        due("share 1 above 0;", 99, 0, 99, 0);
        due("share 1 above 0;", 100, 1, 99, 0);
        due("share 1 above 0;", 199, 1, 198, 0);
        // Three bands of 3, each cut by itself.
        due("share 50 above 0;share 50 above 3;share 50 above 6;", 9, 3, 6, 0);
        due("share 99 above 0;share 99 above 1;share 99 above 2;", 3, 0, 3, 0);
    }

    /** "subsidy hundredths of the fee, cut". */
    private static void subsidyCut() {
        due("fee 1000;subsidy 10 most 500;", 2000, 1000, 1100, 100);
        due("fee 99;subsidy 50 most 500;", 100, 99, 50, 49);
        due("fee 1;subsidy 99 most 500;", 100, 1, 99, 0);
        due("fee 100;subsidy 0 most 500;", 100, 100, 0, 0);
        due("fee 100;subsidy 100 most 500;", 100, 100, 100, 100);
        due("fee 100;share 50 above 0;subsidy 50 most 500;", 100, 150, 0, 50);
    }

    /** "no more than most tells". */
    private static void subsidyNoMoreThanMost() {
        due("fee 1000;subsidy 10 most 99;", 2000, 1000, 1099, 99);
        due("fee 1000;subsidy 10 most 100;", 2000, 1000, 1100, 100);
        due("fee 1000;subsidy 10 most 101;", 2000, 1000, 1100, 100);
        due("fee 1000;subsidy 100 most 0;", 2000, 1000, 1000, 0);
        due("subsidy 100 most 99999;fee 99999;", 0, 99999, 0, 99999);
        due("subsidy 100 most 99998;fee 99999;", 0, 99999, -1, 99998);
    }

    /** "if that is below 0 and loss tells both": with loss hall the HALL has it alone. */
    private static void lossOfHall() {
        due("fee 100;loss hall;", 50, 100, -50, 0);
        due("fee 100;loss hall;", 100, 100, 0, 0);
        due("fee 100;subsidy 10 most 9;loss hall;", 0, 100, -91, 9);
        due("fee 99999;", 0, 99999, -99999, 0);
    }

    /** "the SCHEME gives it half of what it is below 0, rounded up, more". */
    private static void lossOfBoth() {
        due("fee 49;loss both;", 50, 49, 1, 0);
        due("fee 50;loss both;", 50, 50, 0, 0);
        due("fee 51;loss both;", 50, 51, 0, 1);
        due("fee 52;loss both;", 50, 52, -1, 1);
        due("fee 53;loss both;", 50, 53, -1, 2);
        due("fee 100;loss both;", 50, 100, -25, 25);
        due("fee 101;loss both;", 50, 101, -25, 26);
        due("fee 100;subsidy 10 most 9;loss both;", 0, 100, -45, 55);
        due("loss both;subsidy 10 most 10;fee 100;", 0, 100, -45, 55);
        due("loss both;subsidy 100 most 99;fee 100;", 0, 100, 0, 100);
        due("fee 99999;loss both;", 0, 99999, -49999, 50000);
    }

    /** The most pence with the greatest NUMBERS. */
    private static void greatestDoor() {
        due("fee 99999;share 100 above 0;loss both;", 1000000, 1099999, -49999, 50000);
        due("fee 99999;share 100 above 0;subsidy 100 most 99999;loss both;", 1000000, 1099999, 0, 99999);
        due("share 100 above 0;", 1000000, 1000000, 0, 0);
    }

    /** "All DOORS: 0 to 3 as shared(), together; 4 how many": of none. */
    private static void sumsWithoutDoors() {
        VanPlays x = scheme();
        Check.terms(x, 0, "fee 10;subsidy 50 most 5;loss both;");
        for (int what = 0; what < 5; what++) {
            Check.due("sum(" + what + ") without doors", x.sum(what), 0);
        }
        x.door(0, 2, 0);
        Check.due("one door without pence", x.sum(4), 1);
    }

    /** A SHOW that was never BOOKED has no DOORS on any NIGHT. */
    private static void showsWithoutTours() {
        VanPlays x = Check.fullScheme();
        for (int what = 0; what < 5; what++) {
            Check.due("sum(" + what + ") of shows without tours", x.sum(what), 0);
        }
        for (int night = 0; night < 14; night++) {
            int on = night;
            Check.dueThrow("no door on night " + night, () -> x.shared(5, on, 0));
        }
    }

    /** sum: "NONE for another what." */
    private static void sumOfAnotherWhat() {
        VanPlays x = scheme();
        x.door(0, 2, 100);
        for (int bad : Check.outside(0, 4)) {
            Check.due("sum(" + bad + ")", x.sum(bad), -1);
        }
    }

    private static VanPlays twoShows() {
        VanPlays x = scheme();
        Check.smallShow(x, 2, 4, 1, 14);
        x.give(0, 1, 1);
        x.give(1, 1, 1);
        x.book(1);
        Check.dueTour("the second show", x, 1, "..10");
        Check.terms(x, 0, "fee 100;loss both;");
        Check.terms(x, 1, "share 10 above 0;fee 20;subsidy 50 most 20;");
        x.door(0, 2, 50);
        x.door(0, 3, 300);
        x.door(1, 3, 400);
        return x;
    }

    /** "All DOORS: 0 to 3 as shared(), together; 4 how many." */
    private static void sums() {
        VanPlays x = twoShows();
        Check.due("came in", x.sum(0), 750);
        Check.due("companies", x.sum(1), 100 + 100 + 60);
        Check.due("halls", x.sum(2), -25 + 200 + 350);
        Check.due("scheme", x.sum(3), 25 + 0 + 10);
        Check.due("how many", x.sum(4), 3);
    }

    /** The same with all DOORS that there can be, each the greatest. */
    private static void greatestSums() {
        VanPlays x = Check.fullScheme();
        for (int s = 0; s < 6; s++) {
            x.book(s);
            Check.terms(x, s, "fee 99999;share 100 above 0;");
            for (int night = 0; night < 14; night++) {
                x.door(s, night, 1000000);
            }
        }
        Check.due("all doors", x.sum(4), 36);
        Check.due("all came in", x.sum(0), 36000000);
        Check.due("all companies", x.sum(1), 36 * 1099999);
        Check.due("all halls", x.sum(2), -36 * 99999);
        Check.due("all that the scheme gives", x.sum(3), 0);
        Check.due("one hall", x.keeps(5), -6 * 99999);
        Check.due("a hall that nobody came to", x.keeps(11), 0);
    }

    /** "All that HALL h keeps by DOORS". */
    private static void keeps() {
        VanPlays x = twoShows();
        Check.due("hall 0: both shows", x.keeps(0), -25 + 350);
        Check.due("hall 1: the first show alone", x.keeps(1), 200);
        x.book(0);
        Check.due("hall 0: its doors are forgotten", x.keeps(0), 350);
        Check.due("hall 1: its doors are forgotten", x.keeps(1), 0);
    }

    /** The same on the first and the last NIGHT. */
    private static void keepsOnEdgeNights() {
        VanPlays x = new VanPlays();
        Check.wideHall(x, 0, 0);
        Check.smallShow(x, 0, 0, 1, 1);
        Check.smallShow(x, 13, 13, 1, 1);
        x.give(0, 0, 1);
        x.give(0, 1, 1);
        Check.due("without doors", x.keeps(0), 0);
        x.book(0);
        x.book(1);
        x.door(0, 0, 3);
        Check.due("night 0", x.keeps(0), 3);
        x.door(1, 13, 40);
        Check.due("nights 0 and 13", x.keeps(0), 43);
        Check.due("sum of both", x.sum(2), 43);
    }

    /** keeps: "NoSuchElementException: no such one." */
    private static void keepsNoSuchHall() {
        VanPlays x = scheme();
        x.door(0, 2, 100);
        for (int bad : Check.outside(0, 1)) {
            Check.dueThrow("keeps(" + bad + ")", () -> x.keeps(bad));
        }
        Check.dueThrow("the twelfth of two", () -> x.keeps(11));
        Check.due("a call that throws changes nothing", x.keeps(0), 100);
        VanPlays all = Check.fullScheme();
        Check.due("the twelfth of twelve", all.keeps(11), 0);
        Check.dueThrow("a thirteenth", () -> all.keeps(12));
    }
}
