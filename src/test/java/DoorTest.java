/** Promises 17 (door), 18 (shared), 19 (sum) and 20 (keeps). */
public final class DoorTest {
    public static void main(String[] args) {
        doors();
        parts();
        company();
        subsidy();
        loss();
        greatest();
        nothingToTell();
        sums();
        keeps();
        Check.close();
    }

    /** A show on night 2 at hall 0 and on night 3 at hall 1. */
    private static VanPlays scheme() {
        VanPlays x = new VanPlays();
        Check.wideHall(x, 0, 0);
        Check.wideHall(x, 0, 0);
        Check.smallShow(x, 2, 4, 1, 14);
        x.give(0, 0, 1);
        x.give(1, 0, 1);
        x.book(0);
        return x;
    }

    private static void due(String terms, int pence, int company, int hall, int scheme) {
        VanPlays x = scheme();
        String of = pence + " by <" + terms + ">: ";
        Check.terms(x, 0, terms);
        Check.due(of + "fault", x.fault(), 0);
        Check.due(of + "door", x.door(0, 2, pence), true);
        Check.due(of + "came in", x.shared(0, 2, 0), pence);
        Check.due(of + "company", x.shared(0, 2, 1), company);
        Check.due(of + "hall", x.shared(0, 2, 2), hall);
        Check.due(of + "scheme", x.shared(0, 2, 3), scheme);
        Check.due(of + "sum of company", x.sum(1), company);
        Check.due(of + "sum of hall", x.sum(2), hall);
        Check.due(of + "sum of scheme", x.sum(3), scheme);
        Check.due(of + "keeps", x.keeps(0), hall);
    }

    private static void doors() {
        VanPlays x = scheme();
        Check.due("the least", x.door(0, 2, 0), true);
        Check.due("the least is a door", x.sum(4), 1);
        Check.due("the most", x.door(0, 2, 1000000), true);
        Check.due("in the place of one told", x.sum(4), 1);
        Check.due("what came in", x.shared(0, 2, 0), 1000000);
        for (int bad : new int[] {-1, 1000001, Integer.MIN_VALUE, Integer.MAX_VALUE}) {
            Check.due("pence " + bad, x.door(0, 2, bad), false);
        }
        for (int bad : new int[] {-1, 0, 1, 4, 13, 14, Integer.MIN_VALUE, Integer.MAX_VALUE}) {
            Check.due("night " + bad, x.door(0, bad, 1), false);
        }
        for (int bad : new int[] {-1, 1, 6, Integer.MIN_VALUE, Integer.MAX_VALUE}) {
            Check.due("show " + bad, x.door(bad, 2, 1), false);
        }
        Check.due("what stood stands", x.shared(0, 2, 0), 1000000);
        Check.due("one door", x.sum(4), 1);
    }

    private static void parts() {
        VanPlays x = scheme();
        Check.dueThrow("no door yet", () -> x.shared(0, 2, 0));
        x.door(0, 2, 50);
        for (int what = 0; what < 4; what++) {
            int part = what;
            Check.dueThrow("no door on night 3", () -> x.shared(0, 3, part));
            Check.dueThrow("not on tour on night 0", () -> x.shared(0, 0, part));
        }
        for (int bad : new int[] {-1, 4, Integer.MIN_VALUE, Integer.MAX_VALUE}) {
            Check.dueThrow("what " + bad, () -> x.shared(0, 2, bad));
        }
        for (int bad : new int[] {-1, 14, Integer.MIN_VALUE, Integer.MAX_VALUE}) {
            Check.dueThrow("night " + bad, () -> x.shared(0, bad, 0));
        }
        for (int bad : new int[] {-1, 1, 6, Integer.MIN_VALUE, Integer.MAX_VALUE}) {
            Check.dueThrow("show " + bad, () -> x.shared(bad, 2, 0));
        }
        Check.due("a call that throws changes nothing", x.shared(0, 2, 0), 50);
        Check.terms(x, 0, "fee 20;");
        Check.due("by its terms now", x.shared(0, 2, 1), 20);
        Check.terms(x, 0, "fee 30;");
        Check.due("by its terms now", x.shared(0, 2, 1), 30);
    }

    private static void company() {
        due("", 500, 0, 500, 0);
        due("fee 100;", 500, 100, 400, 0);
        due("share 50 above 100;", 100, 0, 100, 0);
        due("share 50 above 100;", 101, 0, 101, 0);
        due("share 50 above 100;", 102, 1, 101, 0);
        due("share 50 above 0;", 99, 49, 50, 0);
        // Three bands of 3, each cut by itself.
        due("share 50 above 0;share 50 above 3;share 50 above 6;", 9, 3, 6, 0);
        due("share 10 above 100;share 20 above 200;share 100 above 300;", 50, 0, 50, 0);
        due("share 10 above 100;share 20 above 200;share 100 above 300;", 250, 20, 230, 0);
        due("share 10 above 100;share 20 above 200;share 100 above 300;", 450, 180, 270, 0);
        due("fee 7;share 0 above 100;share 100 above 200;", 250, 57, 193, 0);
        due("share 100 above 0;", 1000000, 1000000, 0, 0);
    }

    private static void subsidy() {
        due("fee 1000;subsidy 10 most 500;", 2000, 1000, 1100, 100);
        due("fee 1000;subsidy 10 most 99;", 2000, 1000, 1099, 99);
        due("fee 99;subsidy 50 most 500;", 100, 99, 50, 49);
        due("subsidy 50 most 500;", 100, 0, 100, 0);
        due("fee 1000;subsidy 100 most 0;", 2000, 1000, 1000, 0);
        due("subsidy 100 most 99999;fee 99999;", 0, 99999, 0, 99999);
        due("fee 100;subsidy 0 most 500;", 100, 100, 0, 0);
    }

    private static void loss() {
        due("fee 100;", 50, 100, -50, 0);
        due("fee 100;loss hall;", 50, 100, -50, 0);
        due("fee 100;loss both;", 50, 100, -25, 25);
        due("fee 101;loss both;", 50, 101, -25, 26);
        due("fee 51;loss both;", 50, 51, 0, 1);
        due("fee 50;loss both;", 50, 50, 0, 0);
        due("fee 49;loss both;", 50, 49, 1, 0);
        due("fee 100;subsidy 10 most 9;loss both;", 0, 100, -45, 55);
        due("loss both;subsidy 10 most 10;fee 100;", 0, 100, -45, 55);
    }

    private static void greatest() {
        due("fee 99999;share 100 above 0;loss both;", 1000000, 1099999, -49999, 50000);
        VanPlays x = new VanPlays();
        for (int h = 0; h < 6; h++) {
            Check.wideHall(x, 0, 0);
        }
        for (int s = 0; s < 6; s++) {
            Check.smallShow(x, 0, 13, 1, 14);
            for (int h = 0; h < 6; h++) {
                x.give(h, s, 1);
            }
            x.book(s);
            Check.terms(x, s, "fee 99999;share 100 above 0;");
            for (int night = 0; night < 14; night++) {
                x.door(s, night, 1000000);
            }
        }
        Check.due("all doors", x.sum(4), 36);
        Check.due("all came in", x.sum(0), 36000000);
        Check.due("all companies", x.sum(1), 36 * 1099999);
        Check.due("all halls", x.sum(2), -36 * 99999);
    }

    private static void nothingToTell() {
        VanPlays x = scheme();
        for (int what = 0; what < 5; what++) {
            Check.due("sum(" + what + ") without doors", x.sum(what), 0);
        }
        for (int bad : new int[] {-1, 5, Integer.MIN_VALUE, Integer.MAX_VALUE}) {
            Check.due("sum(" + bad + ")", x.sum(bad), -1);
        }
        Check.due("keeps without doors", x.keeps(0), 0);
        for (int bad : new int[] {-1, 2, 12, Integer.MIN_VALUE, Integer.MAX_VALUE}) {
            Check.dueThrow("keeps(" + bad + ")", () -> x.keeps(bad));
        }
    }

    private static VanPlays twoShows() {
        VanPlays x = scheme();
        Check.smallShow(x, 2, 4, 1, 14);
        x.give(0, 1, 1);
        x.give(1, 1, 1);
        x.book(1);
        Check.dueTour("the second show", x, 1, "..10");
        Check.terms(x, 0, "fee 100;loss both;");
        Check.terms(x, 1, "share 10 above 0;fee 20;subsidy 50 most 20;");
        x.door(0, 2, 50);
        x.door(0, 3, 300);
        x.door(1, 3, 400);
        return x;
    }

    private static void sums() {
        VanPlays x = twoShows();
        Check.due("came in", x.sum(0), 750);
        Check.due("companies", x.sum(1), 100 + 100 + 60);
        Check.due("halls", x.sum(2), -25 + 200 + 350);
        Check.due("scheme", x.sum(3), 25 + 0 + 10);
        Check.due("how many", x.sum(4), 3);
    }

    private static void keeps() {
        VanPlays x = twoShows();
        Check.due("hall 0: both shows", x.keeps(0), -25 + 350);
        Check.due("hall 1", x.keeps(1), 200);
        x.book(0);
        Check.due("hall 0: its doors are forgotten", x.keeps(0), 350);
        Check.due("hall 1: its doors are forgotten", x.keeps(1), 0);
    }
}
