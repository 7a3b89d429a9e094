/** Promises 15 (terms) and 16 (fault). */
public final class TermsTest {
    public static void main(String[] args) {
        told();
        blanks();
        noTokens();
        cannotCome();
        numbers();
        tooOften();
        firstAlongTheText();
        theyStay();
        faultIsKept();
        Check.close();
    }

    private static VanPlays scheme() {
        VanPlays x = new VanPlays();
        Check.smallShow(x, 0, 0, 1, 1);
        return x;
    }

    private static void good(String text, int terms) {
        VanPlays x = scheme();
        Check.due("terms of <" + text + ">", Check.terms(x, 0, text), terms);
        Check.due("fault of <" + text + ">", x.fault(), 0);
        Check.due("tape behind <" + text + ">", x.count(3), 0);
    }

    private static void bad(String text, int kind, int place) {
        VanPlays x = scheme();
        Check.due("terms of <" + text + ">", Check.terms(x, 0, text), -1 - place);
        Check.due("fault of <" + text + ">", x.fault(), kind);
        Check.due("tape behind <" + text + ">", x.count(3), 0);
    }

    private static void told() {
        good("", 0);
        good("fee 0;", 1);
        good("fee 99999;", 1);
        good("share 0 above 0;", 1);
        good("share 100 above 99999;", 1);
        good("share 1 above 0;share 1 above 1;share 1 above 2;", 3);
        good("subsidy 100 most 99999;", 1);
        good("loss hall;", 1);
        good("loss both;", 1);
        good("loss both;subsidy 1 most 2;fee 3;share 4 above 5;", 4);
        good("share 1 above 5;fee 1;share 1 above 6;loss hall;share 2 above 7;subsidy 0 most 0;", 6);
        good("share 00100 above 00001;share 1 above 2;", 2);
    }

    private static void blanks() {
        good(" \n ", 0);
        good("\nfee\n1\n;\n", 1);
        good("  fee   1  ;  loss  hall  ;", 2);
        bad("fee\t1;", 1, 3);
        bad("fee\r1;", 1, 3);
        bad("\0fee 1;", 1, 0);
        bad("fee 1;" + (char) 160, 1, 6);
    }

    private static void noTokens() {
        bad("fee1 2;", 1, 0);
        bad("fee 1a;", 1, 4);
        bad("fee a1;", 1, 4);
        bad("1fee;", 1, 0);
        bad("fee 100000;", 1, 4);
        bad("fee 000001;", 1, 4);
        bad("fee 99999999999999999999;", 1, 4);
        bad("fee 1,", 1, 5);
        bad("Fee 1;", 1, 0);
        bad("fee -1;", 1, 4);
        bad("fee 1;  .", 1, 8);
        bad("share 5 above5 1;", 1, 8);
        bad("loss ha11;", 1, 5);
        bad("" + (char) 255, 1, 0);
        bad("fee" + (char) 233 + " 1;", 1, 3);
    }

    private static void cannotCome() {
        bad(";", 2, 0);
        bad("5;", 2, 0);
        bad("above 5;", 2, 0);
        bad("both;", 2, 0);
        bad("fees 5;", 2, 0);
        bad("fe 5;", 2, 0);
        bad("fee;", 2, 3);
        bad("fee fee;", 2, 4);
        bad("fee 5 5;", 2, 6);
        bad("fee 5 fee 5;", 2, 6);
        bad("share above 5;", 2, 6);
        bad("share 5 5;", 2, 8);
        bad("share 5 most 5;", 2, 8);
        bad("share 5 above;", 2, 13);
        bad("subsidy 5 above 5;", 2, 10);
        bad("subsidy 5;", 2, 9);
        bad("loss;", 2, 4);
        bad("loss 5;", 2, 5);
        bad("loss scheme;", 2, 5);
        bad("loss hall both;", 2, 10);
        bad("fee 5;;", 2, 6);
        bad("fee", 2, 3);
        bad("fee ", 2, 4);
        bad("fee 5", 2, 5);
        bad("fee 5 \n", 2, 7);
        bad("share", 2, 5);
        bad("share 5", 2, 7);
        bad("share 5 above", 2, 13);
        bad("share 5 above 5", 2, 15);
        bad("subsidy 5 most", 2, 14);
        bad("loss", 2, 4);
        bad("loss both", 2, 9);
        StringBuilder full = new StringBuilder("fee 1");
        while (full.length() < 200) {
            full.append(' ');
        }
        bad(full.toString(), 2, 200);
    }

    private static void numbers() {
        bad("share 101 above 0;", 3, 6);
        bad("share 99999 above 0;", 3, 6);
        bad("subsidy 101 most 0;", 3, 8);
        bad("share 5 above 5;share 5 above 5;", 3, 30);
        bad("share 5 above 5;share 5 above 4;", 3, 30);
        bad("share 5 above 0;share 5 above 0;", 3, 30);
        bad("share 5 above 1;share 5 above 7;share 5 above 3;", 3, 46);
        bad("share 5 above 5;fee 1;share 5 above 5;", 3, 36);
    }

    private static void tooOften() {
        bad("fee 1;fee 1;", 4, 6);
        bad("fee 1;fee", 4, 6);
        bad("loss hall;loss hall;", 4, 10);
        bad("loss hall;loss both;", 4, 10);
        bad("subsidy 1 most 1;fee 1;subsidy 1 most 1;", 4, 23);
        bad("share 1 above 1;share 1 above 2;share 1 above 3;share 1 above 4;", 4, 48);
        bad("share 1 above 1;share 1 above 2;share 1 above 3;fee 1; share", 4, 55);
    }

    private static void firstAlongTheText() {
        bad("fee 1;fee .", 4, 6);
        bad("share 101 ! 0;", 3, 6);
        bad("; !", 2, 0);
        bad("! ;", 1, 0);
        bad("share 5 above 5;share 5 above 5!", 3, 30);
        bad("fee 1;fee1 2;", 1, 6);
    }

    private static void theyStay() {
        VanPlays x = scheme();
        Check.wideHall(x, 0, 0);
        x.give(0, 0, 1);
        x.book(0);
        x.door(0, 0, 1000);
        Check.terms(x, 0, "fee 10;share 50 above 500;subsidy 50 most 3;loss both;");
        Check.due("told", x.shared(0, 0, 1), 260);
        Check.terms(x, 0, "fee 20;share 60 above 600;subsidy 10 most 9;loss hall;fee");
        Check.due("they stay", x.shared(0, 0, 1), 260);
        Check.due("they stay", x.shared(0, 0, 3), 3);
        Check.terms(x, 0, "share 10 above 0;");
        Check.due("new ones forget the ones ahead", x.shared(0, 0, 1), 100);
        Check.due("new ones forget the ones ahead", x.shared(0, 0, 3), 0);
        Check.smallShow(x, 0, 0, 1, 1);
        Check.terms(x, 1, "fee 7;");
        Check.due("each show has its own", x.shared(0, 0, 1), 100);
        Check.terms(x, 0, "");
        Check.due("none told", x.shared(0, 0, 1), 0);
    }

    private static void faultIsKept() {
        VanPlays x = new VanPlays();
        Check.due("ahead of any", x.fault(), 0);
        Check.due("no show", Check.terms(x, 0, "!"), -300);
        Check.due("no show: fault", x.fault(), 0);
        Check.due("no show: the tape is empty", x.count(3), 0);
        Check.smallShow(x, 0, 0, 1, 1);
        Check.terms(x, 0, "share 101");
        Check.due("fault", x.fault(), 3);
        Check.due("fault again", x.fault(), 3);
        for (int bad : new int[] {-1, 1, 6, Integer.MIN_VALUE, Integer.MAX_VALUE}) {
            Check.due("show " + bad, Check.terms(x, bad, "fee 1;"), -300);
        }
        Check.due("-300 leaves it", x.fault(), 3);
        Check.terms(x, 0, "fee 1;");
        Check.due("none now", x.fault(), 0);
    }
}
