/** Promises 15 (terms) and 16 (fault). */
public final class TermsTest {
    public static void main(String[] args) {
        emptyText();
        eachTerm();
        anyOrder();
        blanks();
        noOtherBlanks();
        numbersOfFiveDigits();
        wordsOfSmallLetters();
        goesOnAsLettersAndDigitsDo();
        otherBytes();
        cannotBegin();
        cannotCome();
        theEndCannotCome();
        hundredths();
        greaterThanTheOneAhead();
        sharesThreeTimes();
        othersOnce();
        firstAlongTheText();
        leastOfOneToken();
        fullTape();
        theyStay();
        notToldIsForgotten();
        eachShowHasItsOwn();
        eachReadingIsNew();
        noSuchShow();
        faultAheadOfAny();
        faultOfTheLatest();
        faultStaysWithoutAShow();
        tapeIsEmptyThen();
        Check.close();
    }

    private static VanPlays scheme() {
        VanPlays x = new VanPlays();
        Check.smallShow(x, 0, 0, 1, 1);
        return x;
    }

    private static void good(String text, int terms) {
        VanPlays x = scheme();
        Check.due("terms of <" + text + ">", Check.terms(x, 0, text), terms);
        Check.due("fault of <" + text + ">", x.fault(), 0);
    }

    private static void bad(String text, int kind, int place) {
        VanPlays x = scheme();
        Check.due("terms of <" + text + ">", Check.terms(x, 0, text), -1 - place);
        Check.due("fault of <" + text + ">", x.fault(), kind);
    }

    /** "TEXT: { TERM }": none at all. */
    private static void emptyText() {
        good("", 0);
        good(" ", 0);
        good("\n", 0);
        good(" \n ", 0);
    }

    /**
     * "'fee' NUMBER ; | 'share' NUMBER 'above' NUMBER ; | 'subsidy' NUMBER 'most' NUMBER ; |
     * 'loss' ( 'hall' | 'both' ) ;": with the least and the greatest NUMBERS.
     */
    private static void eachTerm() {
        good("fee 0;", 1);
        good("fee 99999;", 1);
        good("share 0 above 0;", 1);
        good("share 100 above 99999;", 1);
        good("subsidy 0 most 0;", 1);
        good("subsidy 100 most 99999;", 1);
        good("loss hall;", 1);
        good("loss both;", 1);
    }

    /** "{ TERM }": each as often as it may be, in any order. */
    private static void anyOrder() {
        good("loss both;subsidy 1 most 2;fee 3;share 4 above 5;", 4);
        good("share 1 above 5;fee 1;share 1 above 6;loss hall;share 2 above 7;subsidy 0 most 0;", 6);
        good("fee 1;loss both;", 2);
        good("loss both;fee 1;", 2);
    }

    /** "with blanks (32, 10) between or not". */
    private static void blanks() {
        good("\nfee\n1\n;\n", 1);
        good("  fee   1  ;  loss  hall  ;", 2);
        good("\n \nfee \n 1 \n;", 1);
        good("fee 1;loss hall;", 2);
    }

    /** "blanks (32, 10)": no other byte is one. */
    private static void noOtherBlanks() {
        for (int other : new int[] {0, 8, 9, 11, 12, 13, 31, 33, 42, 127, 128, 133, 138, 160, 255}) {
            bad("fee" + (char) other + "1;", 1, 3);
            bad("fee 1" + (char) other + ";", 1, 5);
            bad("fee 1;" + (char) other, 1, 6);
            bad((char) other + "fee 1;", 1, 0);
        }
    }

    /** "NUMBERS (1 to 5 digits)": six are no TOKEN, however little they tell. */
    private static void numbersOfFiveDigits() {
        good("fee 1;", 1);
        good("fee 12345;", 1);
        good("fee 00000;", 1);
        good("share 00100 above 00001;share 1 above 2;", 2);
        bad("fee 100000;", 1, 4);
        bad("fee 000001;", 1, 4);
        bad("fee 000000;", 1, 4);
        bad("share 000001 above 1;", 1, 6);
        bad("share 1 above 100000;", 1, 14);
        bad("subsidy 000001 most 1;", 1, 8);
        bad("subsidy 1 most 100000;", 1, 15);
        bad("fee 4294967297;", 1, 4);
        bad("fee 18446744073709551617;", 1, 4);
        bad("fee 99999999999999999999;", 1, 4);
    }

    /** "WORDS (small letters)": from a to z; a capital is none. */
    private static void wordsOfSmallLetters() {
        bad("a", 2, 0);
        bad("z", 2, 0);
        bad("az 5;", 2, 0);
        bad("Fee 1;", 1, 0);
        bad("FEE 1;", 1, 0);
        bad("fee 1;Z", 1, 6);
        bad("fee 1;A", 1, 6);
        bad("loss Both;", 1, 5);
    }

    /** "a WORD, NUMBER goes on as long as letters and digits do; where it is not as told then it is no TOKEN". */
    private static void goesOnAsLettersAndDigitsDo() {
        bad("fee1;", 1, 0);
        bad("fee1 2;", 1, 0);
        bad("fee 1a;", 1, 4);
        bad("fee a1;", 1, 4);
        bad("fee 1z;", 1, 4);
        bad("fee z9;", 1, 4);
        bad("fee 0a0;", 1, 4);
        bad("1fee;", 1, 0);
        bad("fee 1;fee1 2;", 1, 6);
        bad("share 5 above5 1;", 1, 8);
        bad("share 5above 1;", 1, 6);
        bad("subsidy 5 most5;", 1, 10);
        bad("loss ha11;", 1, 5);
        bad("feefee 1;", 2, 0);
        bad("fee 12 3;", 2, 7);
    }

    /** "1 no TOKEN (at its first byte)": the bytes beside letters, digits and ; among them. */
    private static void otherBytes() {
        for (int other : new int[] {'/', ':', '<', '@', '[', '`', '{', '_', '-', '.', 233}) {
            bad("" + (char) other, 1, 0);
            bad("fee" + (char) other + " 1;", 1, 3);
            bad("fee 1" + (char) other, 1, 5);
            bad("fee 1;  " + (char) other, 1, 8);
        }
        bad("fee -1;", 1, 4);
        bad("fee 1.5;", 1, 5);
    }

    /** "2 one that can't come": where a TERM begins. */
    private static void cannotBegin() {
        bad(";", 2, 0);
        bad("5;", 2, 0);
        bad("above 5;", 2, 0);
        bad("most 5;", 2, 0);
        bad("hall;", 2, 0);
        bad("both;", 2, 0);
        bad("fees 5;", 2, 0);
        bad("fe 5;", 2, 0);
        bad("gee 5;", 2, 0);
        bad("fae 5;", 2, 0);
        bad("fef 5;", 2, 0);
        bad("  bee 5;", 2, 2);
        bad("fee 5;;", 2, 6);
        bad("fee 5; 5;", 2, 7);
        bad("shard 5 above 5;", 2, 0);
        bad("losses hall;", 2, 0);
    }

    /** "2 one that can't come": within a TERM. */
    private static void cannotCome() {
        bad("fee;", 2, 3);
        bad("fee fee;", 2, 4);
        bad("fee 5 5;", 2, 6);
        bad("fee 5 fee 5;", 2, 6);
        bad("share above 5;", 2, 6);
        bad("share;", 2, 5);
        bad("share 5;", 2, 7);
        bad("share 5 5;", 2, 8);
        bad("share 5 most 5;", 2, 8);
        bad("share 5 above;", 2, 13);
        bad("share 5 above above;", 2, 14);
        bad("share 5 above 5 5;", 2, 16);
        bad("share 5 above 5 share", 2, 16);
        bad("subsidy most 5;", 2, 8);
        bad("subsidy 5 above 5;", 2, 10);
        bad("subsidy 5;", 2, 9);
        bad("subsidy 5 most;", 2, 14);
        bad("subsidy 5 most 5 most;", 2, 17);
        bad("loss;", 2, 4);
        bad("loss 5;", 2, 5);
        bad("loss scheme;", 2, 5);
        bad("loss loss;", 2, 5);
        bad("loss hall both;", 2, 10);
        bad("loss both 5;", 2, 10);
    }

    /** "(the end: how many bytes there are)". */
    private static void theEndCannotCome() {
        bad("fee", 2, 3);
        bad("fee ", 2, 4);
        bad("fee 5", 2, 5);
        bad("fee 5 \n", 2, 7);
        bad("share", 2, 5);
        bad("share 5", 2, 7);
        bad("share 5 above", 2, 13);
        bad("share 5 above 5", 2, 15);
        bad("subsidy", 2, 7);
        bad("subsidy 5", 2, 9);
        bad("subsidy 5 most", 2, 14);
        bad("subsidy 5 most 5", 2, 16);
        bad("loss", 2, 4);
        bad("loss both", 2, 9);
        bad("fee 5;loss hall", 2, 15);
    }

    /** "The NUMBERS behind share, subsidy: 0 to 100."; "3 a NUMBER that is not as told (at it)". */
    private static void hundredths() {
        good("share 99 above 0;", 1);
        good("share 100 above 0;", 1);
        good("share 00000 above 0;", 1);
        bad("share 101 above 0;", 3, 6);
        bad("share  00101 above 0;", 3, 7);
        bad("share 99999 above 0;", 3, 6);
        bad("share 356 above 0;", 3, 6);
        good("subsidy 100 most 0;", 1);
        bad("subsidy 101 most 0;", 3, 8);
        bad("subsidy 99999 most 0;", 3, 8);
        good("fee 101;share 1 above 101;subsidy 1 most 101;", 3);
    }

    /** "each above a greater NUMBER than the one ahead". */
    private static void greaterThanTheOneAhead() {
        good("share 5 above 0;share 5 above 1;share 5 above 2;", 3);
        good("share 5 above 99997;share 5 above 99998;share 5 above 99999;", 3);
        bad("share 5 above 5;share 5 above 5;", 3, 30);
        bad("share 5 above 5;share 5 above 4;", 3, 30);
        bad("share 5 above 0;share 5 above 0;", 3, 30);
        bad("share 5 above 5;share 5 above 00005;", 3, 30);
        bad("share 5 above 99999;share 5 above 99999;", 3, 34);
        bad("share 5 above 99999;share 5 above 0;", 3, 34);
        bad("share 5 above 1;share 5 above 7;share 5 above 7;", 3, 46);
        bad("share 5 above 1;share 5 above 7;share 5 above 3;", 3, 46);
        bad("share 5 above 5;fee 1;share 5 above 5;", 3, 36);
        good("share 5 above 5;fee 1;share 5 above 6;", 3);
    }

    /** "share 3 times at most"; "4 a TERM told too often (at its WORD)". */
    private static void sharesThreeTimes() {
        String three = "share 1 above 1;share 1 above 2;share 1 above 3;";
        good(three, 3);
        bad(three + "share 1 above 4;", 4, 48);
        bad(three + "  share 1 above 4;", 4, 50);
        bad(three + "fee 1; share", 4, 55);
        bad(three + "share 101 above 1;", 4, 48);
    }

    /** "the others once"; "4 a TERM told too often (at its WORD)". */
    private static void othersOnce() {
        bad("fee 1;fee 1;", 4, 6);
        bad("fee 0;fee 0;", 4, 6);
        bad("fee 1;\nfee", 4, 7);
        bad("loss hall;loss hall;", 4, 10);
        bad("loss hall;loss both;", 4, 10);
        bad("loss both;fee 1;loss hall;", 4, 16);
        bad("subsidy 1 most 1;subsidy 1 most 1;", 4, 17);
        bad("subsidy 0 most 0;fee 1;subsidy 0 most 0;", 4, 23);
    }

    /** "FAULTS, the first along the text": one behind it is not told, of whatever kind. */
    private static void firstAlongTheText() {
        bad("fee 1;fee .", 4, 6);
        bad("share 101 ! 0;", 3, 6);
        bad("; !", 2, 0);
        bad("! ;", 1, 0);
        bad("share 5 above 5;share 5 above 5!", 3, 30);
        bad("share 101 above 0;share 102 above 0;", 3, 6);
        bad("fee fee 1a", 2, 4);
        bad("fee 1;fee 1;!", 4, 6);
        bad("loss both;loss", 4, 10);
        bad("share 101", 3, 6);
        bad("share 101x above 0;", 1, 6);
    }

    /** "of one TOKEN the least": what is no TOKEN can't come either, a NUMBER that can't come is not looked at. */
    private static void leastOfOneToken() {
        bad("! 1;", 1, 0);
        bad("fee 1 999999;", 1, 6);
        bad("loss 101;", 2, 5);
        bad("share 5 101 0;", 2, 8);
        bad("fee 5 fee", 2, 6);
        bad("share 5 above 5 99999;", 2, 16);
    }

    /** A text of 200 bytes, as many as the tape can have, and places up to its last and its end. */
    private static void fullTape() {
        good(" ".repeat(200), 0);
        good(" ".repeat(194) + "fee 1;", 1);
        good("fee 1;" + "\n".repeat(194), 1);
        bad(" ".repeat(199) + "!", 1, 199);
        bad(" ".repeat(199) + ";", 2, 199);
        bad("fee 1" + " ".repeat(195), 2, 200);
        bad(" ".repeat(195) + "fee 1", 2, 200);
        bad("a".repeat(200), 2, 0);
        bad("1".repeat(200), 1, 0);
        bad(";".repeat(200), 2, 0);
        bad("fee " + "1".repeat(196), 1, 4);
        bad(" ".repeat(191) + "share 101", 3, 197);
        bad("fee 1;" + " ".repeat(191) + "fee", 4, 197);
    }

    private static VanPlays booked() {
        VanPlays x = scheme();
        Check.wideHall(x, 0, 0);
        x.give(0, 0, 1);
        x.book(0);
        x.door(0, 0, 1000);
        return x;
    }

    private static void dueShared(String what, VanPlays x, int company, int scheme) {
        Check.due(what + ": company", x.shared(0, 0, 1), company);
        Check.due(what + ": scheme", x.shared(0, 0, 3), scheme);
    }

    /** "-1 - the place of a FAULT: they stay". */
    private static void theyStay() {
        VanPlays x = booked();
        Check.terms(x, 0, "fee 1010;share 50 above 500;subsidy 50 most 3;loss both;");
        dueShared("told", x, 1260, 3 + 129);
        String other = "fee 20;share 60 above 600;subsidy 10 most 9;loss hall;";
        for (String fault : new String[] {"!", ";", "fee", "share 101", "share 1 above 600", "sharp", "share 5"}) {
            Check.terms(x, 0, other + fault);
            Check.due("a fault", x.fault() > 0, true);
            dueShared("they stay behind " + fault, x, 1260, 3 + 129);
        }
        Check.due("without the fault", Check.terms(x, 0, other), 4);
        dueShared("new ones", x, 260, 2);
    }

    /** "What is not told: fee 0, no shares, subsidy 0 most 0, loss hall." */
    private static void notToldIsForgotten() {
        String all = "fee 1010;share 50 above 500;subsidy 50 most 3;loss both;";
        String[] without = {"share 50 above 500;subsidy 50 most 3;loss both;", "fee 1010;subsidy 50 most 3;loss both;",
            "fee 1010;share 50 above 500;loss both;", "fee 1010;share 50 above 500;subsidy 50 most 3;", ""};
        int[] company = {250, 1010, 1260, 1260, 0};
        int[] scheme = {0, 3 + 4, 130, 3, 0};
        for (int i = 0; i < without.length; i++) {
            VanPlays x = booked();
            Check.terms(x, 0, without[i]);
            dueShared("<" + without[i] + ">", x, company[i], scheme[i]);
            Check.terms(x, 0, all);
            dueShared("all", x, 1260, 3 + 129);
            Check.terms(x, 0, without[i]);
            dueShared("behind all <" + without[i] + ">", x, company[i], scheme[i]);
        }
    }

    /** "TERMS of a SHOW": those of one are not those of another. */
    private static void eachShowHasItsOwn() {
        VanPlays x = booked();
        Check.smallShow(x, 0, 0, 1, 1);
        Check.terms(x, 0, "fee 10;share 10 above 0;");
        Check.terms(x, 1, "fee 7;subsidy 50 most 50;loss both;");
        dueShared("each its own", x, 110, 0);
        Check.terms(x, 1, "!");
        dueShared("nor has its fault to do with it", x, 110, 0);
    }

    /** What was told in one text is not told too often in the next, nor counted there. */
    private static void eachReadingIsNew() {
        String all = "fee 1;share 1 above 9;share 1 above 10;share 1 above 11;subsidy 1 most 1;loss both;";
        VanPlays x = scheme();
        Check.smallShow(x, 0, 0, 1, 1);
        Check.due("the first time", Check.terms(x, 0, all), 6);
        Check.due("again", Check.terms(x, 0, all), 6);
        Check.due("of another show", Check.terms(x, 1, all), 6);
        Check.due("with a fault", Check.terms(x, 0, all + "!"), -1 - all.length());
        Check.due("behind a fault", Check.terms(x, 0, all), 6);
        Check.due("fewer", Check.terms(x, 0, "share 1 above 0;"), 1);
        Check.due("none", Check.terms(x, 0, ""), 0);
    }

    /** "-300: no such one." */
    private static void noSuchShow() {
        VanPlays x = booked();
        Check.terms(x, 0, "fee 10;");
        for (int bad : Check.outside(0, 0)) {
            Check.due("show " + bad, Check.terms(x, bad, "fee 1;"), -300);
            Check.due("a fault for show " + bad, Check.terms(x, bad, "!"), -300);
        }
        Check.due("the sixth of one", Check.terms(x, 5, "fee 1;"), -300);
        dueShared("they stay", x, 10, 0);
        VanPlays all = Check.fullScheme();
        Check.due("the last of six", Check.terms(all, 5, "fee 1;"), 1);
        Check.due("a seventh", Check.terms(all, 6, "fee 1;"), -300);
    }

    /** fault: "0 without one and ahead of any." */
    private static void faultAheadOfAny() {
        VanPlays x = new VanPlays();
        Check.due("ahead of any", x.fault(), 0);
        Check.due("no show", Check.terms(x, 0, "!"), -300);
        Check.due("ahead of any that did not tell -300", x.fault(), 0);
        Check.smallShow(x, 0, 0, 1, 1);
        Check.terms(x, 0, "fee 1;");
        Check.due("without one", x.fault(), 0);
    }

    /** fault: "The kind of the FAULT of the latest terms()". */
    private static void faultOfTheLatest() {
        VanPlays x = scheme();
        Check.smallShow(x, 0, 0, 1, 1);
        String[] texts = {"!", ";", "share 101", "fee 1;fee"};
        for (int kind = 1; kind <= 4; kind++) {
            Check.terms(x, kind % 2, texts[kind - 1]);
            Check.due("fault " + kind, x.fault(), kind);
            Check.due("fault " + kind + " again", x.fault(), kind);
        }
        Check.terms(x, 0, "fee 1;");
        Check.due("none now", x.fault(), 0);
        Check.terms(x, 0, "!");
        Check.terms(x, 1, "");
        Check.due("none of an empty text", x.fault(), 0);
    }

    /** fault: "that did not tell -300". */
    private static void faultStaysWithoutAShow() {
        VanPlays x = scheme();
        Check.terms(x, 0, "share 101");
        Check.terms(x, 1, "fee 1;");
        Check.due("a good text", x.fault(), 3);
        Check.terms(x, -1, "!");
        Check.due("another fault", x.fault(), 3);
    }

    /** "(empty then, here and below)" for terms, taken, with a fault or without such a show. */
    private static void tapeIsEmptyThen() {
        VanPlays x = scheme();
        Check.terms(x, 0, "fee 1;");
        Check.due("taken", x.count(3), 0);
        Check.terms(x, 0, "fee 1;!   ");
        Check.due("with a fault", x.count(3), 0);
        Check.terms(x, 1, "fee 1;");
        Check.due("no such show", x.count(3), 0);
    }
}
