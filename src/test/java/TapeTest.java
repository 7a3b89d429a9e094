/** Promises 1 (a new object), 2 (feed), 3 (end) and 21 (count). */
public final class TapeTest {
    public static void main(String[] args) {
        newObject();
        newObjectKnowsNothing();
        objectsAreApart();
        feedHighestFirst();
        feedBehindTheTape();
        feedUpToFull();
        feedBeyondFull();
        noneComeBeyondFull();
        endKeepsTheFirst();
        endAtAllAndNone();
        endOfTooMany();
        endBelowNone();
        endedBytesAreGone();
        counts();
        countOfAllThereCanBe();
        countOfAnotherWhat();
        atMost512Calls();
        Check.close();
    }

    /** "No HALLS, SHOWS, TOURS, DOORS; an empty tape." */
    private static void newObject() {
        VanPlays x = new VanPlays();
        for (int what = 0; what < 4; what++) {
            Check.due("new: count(" + what + ")", x.count(what), 0);
        }
        for (int what = 0; what < 5; what++) {
            Check.due("new: sum(" + what + ")", x.sum(what), 0);
        }
        Check.due("new: fault", x.fault(), 0);
        Check.due("new: no byte to keep", x.end(1), false);
    }

    /** "No HALLS, SHOWS, TOURS, DOORS": each call that names one is refused. */
    private static void newObjectKnowsNothing() {
        VanPlays x = new VanPlays();
        Check.tape(x, 1);
        Check.due("new: rewire", x.rewire(0, 1, 1), false);
        Check.due("new: fits", x.fits(0, 0), -3);
        Check.due("new: plugged", x.plugged(0, 0, 0), -1);
        Check.due("new: lacks", x.lacks(0, 0), -1);
        Check.due("new: on", x.on(0, 0), -1);
        Check.due("new: worth", x.worth(0), -1);
        Check.due("new: book", x.book(0), -1);
        Check.due("new: snow", x.snow(0, 0), -1);
        Check.due("new: terms", x.terms(0), -300);
        Check.due("new: give", x.give(0, 0, 1), false);
        Check.due("new: door", x.door(0, 0, 1), false);
        Check.dueThrow("new: keeps", () -> x.keeps(0));
        Check.dueThrow("new: shared", () -> x.shared(0, 0, 0));
    }

    /** A new object is new also when another one is in use. */
    private static void objectsAreApart() {
        VanPlays used = new VanPlays();
        Check.wideHall(used, 0, 0);
        Check.smallShow(used, 0, 13, 1, 1);
        used.give(0, 0, 1);
        used.book(0);
        used.door(0, 0, 5);
        Check.terms(used, 0, "!");
        used.feed(1, 1, 1, 1, 1);
        newObject();
        newObjectKnowsNothing();
        Check.due("used: doors", used.sum(4), 1);
        Check.due("used: tape", used.count(3), 20);
        Check.due("used: fault", used.fault(), 1);
    }

    /** "of each number the highest first": a text of twenty signs tells of each of them where it is. */
    private static void feedHighestFirst() {
        String text = "fee 12345;loss both;";
        VanPlays x = new VanPlays();
        Check.smallShow(x, 0, 0, 1, 1);
        Check.wideHall(x, 0, 0);
        x.give(0, 0, 1);
        x.book(0);
        x.door(0, 0, 1);
        int[] bytes = Check.bytesOf(text);
        Check.due("feed", x.feed(Check.number(bytes, 0), Check.number(bytes, 4), Check.number(bytes, 8),
                Check.number(bytes, 12), Check.number(bytes, 16)), 20);
        Check.due("terms of twenty bytes", x.terms(0), 2);
        Check.due("the fee", x.shared(0, 0, 1), 12345);
        Check.due("the loss", x.shared(0, 0, 3), 6172);
        x.feed(0x80ff0000, 0, 0, 0, 0);
        x.end(2);
        x.hall(0, 0, 0, 0);
        Check.show(x, 0, 0, 255, 128);
        Check.due("the lamp of 255", x.plugged(1, 1, 0), 1);
        Check.due("the lamp of 128", x.plugged(1, 1, 1), 0);
        x.feed(-1, 0, 0, 0, 0);
        x.end(4);
        Check.due("-1 is four times 255", x.hall(0, 0, 0, 0), 2);
    }

    /** "Twenty bytes come behind the tape": behind what it has, whole or ended. */
    private static void feedBehindTheTape() {
        VanPlays x = new VanPlays();
        Check.smallShow(x, 0, 0, 1, 1);
        x.feed(0x20202020, 0x20202020, 0x20202020, 0x20202020, 0x20666565);
        Check.due("twenty more", x.feed(0x20313b20, 0x20202020, 0x20202020, 0x20202020, 0x20202020), 40);
        Check.due("fee in the one, its number in the other", x.terms(0), 1);
        x.feed(0x66656520, 0x39000000, 0, 0, 0);
        x.end(5);
        Check.due("behind five", x.feed(0x3b202020, 0x20202020, 0x20202020, 0x20202020, 0x20202020), 25);
        Check.due("fee 9;", x.terms(0), 1);
    }

    /** "how many it has": up to 200 in steps of twenty, and from 180 just to 200. */
    private static void feedUpToFull() {
        VanPlays x = new VanPlays();
        for (int i = 1; i <= 10; i++) {
            Check.due("feed", x.feed(i, i, i, i, i), 20 * i);
            Check.due("count(3)", x.count(3), 20 * i);
        }
        x.end(180);
        Check.due("feed from 180", x.feed(1, 1, 1, 1, 1), 200);
        x.end(179);
        Check.due("feed from 179", x.feed(1, 1, 1, 1, 1), 199);
    }

    /** "NONE, and none come, if it would have more than 200." */
    private static void feedBeyondFull() {
        for (int length : new int[] {181, 182, 199, 200}) {
            VanPlays x = full();
            x.end(length);
            Check.due("feed from " + length, x.feed(1, 1, 1, 1, 1), -1);
            Check.due("count(3) from " + length, x.count(3), length);
            Check.due("feed again from " + length, x.feed(1, 1, 1, 1, 1), -1);
            Check.due("count(3) again from " + length, x.count(3), length);
        }
    }

    /** "none come": neither over the bytes that are there nor behind them. */
    private static void noneComeBeyondFull() {
        VanPlays x = full();
        x.end(181);
        x.feed(-1, -1, -1, -1, -1);
        Check.due("181 blanks", x.terms(0), 0);
        x = full();
        x.feed(-1, -1, -1, -1, -1);
        Check.due("200 blanks", x.terms(0), 0);
    }

    private static VanPlays full() {
        VanPlays x = new VanPlays();
        Check.smallShow(x, 0, 0, 1, 1);
        for (int i = 0; i < 10; i++) {
            x.feed(0x20202020, 0x20202020, 0x20202020, 0x20202020, 0x20202020);
        }
        return x;
    }

    /** "The tape has its first n bytes alone: true". */
    private static void endKeepsTheFirst() {
        for (int n = 1; n <= 8; n++) {
            VanPlays x = new VanPlays();
            x.feed(0x01020304, 0x050607ff, 0x11121314, 0x15161718, 0x191a1b1c);
            Check.due("end(" + n + ")", x.end(n), true);
            Check.due("count(3) behind end(" + n + ")", x.count(3), n);
            Check.due("a show of " + n + " lamps", x.show(0, 0, 0, 0, 1, 1), 0);
            Check.hall(x, 0, 0, 0, 0, 1);
            Check.due("lacks with " + n + " lamps", x.lacks(0, 0), (n < 8 ? n * (n + 1) / 2 : 28 + 255) - 1);
        }
    }

    /** "its first n bytes": all of them, none of them, and none of an empty tape. */
    private static void endAtAllAndNone() {
        VanPlays x = new VanPlays();
        Check.due("end(0) of an empty tape", x.end(0), true);
        x.feed(1, 1, 1, 1, 1);
        Check.due("end(20) of 20", x.end(20), true);
        Check.due("all are there", x.count(3), 20);
        Check.due("end(0) of 20", x.end(0), true);
        Check.due("none is there", x.count(3), 0);
        x = full();
        Check.due("end(200) of 200", x.end(200), true);
        Check.due("all 200 are there", x.count(3), 200);
    }

    /** "false, if it has not so many". */
    private static void endOfTooMany() {
        VanPlays x = new VanPlays();
        Check.due("end(1) of an empty tape", x.end(1), false);
        x.feed(1, 1, 1, 1, 1);
        for (int n : new int[] {21, 200, 256, 276, 65536, Integer.MAX_VALUE}) {
            Check.due("end(" + n + ") of 20", x.end(n), false);
            Check.due("20 are there", x.count(3), 20);
        }
        x = full();
        Check.due("end(201) of 200", x.end(201), false);
        Check.due("200 are there", x.count(3), 200);
    }

    /** "or n is below 0". */
    private static void endBelowNone() {
        VanPlays x = new VanPlays();
        Check.due("end(-1) of an empty tape", x.end(-1), false);
        x.feed(1, 1, 1, 1, 1);
        for (int n : new int[] {-1, -20, -236, -256, Integer.MIN_VALUE, Integer.MIN_VALUE + 5}) {
            Check.due("end(" + n + ")", x.end(n), false);
            Check.due("20 are there", x.count(3), 20);
        }
    }

    /** "its first n bytes alone": what was behind them does not come again. */
    private static void endedBytesAreGone() {
        VanPlays x = new VanPlays();
        x.feed(0x05060708, 0, 0, 0, 0);
        x.end(1);
        Check.due("no more than one", x.end(2), false);
        x.feed(0x09000000, 0, 0, 0, 0);
        x.end(2);
        x.hall(0, 0, 0, 0);
        Check.show(x, 0, 0, 9, 5);
        Check.due("5 and 9", x.plugged(0, 0, 0), 1);
        Check.due("5 and 9", x.plugged(0, 0, 1), 0);
    }

    /** "0 HALLS, 1 SHOWS, 2 NIGHTS on TOURS, 3 bytes of the tape." */
    private static void counts() {
        VanPlays x = new VanPlays();
        Check.wideHall(x, 0, 0);
        Check.wideHall(x, 1, 1);
        Check.wideHall(x, 2, 2);
        Check.smallShow(x, 0, 3, 10, 14);
        Check.smallShow(x, 0, 3, 10, 14);
        x.give(0, 0, 1);
        x.give(1, 0, 1);
        x.give(2, 1, 1);
        Check.due("count(2) before any booking", x.count(2), 0);
        x.book(0);
        x.book(1);
        x.feed(1, 2, 3, 4, 5);
        Check.due("count(0)", x.count(0), 3);
        Check.due("count(1)", x.count(1), 2);
        Check.due("count(2)", x.count(2), 3);
        Check.due("count(3)", x.count(3), 20);
    }

    /** The same with all that there can be: 12 HALLS, 6 SHOWS, six NIGHTS on each TOUR, 200 bytes. */
    private static void countOfAllThereCanBe() {
        VanPlays x = Check.fullScheme();
        for (int s = 0; s < 6; s++) {
            Check.due("book " + s, x.book(s), 6);
        }
        for (int i = 0; i < 10; i++) {
            x.feed(0, 0, 0, 0, 0);
        }
        Check.due("all halls", x.count(0), 12);
        Check.due("all shows", x.count(1), 6);
        Check.due("all nights", x.count(2), 36);
        Check.due("all bytes", x.count(3), 200);
    }

    /** "NONE for another what." */
    private static void countOfAnotherWhat() {
        VanPlays x = new VanPlays();
        for (int bad : Check.outside(0, 3)) {
            Check.due("count(" + bad + ")", x.count(bad), -1);
        }
    }

    /** "An object is used for at most 512 calls": up to the last of them it answers, and later ones end, too. */
    private static void atMost512Calls() {
        VanPlays x = new VanPlays();
        for (int call = 1; call <= 510; call += 2) {
            Check.due("call " + call, x.feed(call, 0, 0, 0, 0), 20);
            Check.due("call " + (call + 1), x.end(0), true);
        }
        Check.due("call 511", x.feed(1, 0, 0, 0, 0), 20);
        Check.due("call 512", x.count(3), 20);
        for (int call = 513; call < 2000; call++) {
            x.feed(call, call, call, call, call);
            x.book(call % 7);
        }
    }
}
