/** Promises 1 (a new object), 2 (feed), 3 (end) and 21 (count). */
public final class TapeTest {
    public static void main(String[] args) {
        newObject();
        feedAndEnd();
        orderOfBytes();
        counts();
        Check.close();
    }

    private static void newObject() {
        VanPlays x = new VanPlays();
        for (int what = 0; what < 4; what++) {
            Check.due("new: count(" + what + ")", x.count(what), 0);
        }
        for (int what = 0; what < 5; what++) {
            Check.due("new: sum(" + what + ")", x.sum(what), 0);
        }
        Check.due("new: fault", x.fault(), 0);
        Check.due("new: fits", x.fits(0, 0), -3);
        Check.due("new: on", x.on(0, 0), -1);
        Check.due("new: worth", x.worth(0), -1);
        Check.due("new: book", x.book(0), -1);
        Check.due("new: snow", x.snow(0, 0), -1);
        Check.due("new: terms", x.terms(0), -300);
        Check.due("new: give", x.give(0, 0, 1), false);
        Check.due("new: door", x.door(0, 0, 1), false);
        Check.dueThrow("new: keeps", () -> x.keeps(0));
        Check.dueThrow("new: shared", () -> x.shared(0, 0, 0));
    }

    private static void feedAndEnd() {
        VanPlays x = new VanPlays();
        Check.due("end(0) of an empty tape", x.end(0), true);
        Check.due("end(1) of an empty tape", x.end(1), false);
        for (int i = 1; i <= 10; i++) {
            Check.due("feed", x.feed(i, i, i, i, i), 20 * i);
        }
        Check.due("feed beyond 200", x.feed(1, 1, 1, 1, 1), -1);
        Check.due("count(3) of a full tape", x.count(3), 200);
        Check.due("end(201)", x.end(201), false);
        Check.due("end(-1)", x.end(-1), false);
        Check.due("end(least)", x.end(Integer.MIN_VALUE), false);
        Check.due("end(most)", x.end(Integer.MAX_VALUE), false);
        Check.due("count(3) is as it was", x.count(3), 200);
        Check.due("end(200)", x.end(200), true);
        Check.due("end(181)", x.end(181), true);
        Check.due("feed to 201", x.feed(1, 1, 1, 1, 1), -1);
        Check.due("count(3) at 181", x.count(3), 181);
        Check.due("end(180)", x.end(180), true);
        Check.due("feed to 200", x.feed(1, 1, 1, 1, 1), 200);
        Check.due("end(0)", x.end(0), true);
        Check.due("count(3) of an ended tape", x.count(3), 0);
    }

    /** Eight lamps take each place of two numbers, and the circuit that a lamp gets tells its amps. */
    private static void orderOfBytes() {
        VanPlays x = new VanPlays();
        x.feed(0x01020304, 0x050607ff, 0, 0, 0);
        x.end(8);
        Check.due("show of eight lamps", x.show(0, 0, 0, 0, 1, 1), 0);
        for (int lamp = 1; lamp <= 8; lamp++) {
            int total = lamp < 8 ? lamp : 255;
            VanPlays y = new VanPlays();
            y.feed(0x01020304, 0x050607ff, 0x11121314, 0x15161718, 0x191a1b1c);
            y.end(lamp);
            y.show(0, 0, 0, 0, 1, 1);
            int sum = lamp < 8 ? lamp * (lamp + 1) / 2 : 28 + 255;
            Check.hall(y, 0, 0, 0, 0, 1);
            Check.due("lacks with lamps up to " + total, y.lacks(0, 0), sum - 1);
        }
        VanPlays z = new VanPlays();
        z.feed(0, 0, 0, 0, 0x00000009);
        z.end(20);
        z.feed(0x07000000, 0, 0, 0, 0);
        z.end(21);
        Check.due("a tape with 0 in it", z.hall(0, 0, 0, 0), -1);
        z.feed(0x80ff0000, 0, 0, 0, 0);
        z.end(2);
        z.hall(0, 0, 0, 0);
        Check.show(z, 0, 0, 255, 128);
        Check.due("a negative number's bytes", z.lacks(0, 0), 0);
        Check.due("the lamp of 255", z.plugged(0, 0, 0), 1);
        Check.due("the lamp of 128", z.plugged(0, 0, 1), 0);
    }

    private static void counts() {
        VanPlays x = new VanPlays();
        Check.wideHall(x, 0, 0);
        Check.wideHall(x, 1, 1);
        Check.wideHall(x, 2, 2);
        Check.smallShow(x, 0, 3, 10, 14);
        Check.smallShow(x, 0, 3, 10, 14);
        x.give(0, 0, 1);
        x.give(1, 0, 1);
        x.give(2, 1, 1);
        Check.due("count(2) before any booking", x.count(2), 0);
        x.book(0);
        x.book(1);
        x.feed(1, 2, 3, 4, 5);
        Check.due("count(0)", x.count(0), 3);
        Check.due("count(1)", x.count(1), 2);
        Check.due("count(2)", x.count(2), 3);
        Check.due("count(3)", x.count(3), 20);
        Check.due("count(4)", x.count(4), -1);
        Check.due("count(-1)", x.count(-1), -1);
        Check.due("count(least)", x.count(Integer.MIN_VALUE), -1);
        Check.due("count(most)", x.count(Integer.MAX_VALUE), -1);
    }
}
