import java.util.NoSuchElementException;

/** Rule 7: whatever the arguments, no call throws by itself, on an empty, a middling and a full scheme. */
public final class AnyArgumentsTest {
    private static final int[] ANY = {Integer.MIN_VALUE, Integer.MIN_VALUE + 1, -65536, -256, -1, 0, 1, 2, 5, 6, 8,
        11, 12, 13, 14, 99, 100, 200, 201, 255, 256, 1000000, 1000001, 65536, Integer.MAX_VALUE - 1, Integer.MAX_VALUE};
    private static final int[] FEW = {Integer.MIN_VALUE, -1, 0, 1, 13, 14, 99, 100, Integer.MAX_VALUE};

    private interface Scheme {
        VanPlays made();
    }

    public static void main(String[] args) {
        for (Scheme scheme : new Scheme[] {VanPlays::new, AnyArgumentsTest::middling, AnyArgumentsTest::full}) {
            one(scheme.made());
            two(scheme.made());
            three(scheme.made());
            halls(scheme);
            shows(scheme);
        }
        Check.close();
    }

    private static VanPlays middling() {
        VanPlays x = new VanPlays();
        Check.hall(x, 0, 0, 40, 50, 10, 5);
        Check.hall(x, 3, 4, 40, 50, 9, 6);
        Check.tape(x, 5, 5, 4);
        x.show(30, 40, 0, 4, 7, 2);
        x.give(0, 0, 6);
        x.give(1, 0, 4);
        x.book(0);
        x.door(0, 0, 500);
        return x;
    }

    private static VanPlays full() {
        VanPlays x = Check.fullScheme();
        for (int s = 0; s < 6; s++) {
            x.book(s);
            Check.terms(x, s, "fee 99999;share 100 above 0;subsidy 100 most 99999;loss both;");
            x.door(s, 0, 1000000);
        }
        return x;
    }

    /** Throws what is no NoSuchElementException on to the machine, so that the test fails. */
    private static void made(Check.Call call) {
        try {
            call.answer();
        } catch (NoSuchElementException due) {
            return;
        }
    }

    private static void one(VanPlays x) {
        for (int a : ANY) {
            x.feed(a, a, a, a, a);
            x.end(a);
            x.terms(a);
            x.fault();
            x.worth(a);
            x.sum(a);
            x.count(a);
            x.book(a);
            made(() -> x.keeps(a));
        }
    }

    private static void two(VanPlays x) {
        for (int a : ANY) {
            for (int b : ANY) {
                x.fits(a, b);
                x.lacks(a, b);
                x.on(a, b);
                x.snow(a, b);
            }
        }
    }

    private static void three(VanPlays x) {
        for (int a : ANY) {
            for (int b : ANY) {
                for (int c : ANY) {
                    x.give(a, b, c);
                    x.plugged(a, b, c);
                    x.door(a, b, c);
                    made(() -> x.shared(a, b, c));
                    x.feed(a, b, c, a, b);
                    x.end(2);
                    x.rewire(a, b, c);
                }
            }
        }
    }

    private static void halls(Scheme scheme) {
        VanPlays x = scheme.made();
        for (int a : FEW) {
            for (int b : FEW) {
                x.feed(a, b, 0, 0, 0);
                x.end(4);
                x.hall(a, b, 5, 5);
                x.feed(0x01ff01ff, b, 0, 0, 0);
                x.end(4);
                x.hall(5, 5, a, b);
                x.book(a);
            }
        }
    }

    private static void shows(Scheme scheme) {
        for (int a : FEW) {
            VanPlays x = scheme.made();
            for (int b : FEW) {
                for (int c : FEW) {
                    x.show(a, 5, b, c, 5, 5);
                    x.show(5, 5, 0, a, b, c);
                    x.show(5, a, b, 13, c, 5);
                    x.book(c);
                }
            }
        }
    }
}
