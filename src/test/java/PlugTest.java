import java.util.Random;

/** Promises 8 (fits), 9 (plugged) and 10 (lacks). */
public final class PlugTest {
    public static void main(String[] args) {
        sizes();
        firstWay();
        lacking();
        noSuchOnes();
        againstAllWays();
        Check.close();
    }

    private static void sizes() {
        VanPlays x = new VanPlays();
        Check.show(x, 50, 60, 9);
        Check.hall(x, 0, 0, 50, 60, 9);
        Check.hall(x, 0, 0, 49, 59, 8);
        Check.hall(x, 0, 0, 50, 59, 8);
        Check.hall(x, 0, 0, 50, 60, 8);
        Check.hall(x, 0, 0, 99, 99, 255);
        Check.due("just fits", x.fits(0, 0), 1);
        Check.due("height is looked at first", x.fits(0, 1), 0);
        Check.due("width is looked at next", x.fits(0, 2), -1);
        Check.due("lamps are looked at last", x.fits(0, 3), -2);
        Check.due("more than enough", x.fits(0, 4), 1);
        Check.due("lacks looks at no size", x.lacks(0, 1), 1);
        Check.due("plugged looks at no size", x.plugged(0, 1, 0), -1);
        Check.hall(x, 0, 0, 0, 0, 9);
        Check.due("too low", x.fits(0, 5), 0);
        Check.due("plugged all the same", x.plugged(0, 5, 0), 0);
        Check.due("nothing lacks", x.lacks(0, 5), 0);
    }

    private static void firstWay() {
        VanPlays x = new VanPlays();
        Check.show(x, 0, 0, 3, 3, 4, 6);
        Check.hall(x, 0, 0, 9, 9, 10, 6);
        // With both lamps of 3 in circuit 0 the 6 goes to circuit 1 and the 4 to circuit 0.
        int[] due = {0, 0, 0, 1};
        for (int l = 0; l < 4; l++) {
            Check.due("lamp " + l, x.plugged(0, 0, l), due[l]);
        }
        Check.show(x, 0, 0, 5, 4, 6);
        Check.hall(x, 0, 0, 9, 9, 5, 5, 10);
        int[] wanted = {0, 1, 2};
        for (int l = 0; l < 3; l++) {
            Check.due("of like circuits the lesser, lamp " + l, x.plugged(1, 1, l), wanted[l]);
        }
        Check.show(x, 0, 0);
        Check.due("no lamps fit", x.fits(2, 0), 1);
        Check.due("no lamps lack nothing", x.lacks(2, 0), 0);
        Check.due("no lamps, no circuit", x.plugged(2, 0, 0), -1);
    }

    private static void lacking() {
        VanPlays x = new VanPlays();
        Check.hall(x, 0, 0, 9, 9, 10);
        Check.hall(x, 0, 0, 9, 9, 10, 10);
        Check.show(x, 0, 0, 7, 7, 7);
        Check.due("one circuit", x.lacks(0, 0), 11);
        Check.due("two circuits", x.lacks(0, 1), 4);
        Check.show(x, 0, 0, 6, 6, 6);
        Check.due("enough in all, but not so cut", x.lacks(1, 1), 2);
        Check.show(x, 0, 0, 255, 255, 255, 255, 255, 255, 255, 255);
        Check.due("the most lamps", x.lacks(2, 0), 8 * 255 - 10);
        Check.due("a single lamp lacks", x.plugged(2, 0, 0), -1);
    }

    private static void noSuchOnes() {
        VanPlays x = new VanPlays();
        Check.hall(x, 0, 0, 9, 9, 10);
        Check.show(x, 0, 0, 1, 1);
        for (int bad : new int[] {-1, 1, 6, 12, Integer.MIN_VALUE, Integer.MAX_VALUE}) {
            Check.due("fits, show " + bad, x.fits(bad, 0), -3);
            Check.due("fits, hall " + bad, x.fits(0, bad), -3);
            Check.due("plugged, show " + bad, x.plugged(bad, 0, 0), -1);
            Check.due("plugged, hall " + bad, x.plugged(0, bad, 0), -1);
            Check.due("lacks, show " + bad, x.lacks(bad, 0), -1);
            Check.due("lacks, hall " + bad, x.lacks(0, bad), -1);
        }
        for (int bad : new int[] {-1, 2, 8, Integer.MIN_VALUE, Integer.MAX_VALUE}) {
            Check.due("plugged, lamp " + bad, x.plugged(0, 0, bad), -1);
        }
        Check.due("plugged, the last lamp", x.plugged(0, 0, 1), 0);
    }

    private static void againstAllWays() {
        Random random = new Random(7);
        for (int round = 0; round < 1500; round++) {
            int[] lamps = amps(random, random.nextInt(9), 1 + random.nextInt(20));
            int[] circuits = amps(random, 1 + random.nextInt(4), 1 + random.nextInt(60));
            VanPlays x = new VanPlays();
            Check.show(x, 0, 0, lamps);
            Check.hall(x, 0, 0, 0, 0, circuits);
            int[] first = PlainScheme.firstWay(lamps, circuits);
            int least = PlainScheme.leastLack(lamps, circuits);
            Check.due("round " + round + ": fits", x.fits(0, 0), first == null ? -2 : 1);
            Check.due("round " + round + ": lacks", x.lacks(0, 0), least);
            for (int l = 0; l < lamps.length; l++) {
                Check.due("round " + round + ": lamp " + l, x.plugged(0, 0, l), first == null ? -1 : first[l]);
            }
        }
    }

    private static int[] amps(Random random, int size, int most) {
        int[] amps = new int[size];
        for (int i = 0; i < size; i++) {
            amps[i] = 1 + random.nextInt(most);
        }
        return amps;
    }
}
