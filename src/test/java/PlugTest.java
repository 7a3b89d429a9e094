import java.util.Random;

/** Promises 8 (fits), 9 (plugged) and 10 (lacks). */
public final class PlugTest {
    public static void main(String[] args) {
        notAsHigh();
        notAsWide();
        notPlugged();
        firstReasonTold();
        fitsNoSuchOnes();
        fullCircuits();
        firstWay();
        noLampsAtAll();
        eachSearchIsNew();
        pluggedNoSuchOnes();
        pluggedNoSuchLamp();
        cannotBePlugged();
        pluggedLooksAtNoSize();
        lacking();
        lacksNothing();
        lacksTheMost();
        lacksNoSuchOnes();
        allThereCanBe();
        againstAllWays();
        Check.close();
    }

    private static int fitOf(int high, int wide, int amps) {
        VanPlays x = new VanPlays();
        Check.show(x, 50, 60, 9);
        Check.hall(x, 0, 0, high, wide, amps);
        return x.fits(0, 0);
    }

    /** "0 that is not as HIGH": as HIGH at least is enough. */
    private static void notAsHigh() {
        Check.due("as high", fitOf(50, 60, 9), 1);
        Check.due("higher", fitOf(51, 60, 9), 1);
        Check.due("one lower", fitOf(49, 60, 9), 0);
        Check.due("the highest", fitOf(99, 60, 9), 1);
        Check.due("the lowest", fitOf(0, 60, 9), 0);
    }

    /** "-1 not as WIDE": as WIDE at least is enough. */
    private static void notAsWide() {
        Check.due("wider", fitOf(50, 61, 9), 1);
        Check.due("one narrower", fitOf(50, 59, 9), -1);
        Check.due("the widest", fitOf(50, 99, 9), 1);
        Check.due("the narrowest", fitOf(50, 0, 9), -1);
    }

    /** "-2 its LAMPS can't be PLUGGED". */
    private static void notPlugged() {
        Check.due("more amps", fitOf(50, 60, 10), 1);
        Check.due("one too few", fitOf(50, 60, 8), -2);
        Check.due("the most", fitOf(50, 60, 255), 1);
        Check.due("the fewest", fitOf(50, 60, 1), -2);
    }

    /** "else the first of these". */
    private static void firstReasonTold() {
        Check.due("height ahead of all", fitOf(49, 59, 8), 0);
        Check.due("height ahead of width", fitOf(49, 59, 9), 0);
        Check.due("height ahead of lamps", fitOf(49, 60, 8), 0);
        Check.due("width ahead of lamps", fitOf(50, 59, 8), -1);
    }

    /** "-3: no such ones." */
    private static void fitsNoSuchOnes() {
        VanPlays x = oneOfEach();
        for (int bad : Check.outside(0, 0)) {
            Check.due("fits, show " + bad, x.fits(bad, 0), -3);
            Check.due("fits, hall " + bad, x.fits(0, bad), -3);
            Check.due("fits, neither " + bad, x.fits(bad, bad), -3);
        }
        Check.due("fits, the sixth of one", x.fits(5, 0), -3);
        Check.due("fits, the twelfth of one", x.fits(0, 11), -3);
    }

    private static VanPlays oneOfEach() {
        VanPlays x = new VanPlays();
        Check.hall(x, 0, 0, 9, 9, 10);
        Check.show(x, 0, 0, 1, 1);
        return x;
    }

    /** "so that in none are more AMPS than it has": just as many may be. */
    private static void fullCircuits() {
        VanPlays x = new VanPlays();
        Check.show(x, 0, 0, 4, 6);
        Check.hall(x, 0, 0, 9, 9, 10);
        Check.hall(x, 0, 0, 9, 9, 9);
        Check.due("a full circuit", x.fits(0, 0), 1);
        Check.due("one too few", x.fits(0, 1), -2);
        Check.show(x, 0, 0, 127, 127, 127, 127, 127, 127, 127, 127);
        Check.hall(x, 0, 0, 9, 9, 254, 254, 254, 254);
        Check.hall(x, 0, 0, 9, 9, 254, 254, 254, 253);
        Check.due("four full circuits", x.fits(1, 2), 1);
        for (int l = 0; l < 8; l++) {
            Check.due("lamp " + l + " in four full circuits", x.plugged(1, 2, l), l / 2);
        }
        Check.due("the last has one too few", x.fits(1, 3), -2);
        Check.due("so much it lacks", x.lacks(1, 3), 1);
    }

    private static void dueWay(String what, int[] lamps, int[] circuits, int... way) {
        VanPlays x = new VanPlays();
        Check.show(x, 0, 0, lamps);
        Check.hall(x, 0, 0, 9, 9, circuits);
        for (int l = 0; l < lamps.length; l++) {
            Check.due(what + ", lamp " + l, x.plugged(0, 0, l), way[l]);
        }
    }

    /** "of all ways the first: LAMP by LAMP the least CIRCUIT that may be." */
    private static void firstWay() {
        dueWay("both of 3 and the 4 in circuit 0", new int[] {3, 3, 4, 6}, new int[] {10, 6}, 0, 0, 0, 1);
        dueWay("of like circuits the lesser", new int[] {5, 4, 6}, new int[] {5, 5, 10}, 0, 1, 2);
        dueWay("not the least that has room, but the least that may be", new int[] {3, 6}, new int[] {6, 3}, 1, 0);
        dueWay("the last circuit alone", new int[] {9}, new int[] {1, 1, 1, 9}, 3);
        dueWay("a way back over all lamps", new int[] {2, 2, 2, 5}, new int[] {5, 6}, 1, 1, 1, 0);
        dueWay("eight in one", new int[] {1, 1, 1, 1, 1, 1, 1, 1}, new int[] {8}, 0, 0, 0, 0, 0, 0, 0, 0);
    }

    /** "LAMPS (0 to 8)": none are PLUGGED anywhere. */
    private static void noLampsAtAll() {
        VanPlays x = new VanPlays();
        Check.show(x, 0, 0);
        Check.hall(x, 0, 0, 0, 0, 1);
        Check.due("no lamps fit", x.fits(0, 0), 1);
        Check.due("no lamps lack nothing", x.lacks(0, 0), 0);
        Check.due("no lamps, no circuit", x.plugged(0, 0, 0), -1);
    }

    /** Nothing of a SHOW with many great LAMPS is left for one with few small ones. */
    private static void eachSearchIsNew() {
        VanPlays x = new VanPlays();
        Check.hall(x, 0, 0, 9, 9, 5, 5);
        Check.show(x, 0, 0, 200, 200, 200, 200, 200, 200, 200, 200);
        Check.show(x, 0, 0, 5, 5);
        Check.show(x, 0, 0);
        Check.due("the great ones", x.fits(0, 0), -2);
        Check.due("the small ones behind them", x.fits(1, 0), 1);
        Check.due("the great ones lack", x.lacks(0, 0), 1590);
        Check.due("the small ones lack nothing", x.lacks(1, 0), 0);
        Check.due("none behind the great ones", x.lacks(0, 0) - x.lacks(2, 0), 1590);
        Check.due("the second of two", x.plugged(1, 0, 1), 1);
    }

    /** plugged: "NONE: no such ones" of SHOWS and HALLS. */
    private static void pluggedNoSuchOnes() {
        VanPlays x = oneOfEach();
        for (int bad : Check.outside(0, 0)) {
            Check.due("plugged, show " + bad, x.plugged(bad, 0, 0), -1);
            Check.due("plugged, hall " + bad, x.plugged(0, bad, 0), -1);
        }
        Check.due("plugged, the sixth of one", x.plugged(5, 0, 0), -1);
        Check.due("plugged, the twelfth of one", x.plugged(0, 11, 0), -1);
    }

    /** plugged: "NONE: no such ones" of LAMPS, also where the search ahead was of a SHOW with more of them. */
    private static void pluggedNoSuchLamp() {
        VanPlays x = oneOfEach();
        Check.show(x, 0, 0, 1, 1, 1, 1, 1, 1, 1, 1);
        Check.due("the last of eight", x.plugged(1, 0, 7), 0);
        Check.due("the ninth of eight", x.plugged(1, 0, 8), -1);
        Check.due("the last of two", x.plugged(0, 0, 1), 0);
        Check.due("the third of two", x.plugged(0, 0, 2), -1);
        for (int bad : Check.outside(0, 1)) {
            Check.due("plugged, lamp " + bad, x.plugged(0, 0, bad), -1);
        }
    }

    /** plugged: "or they can't be", for each LAMP, also one that alone could be. */
    private static void cannotBePlugged() {
        VanPlays x = new VanPlays();
        Check.show(x, 0, 0, 1, 9, 1);
        Check.hall(x, 0, 0, 9, 9, 8, 8);
        for (int l = 0; l < 3; l++) {
            Check.due("lamp " + l, x.plugged(0, 0, l), -1);
        }
    }

    /** PLUGGED is told of CIRCUITS alone: neither plugged nor lacks looks at HIGH and WIDE. */
    private static void pluggedLooksAtNoSize() {
        VanPlays x = new VanPlays();
        Check.show(x, 50, 60, 9);
        Check.hall(x, 0, 0, 0, 0, 9);
        Check.hall(x, 0, 0, 0, 0, 8);
        Check.due("too low", x.fits(0, 0), 0);
        Check.due("plugged all the same", x.plugged(0, 0, 0), 0);
        Check.due("nothing lacks", x.lacks(0, 0), 0);
        Check.due("one lacks", x.lacks(0, 1), 1);
    }

    /** "so that that is least". */
    private static void lacking() {
        VanPlays x = new VanPlays();
        Check.hall(x, 0, 0, 9, 9, 10);
        Check.hall(x, 0, 0, 9, 9, 10, 10);
        Check.show(x, 0, 0, 7, 7, 7);
        Check.due("one circuit", x.lacks(0, 0), 11);
        Check.due("two circuits", x.lacks(0, 1), 4);
        Check.show(x, 0, 0, 6, 6, 6);
        Check.due("enough in all, but not so cut", x.lacks(1, 1), 2);
    }

    /** "0, if they can be PLUGGED": a full hall lacks 0, one with an AMP less lacks 1. */
    private static void lacksNothing() {
        VanPlays x = new VanPlays();
        Check.show(x, 0, 0, 3, 6);
        Check.hall(x, 0, 0, 9, 9, 6, 3);
        Check.hall(x, 0, 0, 9, 9, 5, 3);
        Check.hall(x, 0, 0, 9, 9, 6, 2);
        Check.due("just full", x.lacks(0, 0), 0);
        Check.due("one less in the first", x.lacks(0, 1), 1);
        Check.due("one less in the other", x.lacks(0, 2), 1);
    }

    /** "How many AMPS more": the most that there can be. */
    private static void lacksTheMost() {
        VanPlays x = new VanPlays();
        Check.show(x, 0, 0, 255, 255, 255, 255, 255, 255, 255, 255);
        Check.hall(x, 0, 0, 9, 9, 1);
        Check.hall(x, 0, 0, 9, 9, 1, 1, 1, 1);
        Check.hall(x, 0, 0, 9, 9, 255, 255, 255, 255);
        Check.due("one circuit of 1", x.lacks(0, 0), 8 * 255 - 1);
        Check.due("four circuits of 1", x.lacks(0, 1), 8 * 255 - 4);
        Check.due("four circuits of 255", x.lacks(0, 2), 4 * 255);
    }

    /** lacks: "NONE: no such ones." */
    private static void lacksNoSuchOnes() {
        VanPlays x = oneOfEach();
        for (int bad : Check.outside(0, 0)) {
            Check.due("lacks, show " + bad, x.lacks(bad, 0), -1);
            Check.due("lacks, hall " + bad, x.lacks(0, bad), -1);
        }
        Check.due("lacks, the sixth of one", x.lacks(5, 0), -1);
        Check.due("lacks, the twelfth of one", x.lacks(0, 11), -1);
    }

    /** "HALLS 0 .. 11", "SHOWS 0 .. 5": the last of each are such ones, the next are not. */
    private static void allThereCanBe() {
        VanPlays x = Check.fullScheme();
        Check.due("fits, the last", x.fits(5, 11), 1);
        Check.due("lacks, the last", x.lacks(5, 11), 0);
        Check.due("fits, a seventh", x.fits(6, 11), -3);
        Check.due("fits, a thirteenth", x.fits(5, 12), -3);
        Check.due("lacks, a seventh", x.lacks(6, 11), -1);
        Check.due("lacks, a thirteenth", x.lacks(5, 12), -1);
        Check.due("plugged, a seventh", x.plugged(6, 11, 0), -1);
        Check.due("plugged, a thirteenth", x.plugged(5, 12, 0), -1);
    }

    private static void againstAllWays() {
        Random random = new Random(7);
        for (int round = 0; round < 1500; round++) {
            int[] lamps = amps(random, random.nextInt(9), 1 + random.nextInt(20));
            int[] circuits = amps(random, 1 + random.nextInt(4), 1 + random.nextInt(60));
            VanPlays x = new VanPlays();
            Check.show(x, 0, 0, lamps);
            Check.hall(x, 0, 0, 0, 0, circuits);
            int[] first = PlainScheme.firstWay(lamps, circuits);
            int least = PlainScheme.leastLack(lamps, circuits);
            Check.due("round " + round + ": fits", x.fits(0, 0), first == null ? -2 : 1);
            Check.due("round " + round + ": lacks", x.lacks(0, 0), least);
            for (int l = 0; l < lamps.length; l++) {
                Check.due("round " + round + ": lamp " + l, x.plugged(0, 0, l), first == null ? -1 : first[l]);
            }
        }
    }

    private static int[] amps(Random random, int size, int most) {
        int[] amps = new int[size];
        for (int i = 0; i < size; i++) {
            amps[i] = 1 + random.nextInt(most);
        }
        return amps;
    }
}
