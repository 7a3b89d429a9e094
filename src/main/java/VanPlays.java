import java.util.Arrays;
import java.util.NoSuchElementException;

/** A scheme that sends plays by van to village halls; see README.md. */
public final class VanPlays {
    public static final int NONE = -1;

    private static final int MOST_HALLS = 12;
    private static final int MOST_SHOWS = 6;
    private static final int MOST_CIRCUITS = 4;
    private static final int MOST_LAMPS = 8;
    private static final int MOST_ASKED = 6;
    private static final int MOST_SHARES = 3;
    private static final int NIGHTS = 14;
    private static final int MOST_BYTES = 200;
    private static final int BYTES_FED = 20;
    private static final int MOST_PLACE = 99;
    private static final int MOST_SIZE = 99;
    private static final int MOST_MILES = 200;
    private static final int MOST_POINTS = 10;
    private static final int MOST_PENCE = 1000000;

    private static final int FITTING = 1;
    private static final int TOO_LOW = 0;
    private static final int TOO_NARROW = -1;
    private static final int NOT_PLUGGED = -2;
    private static final int NO_PAIR = -3;
    private static final int LOST = -2;
    private static final int NO_SHOW = -300;

    private final Tape tape = new Tape();
    private final Hall[] halls = new Hall[MOST_HALLS];
    private final Show[] shows = new Show[MOST_SHOWS];
    private final Plugging plugging = new Plugging();
    private final Planner planner = new Planner();
    private final TermsReader reader = new TermsReader();
    private int hallCount;
    private int showCount;

    public VanPlays() {
        for (int h = 0; h < MOST_HALLS; h++) {
            halls[h] = new Hall();
        }
        for (int s = 0; s < MOST_SHOWS; s++) {
            shows[s] = new Show();
        }
    }

    public int feed(int a, int b, int c, int d, int e) {
        if (tape.length + BYTES_FED > MOST_BYTES) {
            return NONE;
        }
        tape.append(a);
        tape.append(b);
        tape.append(c);
        tape.append(d);
        tape.append(e);
        return tape.length;
    }

    public boolean end(int n) {
        if (n < 0 || n > tape.length) {
            return false;
        }
        tape.length = n;
        return true;
    }

    public int hall(int x, int y, int high, int wide) {
        boolean asTold = hallCount < MOST_HALLS
                && isWithin(x, 0, MOST_PLACE) && isWithin(y, 0, MOST_PLACE)
                && isHallBuild(high, wide);
        int number = NONE;
        if (asTold) {
            number = hallCount;
            halls[number].x = x;
            halls[number].y = y;
            halls[number].build(high, wide, tape);
            hallCount++;
        }
        tape.length = 0;
        return number;
    }

    public int show(int high, int wide, int from, int to, int miles, int row) {
        boolean asTold = showCount < MOST_SHOWS
                && isSize(high) && isSize(wide)
                && isNight(from) && isNight(to) && from <= to
                && isWithin(miles, 1, MOST_MILES) && isWithin(row, 1, NIGHTS)
                && tape.holdsAmps(0, MOST_LAMPS);
        int number = NONE;
        if (asTold) {
            number = showCount;
            shows[number].build(high, wide, tape);
            shows[number].plan(from, to, miles, row);
            showCount++;
        }
        tape.length = 0;
        return number;
    }

    public boolean rewire(int h, int high, int wide) {
        boolean asTold = isHall(h) && isHallBuild(high, wide);
        if (asTold) {
            halls[h].build(high, wide, tape);
        }
        tape.length = 0;
        return asTold;
    }

    public boolean give(int h, int s, int points) {
        if (!isHall(h) || !isShow(s) || !isWithin(points, 0, MOST_POINTS)) {
            return false;
        }
        if (points + halls[h].givenToOthers(s) > MOST_POINTS) {
            return false;
        }
        halls[h].given[s] = points;
        return true;
    }

    public int fits(int s, int h) {
        if (!isShow(s) || !isHall(h)) {
            return NO_PAIR;
        }
        return fitOf(shows[s], halls[h]);
    }

    public int plugged(int s, int h, int l) {
        if (!isShow(s) || !isHall(h) || l < 0 || l >= shows[s].lamps.size) {
            return NONE;
        }
        if (!plugging.canPlug(shows[s].lamps, halls[h].circuits)) {
            return NONE;
        }
        return plugging.circuitOf(l);
    }

    public int lacks(int s, int h) {
        if (!isShow(s) || !isHall(h)) {
            return NONE;
        }
        return plugging.leastLack(shows[s].lamps, halls[h].circuits);
    }

    public int book(int s) {
        if (!isShow(s)) {
            return NONE;
        }
        shows[s].forgetTour();
        planner.start(shows[s]);
        for (int h = 0; h < hallCount; h++) {
            if (halls[h].given[s] > 0 && planner.asksMore() && fitOf(shows[s], halls[h]) == FITTING) {
                planner.ask(h, halls, halls[h].given[s]);
                closeTakenNights(h);
            }
        }
        planner.bookBest(shows[s]);
        return worthOfTour(s);
    }

    public int on(int s, int night) {
        if (!isShow(s) || !isNight(night)) {
            return NONE;
        }
        return shows[s].tour[night];
    }

    public int snow(int h, int night) {
        if (!isHall(h) || !isNight(night)) {
            return NONE;
        }
        int s = showAt(h, night);
        if (!isShow(s)) {
            return NONE;
        }
        shows[s].tour[night] = NONE;
        shows[s].doors[night] = NONE;
        for (int next = night + 1; next <= shows[s].to; next++) {
            if (canMove(shows[s], h, next)) {
                shows[s].tour[next] = h;
                return next;
            }
        }
        return LOST;
    }

    public int worth(int s) {
        return isShow(s) ? worthOfTour(s) : NONE;
    }

    public int terms(int s) {
        int answer = NO_SHOW;
        if (isShow(s)) {
            if (reader.readText(tape)) {
                shows[s].terms.copyFrom(reader.draft);
                answer = reader.told;
            } else {
                answer = -1 - reader.place;
            }
        }
        tape.length = 0;
        return answer;
    }

    public int fault() {
        return reader.fault;
    }

    public boolean door(int s, int night, int pence) {
        if (!isShow(s) || !isNight(night) || !isWithin(pence, 0, MOST_PENCE)) {
            return false;
        }
        if (shows[s].tour[night] == NONE) {
            return false;
        }
        shows[s].doors[night] = pence;
        return true;
    }

    public int shared(int s, int night, int what) throws NoSuchElementException {
        if (!isShow(s) || !isNight(night) || !isWithin(what, 0, 3)) {
            throw new NoSuchElementException("no such show, night or part");
        }
        if (shows[s].doors[night] == NONE) {
            throw new NoSuchElementException("no door was told");
        }
        return shows[s].partOfDoor(night, what);
    }

    public int sum(int what) {
        if (!isWithin(what, 0, 4)) {
            return NONE;
        }
        int sum = 0;
        for (int s = 0; s < showCount; s++) {
            for (int night = 0; night < NIGHTS; night++) {
                if (shows[s].doors[night] != NONE) {
                    sum += what == 4 ? 1 : shows[s].partOfDoor(night, what);
                }
            }
        }
        return sum;
    }

    public int keeps(int h) throws NoSuchElementException {
        if (!isHall(h)) {
            throw new NoSuchElementException("no such hall");
        }
        int sum = 0;
        for (int s = 0; s < showCount; s++) {
            for (int night = 0; night < NIGHTS; night++) {
                if (shows[s].tour[night] == h && shows[s].doors[night] != NONE) {
                    sum += shows[s].partOfDoor(night, 2);
                }
            }
        }
        return sum;
    }

    public int count(int what) {
        switch (what) {
            case 0:
                return hallCount;
            case 1:
                return showCount;
            case 2:
                return nightsOnTours();
            case 3:
                return tape.length;
            default:
                return NONE;
        }
    }

    private static boolean isWithin(int value, int least, int most) {
        return value >= least && value <= most;
    }

    private static boolean isSize(int size) {
        return isWithin(size, 0, MOST_SIZE);
    }

    private static boolean isNight(int night) {
        return isWithin(night, 0, NIGHTS - 1);
    }

    private boolean isHall(int h) {
        return h >= 0 && h < hallCount;
    }

    private boolean isShow(int s) {
        return s >= 0 && s < showCount;
    }

    private boolean isHallBuild(int high, int wide) {
        return isSize(high) && isSize(wide) && tape.holdsAmps(1, MOST_CIRCUITS);
    }

    private int fitOf(Show show, Hall hall) {
        if (hall.high < show.high) {
            return TOO_LOW;
        }
        if (hall.wide < show.wide) {
            return TOO_NARROW;
        }
        return plugging.canPlug(show.lamps, hall.circuits) ? FITTING : NOT_PLUGGED;
    }

    private int showAt(int h, int night) {
        for (int s = 0; s < showCount; s++) {
            if (shows[s].tour[night] == h) {
                return s;
            }
        }
        return NONE;
    }

    private void closeTakenNights(int h) {
        for (int night = 0; night < NIGHTS; night++) {
            if (showAt(h, night) != NONE) {
                planner.close(night);
            }
        }
    }

    private int worthOfTour(int s) {
        int sum = 0;
        for (int night = 0; night < NIGHTS; night++) {
            int h = shows[s].tour[night];
            if (isHall(h)) {
                sum += halls[h].given[s];
            }
        }
        return sum;
    }

    private int nightsOnTours() {
        int sum = 0;
        for (int s = 0; s < showCount; s++) {
            for (int night = 0; night < NIGHTS; night++) {
                if (shows[s].tour[night] != NONE) {
                    sum++;
                }
            }
        }
        return sum;
    }

    private boolean canMove(Show show, int h, int night) {
        if (show.tour[night] != NONE || showAt(h, night) != NONE) {
            return false;
        }
        show.tour[night] = h;
        boolean lawful = keepsWaysAndRests(show);
        show.tour[night] = NONE;
        return lawful;
    }

    private boolean keepsWaysAndRests(Show show) {
        int lastHall = NONE;
        int lastNight = NONE;
        int run = 0;
        for (int night = 0; night < NIGHTS; night++) {
            int h = show.tour[night];
            if (!isHall(h)) {
                run = 0;
                continue;
            }
            run++;
            boolean near = !isHall(lastHall)
                    || halls[lastHall].milesTo(halls[h]) <= show.miles * (night - lastNight);
            if (run > show.row || !near) {
                return false;
            }
            lastHall = h;
            lastNight = night;
        }
        return true;
    }

    /** The bytes that were fed and are not used yet. */
    private static final class Tape {
        final int[] bytes = new int[MOST_BYTES];
        int length;

        void append(int number) {
            for (int shift = 24; shift >= 0 && length < MOST_BYTES; shift -= 8) {
                bytes[length] = (number >>> shift) & 255;
                length++;
            }
        }

        void copyFrom(Tape other) {
            System.arraycopy(other.bytes, 0, bytes, 0, MOST_BYTES);
            length = other.length;
        }

        int byteAt(int place) {
            return place >= 0 && place < length ? bytes[place] : NONE;
        }

        boolean holdsAmps(int least, int most) {
            if (length < least || length > most) {
                return false;
            }
            for (int i = 0; i < length; i++) {
                if (bytes[i] == 0) {
                    return false;
                }
            }
            return true;
        }
    }

    /** AMPS of some CIRCUITS or of some LAMPS. */
    private static final class Amps {
        final int[] amps;
        int size;

        Amps(int most) {
            amps = new int[Math.max(0, most)];
        }

        void take(Tape tape) {
            size = Math.min(tape.length, amps.length);
            for (int i = 0; i < size; i++) {
                amps[i] = tape.byteAt(i);
            }
        }
    }

    private static final class Hall {
        final Amps circuits = new Amps(MOST_CIRCUITS);
        final int[] given = new int[MOST_SHOWS];
        int x;
        int y;
        int high;
        int wide;

        void build(int newHigh, int newWide, Tape tape) {
            high = newHigh;
            wide = newWide;
            circuits.take(tape);
        }

        int givenToOthers(int show) {
            int sum = 0;
            for (int s = 0; s < MOST_SHOWS; s++) {
                if (s != show) {
                    sum += given[s];
                }
            }
            return sum;
        }

        int milesTo(Hall other) {
            return Math.abs(x - other.x) + Math.abs(y - other.y);
        }
    }

    private static final class Show {
        final Amps lamps = new Amps(MOST_LAMPS);
        final int[] tour = new int[NIGHTS];
        final int[] doors = new int[NIGHTS];
        final Terms terms = new Terms();
        int high;
        int wide;
        int from;
        int to;
        int miles = 1;
        int row = 1;

        Show() {
            Arrays.fill(tour, NONE);
            Arrays.fill(doors, NONE);
        }

        void build(int newHigh, int newWide, Tape tape) {
            high = newHigh;
            wide = newWide;
            lamps.take(tape);
        }

        void plan(int newFrom, int newTo, int newMiles, int newRow) {
            from = newFrom;
            to = newTo;
            miles = newMiles;
            row = newRow;
        }

        void forgetTour() {
            Arrays.fill(tour, NONE);
            Arrays.fill(doors, NONE);
        }

        int partOfDoor(int night, int what) {
            int pence = doors[night];
            switch (what) {
                case 1:
                    return terms.companyHas(pence);
                case 2:
                    return terms.hallKeeps(pence);
                case 3:
                    return terms.schemeGives(pence);
                default:
                    return pence;
            }
        }
    }

    /** Puts LAMPS into CIRCUITS so that the AMPS lacking are least; of like ways it keeps the first. */
    private static final class Plugging {
        private final int[] freeAmps = new int[MOST_CIRCUITS];
        private final int[] lampAmps = new int[MOST_LAMPS];
        private final int[] ampsFrom = new int[MOST_LAMPS + 1];
        private final int[] biggestFrom = new int[MOST_LAMPS + 1];
        private final int[] tried = new int[MOST_LAMPS];
        private final int[] found = new int[MOST_LAMPS];
        private int lampCount;
        private int circuitCount;
        private int least;

        boolean canPlug(Amps lamps, Amps circuits) {
            lay(lamps, circuits);
            // A way that lacks 1 is no way: with this bound the search leaves such ways early.
            least = 1;
            search(0, 0);
            return least == 0;
        }

        int leastLack(Amps lamps, Amps circuits) {
            lay(lamps, circuits);
            least = ampsFrom[0] + 1;
            search(0, 0);
            return least;
        }

        int circuitOf(int lamp) {
            return lamp >= 0 && lamp < lampCount ? found[lamp] : NONE;
        }

        private void lay(Amps lamps, Amps circuits) {
            lampCount = Math.min(lamps.size, MOST_LAMPS);
            circuitCount = Math.min(circuits.size, MOST_CIRCUITS);
            for (int c = 0; c < circuitCount; c++) {
                freeAmps[c] = circuits.amps[c];
            }
            ampsFrom[lampCount] = 0;
            biggestFrom[lampCount] = 0;
            for (int l = lampCount - 1; l >= 0; l--) {
                lampAmps[l] = lamps.amps[l];
                ampsFrom[l] = ampsFrom[l + 1] + lampAmps[l];
                biggestFrom[l] = Math.max(biggestFrom[l + 1], lampAmps[l]);
            }
        }

        private void search(int lamp, int lack) {
            if (lamp >= lampCount) {
                keep(lack);
                return;
            }
            if (lack + lackAtLeast(lamp) >= least) {
                return;
            }
            int need = lampAmps[lamp];
            for (int c = 0; c < circuitCount; c++) {
                if (isLikeOneAhead(c)) {
                    continue;
                }
                int had = freeAmps[c];
                freeAmps[c] = Math.max(0, had - need);
                tried[lamp] = c;
                search(lamp + 1, lack + Math.max(0, need - had));
                freeAmps[c] = had;
            }
        }

        private void keep(int lack) {
            if (lack < least) {
                least = lack;
                System.arraycopy(tried, 0, found, 0, lampCount);
            }
        }

        /** What must lack, however the LAMPS from this one on are put: it lets the search leave hopeless ways early. */
        private int lackAtLeast(int lamp) {
            int free = 0;
            int mostFree = 0;
            for (int c = 0; c < circuitCount; c++) {
                free += freeAmps[c];
                mostFree = Math.max(mostFree, freeAmps[c]);
            }
            return Math.max(0, Math.max(ampsFrom[lamp] - free, biggestFrom[lamp] - mostFree));
        }

        /** A CIRCUIT with as many free AMPS as one ahead of it can do no better than that one did. */
        private boolean isLikeOneAhead(int circuit) {
            for (int c = 0; c < circuit; c++) {
                if (freeAmps[c] == freeAmps[circuit]) {
                    return true;
                }
            }
            return false;
        }
    }

    /** Finds the BEST TOUR of a SHOW: from the last NIGHT back what can come, then from the first NIGHT the way. */
    private static final class Planner {
        private static final int SETS = 1 << MOST_ASKED;
        /** The most that six HALLS can give, 60, goes into so many bits. */
        private static final int GAIN_BITS = 6;
        private static final int GAIN_MASK = (1 << GAIN_BITS) - 1;
        /** In the place of NIGHTS in a row: from that NIGHT on or from a later one, a free NIGHT being ahead of it. */
        private static final int LATER = 0;

        private final int[] asked = new int[MOST_ASKED];
        private final int[] points = new int[MOST_ASKED];
        private final int[] nightsApart = new int[MOST_ASKED * MOST_ASKED];
        /** A bit for each NIGHT on which the HALL can't be had. */
        private final int[] closed = new int[MOST_ASKED];
        /**
         * The most POINTS from a NIGHT on, by NIGHT, HALLS used and HALL of that NIGHT; 0: can't be. Those for LATER
         * and for each number of NIGHTS in a row stand in one element, so that an object takes little room.
         */
        private final long[] gains = new long[NIGHTS * SETS * MOST_ASKED];
        private int size;
        private int from;
        private int to;
        private int miles;
        private int row;

        void start(Show show) {
            size = 0;
            from = show.from;
            to = show.to;
            miles = Math.max(1, show.miles);
            row = show.row;
        }

        boolean asksMore() {
            return size < MOST_ASKED;
        }

        void ask(int h, Hall[] halls, int given) {
            if (!asksMore()) {
                return;
            }
            asked[size] = h;
            points[size] = given;
            closed[size] = 0;
            for (int i = 0; i < size; i++) {
                int nights = (halls[asked[i]].milesTo(halls[h]) + miles - 1) / miles;
                nightsApart[i * MOST_ASKED + size] = nights;
                nightsApart[size * MOST_ASKED + i] = nights;
            }
            size++;
        }

        /** The HALL asked last can't be had on this NIGHT. */
        void close(int night) {
            if (size > 0) {
                closed[size - 1] |= 1 << night;
            }
        }

        void bookBest(Show show) {
            for (int night = to; night >= from; night--) {
                for (int used = 1; used < 1 << size; used++) {
                    for (int i = 0; i < size; i++) {
                        if (has(used, i)) {
                            weigh(night, used, i);
                        }
                    }
                }
            }
            walk(show);
        }

        private void weigh(int night, int used, int i) {
            long packed = 0;
            if (!has(closed[i], night)) {
                int rested = gainRested(night, used, i);
                for (int run = 1; run <= row && run <= Integer.bitCount(used); run++) {
                    int next = Math.max(rested, gainNextNight(night, used, i, run));
                    packed |= pack(points[i] + next, run);
                }
            }
            int later = night < to ? gain(night + 1, used, i, LATER) : 0;
            packed |= pack(Math.max(later, unpack(packed, 1)), LATER);
            gains[cell(night, used, i)] = packed;
        }

        private int gainRested(int night, int used, int i) {
            int most = 0;
            for (int next = 0; next < size; next++) {
                int first = night + Math.max(2, nightsApart[i * MOST_ASKED + next]);
                if (!has(used, next) && first <= to) {
                    most = Math.max(most, gain(first, used | 1 << next, next, LATER));
                }
            }
            return most;
        }

        private int gainNextNight(int night, int used, int i, int run) {
            int most = 0;
            for (int next = 0; next < size && night < to; next++) {
                if (!has(used, next) && nightsApart[i * MOST_ASKED + next] <= 1) {
                    most = Math.max(most, gain(night + 1, used | 1 << next, next, run + 1));
                }
            }
            return most;
        }

        private void walk(Show show) {
            int left = mostPoints();
            int used = 0;
            int last = NONE;
            int lastNight = NONE;
            int run = 0;
            for (int night = from; night <= to && left > 0; night++) {
                run = last != NONE && lastNight == night - 1 ? run + 1 : 1;
                int i = firstBringing(left, night, used, last, night - lastNight, run);
                if (i != NONE) {
                    show.tour[night] = asked[i];
                    left -= points[i];
                    used |= 1 << i;
                    last = i;
                    lastNight = night;
                }
            }
        }

        private int mostPoints() {
            int most = 0;
            for (int i = 0; i < size; i++) {
                most = Math.max(most, gain(from, 1 << i, i, LATER));
            }
            return most;
        }

        private int firstBringing(int left, int night, int used, int last, int nights, int run) {
            for (int i = 0; i < size; i++) {
                boolean near = last == NONE || nightsApart[last * MOST_ASKED + i] <= nights;
                if (near && !has(used, i) && gain(night, used | 1 << i, i, run) == left) {
                    return i;
                }
            }
            return NONE;
        }

        private static boolean has(int set, int i) {
            return (set >> i & 1) != 0;
        }

        private int gain(int night, int used, int i, int run) {
            return unpack(gains[cell(night, used, i)], run);
        }

        private static int cell(int night, int used, int i) {
            return (night * SETS + used) * MOST_ASKED + i;
        }

        private static long pack(int points, int run) {
            return (long) points << GAIN_BITS * run;
        }

        private static int unpack(long packed, int run) {
            return (int) (packed >>> GAIN_BITS * run) & GAIN_MASK;
        }
    }

    /** How what comes in at a DOOR is shared. */
    private static final class Terms {
        final int[] share = new int[MOST_SHARES];
        final int[] above = new int[MOST_SHARES];
        int shares;
        int fee;
        int subsidy;
        int most;
        boolean lossOfBoth;

        void clear() {
            shares = 0;
            fee = 0;
            subsidy = 0;
            most = 0;
            lossOfBoth = false;
        }

        void copyFrom(Terms other) {
            System.arraycopy(other.share, 0, share, 0, MOST_SHARES);
            System.arraycopy(other.above, 0, above, 0, MOST_SHARES);
            shares = other.shares;
            fee = other.fee;
            subsidy = other.subsidy;
            most = other.most;
            lossOfBoth = other.lossOfBoth;
        }

        int companyHas(int pence) {
            int sum = fee;
            for (int i = 0; i < shares; i++) {
                int upTo = i + 1 < shares ? Math.min(pence, above[i + 1]) : pence;
                sum += Math.max(0, upTo - above[i]) * share[i] / 100;
            }
            return sum;
        }

        int schemeGives(int pence) {
            int keptAlone = keptBeforeLoss(pence);
            int halfOfLoss = lossOfBoth && keptAlone < 0 ? (1 - keptAlone) / 2 : 0;
            return subsidyOfFee() + halfOfLoss;
        }

        int hallKeeps(int pence) {
            return pence + schemeGives(pence) - companyHas(pence);
        }

        private int keptBeforeLoss(int pence) {
            return pence + subsidyOfFee() - companyHas(pence);
        }

        private int subsidyOfFee() {
            return Math.min(most, fee * subsidy / 100);
        }
    }

    /** Reads TERMS from the tape into a draft, so that a FAULT leaves the TERMS of the SHOW alone. */
    private static final class TermsReader {
        private static final int NO_TOKEN = 0;
        private static final int WORD = 1;
        private static final int NUMBER = 2;
        private static final int STOP = 3;
        private static final int TEXT_END = 4;

        private static final int FAULT_NO_TOKEN = 1;
        private static final int FAULT_CANNOT_COME = 2;
        private static final int FAULT_NUMBER = 3;
        private static final int FAULT_TOO_OFTEN = 4;

        private static final int MOST_DIGITS = 5;
        private static final int ANY_NUMBER = 99999;
        private static final int HUNDREDTHS = 100;

        final Terms draft = new Terms();
        int told;
        int fault;
        int place;
        /** A copy, so that the reader can be made without the tape. */
        private final Tape text = new Tape();
        private boolean feeTold;
        private boolean subsidyTold;
        private boolean lossTold;
        private int at;
        private int first;
        private int kind;
        private int number;

        boolean readText(Tape tape) {
            start(tape);
            for (int i = 0; i <= MOST_BYTES; i++) {
                nextToken();
                if (kind == TEXT_END) {
                    return true;
                }
                if (!readTerm()) {
                    return false;
                }
                told++;
            }
            return true;
        }

        private void start(Tape tape) {
            text.copyFrom(tape);
            draft.clear();
            told = 0;
            fault = 0;
            place = 0;
            feeTold = false;
            subsidyTold = false;
            lossTold = false;
            at = 0;
        }

        private boolean readTerm() {
            if (isWord("fee")) {
                return readFee();
            }
            if (isWord("share")) {
                return readShare();
            }
            if (isWord("subsidy")) {
                return readSubsidy();
            }
            if (isWord("loss")) {
                return readLoss();
            }
            return refuseToken();
        }

        private boolean readFee() {
            if (feeTold) {
                return refuse(FAULT_TOO_OFTEN);
            }
            feeTold = true;
            if (!readNumber(0, ANY_NUMBER)) {
                return false;
            }
            draft.fee = number;
            return readStop();
        }

        private boolean readShare() {
            int i = draft.shares;
            if (i >= MOST_SHARES) {
                return refuse(FAULT_TOO_OFTEN);
            }
            if (!readNumber(0, HUNDREDTHS)) {
                return false;
            }
            draft.share[i] = number;
            int leastAbove = i > 0 ? draft.above[i - 1] + 1 : 0;
            if (!readWord("above") || !readNumber(leastAbove, ANY_NUMBER)) {
                return false;
            }
            draft.above[i] = number;
            draft.shares = i + 1;
            return readStop();
        }

        private boolean readSubsidy() {
            if (subsidyTold) {
                return refuse(FAULT_TOO_OFTEN);
            }
            subsidyTold = true;
            if (!readNumber(0, HUNDREDTHS)) {
                return false;
            }
            draft.subsidy = number;
            if (!readWord("most") || !readNumber(0, ANY_NUMBER)) {
                return false;
            }
            draft.most = number;
            return readStop();
        }

        private boolean readLoss() {
            if (lossTold) {
                return refuse(FAULT_TOO_OFTEN);
            }
            lossTold = true;
            nextToken();
            draft.lossOfBoth = isWord("both");
            if (!draft.lossOfBoth && !isWord("hall")) {
                return refuseToken();
            }
            return readStop();
        }

        private boolean readNumber(int least, int most) {
            nextToken();
            if (kind != NUMBER) {
                return refuseToken();
            }
            return isWithin(number, least, most) || refuse(FAULT_NUMBER);
        }

        private boolean readWord(String word) {
            nextToken();
            return isWord(word) || refuseToken();
        }

        private boolean readStop() {
            nextToken();
            return kind == STOP || refuseToken();
        }

        private boolean refuseToken() {
            return refuse(kind == NO_TOKEN ? FAULT_NO_TOKEN : FAULT_CANNOT_COME);
        }

        private boolean refuse(int faultKind) {
            fault = faultKind;
            place = first;
            return false;
        }

        private void nextToken() {
            while (at < text.length && isBlank(text.byteAt(at))) {
                at++;
            }
            first = at;
            int sign = text.byteAt(at);
            if (sign == NONE) {
                kind = TEXT_END;
            } else if (isLetter(sign) || isDigit(sign)) {
                readRun();
            } else {
                at++;
                kind = sign == ';' ? STOP : NO_TOKEN;
            }
        }

        private void readRun() {
            int letters = 0;
            int value = 0;
            while (at < text.length && (isLetter(text.byteAt(at)) || isDigit(text.byteAt(at)))) {
                int sign = text.byteAt(at);
                if (isLetter(sign)) {
                    letters++;
                } else {
                    value = value * 10 + sign - '0';
                }
                at++;
            }
            int length = at - first;
            if (letters == length) {
                kind = WORD;
            } else if (letters == 0 && length <= MOST_DIGITS) {
                kind = NUMBER;
                number = value;
            } else {
                kind = NO_TOKEN;
            }
        }

        private boolean isWord(String word) {
            if (kind != WORD || at - first != word.length()) {
                return false;
            }
            for (int i = 0; i < word.length(); i++) {
                if (text.byteAt(first + i) != word.charAt(i)) {
                    return false;
                }
            }
            return true;
        }

        private static boolean isBlank(int sign) {
            return sign == ' ' || sign == '\n';
        }

        private static boolean isLetter(int sign) {
            return sign >= 'a' && sign <= 'z';
        }

        private static boolean isDigit(int sign) {
            return sign >= '0' && sign <= '9';
        }
    }
}
