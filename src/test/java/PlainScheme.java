import java.util.ArrayList;
import java.util.Arrays;
import java.util.List;
import java.util.NoSuchElementException;
import java.util.TreeMap;
import java.util.regex.Matcher;
import java.util.regex.Pattern;

/** The document once more, by looking at all ways: slow, and written apart from VanPlays to be compared with it. */
final class PlainScheme {
    private static final class Place {
        int x;
        int y;
        int high;
        int wide;
        int[] amps;
        final int[] points = new int[6];
    }

    private static final class Play {
        int high;
        int wide;
        int[] amps;
        int from;
        int to;
        int miles;
        int row;
        TreeMap<Integer, Integer> tour = new TreeMap<>();
        final TreeMap<Integer, Integer> doors = new TreeMap<>();
        List<String> terms = new ArrayList<>();
    }

    private List<Integer> tape = new ArrayList<>();
    private final List<Place> halls = new ArrayList<>();
    private final List<Play> shows = new ArrayList<>();
    private int fault = 0;

    int feed(int a, int b, int c, int d, int e) {
        if (tape.size() > 180) {
            return -1;
        }
        for (int number : new int[] {a, b, c, d, e}) {
            for (int i = 3; i >= 0; i--) {
                tape.add(number >>> 8 * i & 0xff);
            }
        }
        return tape.size();
    }

    boolean end(int n) {
        if (n < 0 || n > tape.size()) {
            return false;
        }
        tape = new ArrayList<>(tape.subList(0, n));
        return true;
    }

    private int[] takeTape() {
        int[] bytes = tape.stream().mapToInt(Integer::intValue).toArray();
        tape.clear();
        return bytes;
    }

    private static boolean amps(int[] bytes, int least, int most) {
        return bytes.length >= least && bytes.length <= most && Arrays.stream(bytes).allMatch(b -> b > 0);
    }

    private static boolean to99(int... numbers) {
        return Arrays.stream(numbers).allMatch(n -> n >= 0 && n <= 99);
    }

    int hall(int x, int y, int high, int wide) {
        int[] bytes = takeTape();
        if (halls.size() == 12 || !to99(x, y, high, wide) || !amps(bytes, 1, 4)) {
            return -1;
        }
        Place place = new Place();
        place.x = x;
        place.y = y;
        place.high = high;
        place.wide = wide;
        place.amps = bytes;
        halls.add(place);
        return halls.size() - 1;
    }

    int show(int high, int wide, int from, int to, int miles, int row) {
        int[] bytes = takeTape();
        if (shows.size() == 6 || !to99(high, wide) || !amps(bytes, 0, 8) || from < 0 || to > 13 || from > to
                || miles < 1 || miles > 200 || row < 1 || row > 14) {
            return -1;
        }
        Play play = new Play();
        play.high = high;
        play.wide = wide;
        play.amps = bytes;
        play.from = from;
        play.to = to;
        play.miles = miles;
        play.row = row;
        shows.add(play);
        return shows.size() - 1;
    }

    private Place placeOf(int h) {
        return h >= 0 && h < halls.size() ? halls.get(h) : null;
    }

    private Play playOf(int s) {
        return s >= 0 && s < shows.size() ? shows.get(s) : null;
    }

    boolean rewire(int h, int high, int wide) {
        int[] bytes = takeTape();
        Place place = placeOf(h);
        if (place == null || !to99(high, wide) || !amps(bytes, 1, 4)) {
            return false;
        }
        place.high = high;
        place.wide = wide;
        place.amps = bytes;
        return true;
    }

    boolean give(int h, int s, int points) {
        Place place = placeOf(h);
        if (place == null || playOf(s) == null || points < 0) {
            return false;
        }
        long all = (long) Arrays.stream(place.points).sum() - place.points[s] + points;
        if (all > 10) {
            return false;
        }
        place.points[s] = points;
        return true;
    }

    /** All ways in order, the first lamp's circuit turning slowest; null if none holds. */
    static int[] firstWay(int[] lamps, int[] circuits) {
        int ways = (int) Math.round(Math.pow(circuits.length, lamps.length));
        for (int way = 0; way < ways; way++) {
            if (lack(lamps, circuits, way) == 0) {
                return circuitsOf(lamps.length, circuits.length, way);
            }
        }
        return null;
    }

    static int leastLack(int[] lamps, int[] circuits) {
        int ways = (int) Math.round(Math.pow(circuits.length, lamps.length));
        int least = Integer.MAX_VALUE;
        for (int way = 0; way < ways; way++) {
            least = Math.min(least, lack(lamps, circuits, way));
        }
        return least;
    }

    private static int[] circuitsOf(int lamps, int circuits, int way) {
        int[] of = new int[lamps];
        int rest = way;
        for (int l = lamps - 1; l >= 0; l--) {
            of[l] = rest % circuits;
            rest /= circuits;
        }
        return of;
    }

    private static int lack(int[] lamps, int[] circuits, int way) {
        int[] of = circuitsOf(lamps.length, circuits.length, way);
        int[] load = new int[circuits.length];
        for (int l = 0; l < lamps.length; l++) {
            load[of[l]] += lamps[l];
        }
        int lack = 0;
        for (int c = 0; c < circuits.length; c++) {
            lack += Math.max(0, load[c] - circuits[c]);
        }
        return lack;
    }

    int fits(int s, int h) {
        Place place = placeOf(h);
        Play play = playOf(s);
        if (place == null || play == null) {
            return -3;
        }
        if (place.high < play.high) {
            return 0;
        }
        if (place.wide < play.wide) {
            return -1;
        }
        return firstWay(play.amps, place.amps) == null ? -2 : 1;
    }

    int plugged(int s, int h, int l) {
        if (placeOf(h) == null || playOf(s) == null || l < 0 || l >= playOf(s).amps.length) {
            return -1;
        }
        int[] way = firstWay(playOf(s).amps, placeOf(h).amps);
        return way == null ? -1 : way[l];
    }

    int lacks(int s, int h) {
        return placeOf(h) == null || playOf(s) == null ? -1 : leastLack(playOf(s).amps, placeOf(h).amps);
    }

    int book(int s) {
        Play play = playOf(s);
        if (play == null) {
            return -1;
        }
        play.tour = new TreeMap<>();
        play.doors.clear();
        List<Integer> asked = new ArrayList<>();
        for (int h = 0; h < halls.size() && asked.size() < 6; h++) {
            if (fits(s, h) == 1 && halls.get(h).points[s] > 0) {
                asked.add(h);
            }
        }
        Search search = new Search(s, asked);
        search.decide(play.from, 0);
        play.tour = search.best;
        return search.most;
    }

    /** Walks through all lawful tours in the document's order and keeps the first of the greatest worth. */
    private final class Search {
        final int s;
        final Play play;
        final List<Integer> asked;
        final TreeMap<Integer, Integer> now = new TreeMap<>();
        TreeMap<Integer, Integer> best = new TreeMap<>();
        int most = 0;

        Search(int s, List<Integer> asked) {
            this.s = s;
            this.play = shows.get(s);
            this.asked = asked;
        }

        void decide(int night, int worth) {
            if (night > play.to) {
                if (worth > most) {
                    most = worth;
                    best = new TreeMap<>(now);
                }
                return;
            }
            for (int h : asked) {
                if (!now.containsValue(h) && !isTaken(h, night)) {
                    now.put(night, h);
                    if (lawfulAtEnd(play, now)) {
                        decide(night + 1, worth + halls.get(h).points[s]);
                    }
                    now.remove(night);
                }
            }
            decide(night + 1, worth);
        }
    }

    private boolean isTaken(int h, int night) {
        return shows.stream().anyMatch(other -> Integer.valueOf(h).equals(other.tour.get(night)));
    }

    private boolean lawfulAtEnd(Play play, TreeMap<Integer, Integer> tour) {
        int night = tour.lastKey();
        Integer ahead = tour.lowerKey(night);
        if (ahead != null && tooFar(play, tour, ahead, night)) {
            return false;
        }
        int run = 0;
        while (tour.containsKey(night - run)) {
            run++;
        }
        return run <= play.row;
    }

    private boolean tooFar(Play play, TreeMap<Integer, Integer> tour, int first, int second) {
        Place a = halls.get(tour.get(first));
        Place b = halls.get(tour.get(second));
        return Math.abs(a.x - b.x) + Math.abs(a.y - b.y) > play.miles * (second - first);
    }

    int on(int s, int night) {
        return playOf(s) == null ? -1 : playOf(s).tour.getOrDefault(night, -1);
    }

    int snow(int h, int night) {
        for (Play play : shows) {
            if (placeOf(h) != null && Integer.valueOf(h).equals(play.tour.get(night))) {
                play.tour.remove(night);
                play.doors.remove(night);
                return moved(play, h, night);
            }
        }
        return -1;
    }

    private int moved(Play play, int h, int lost) {
        for (int night = lost + 1; night <= play.to; night++) {
            if (play.tour.containsKey(night) || isTaken(h, night)) {
                continue;
            }
            TreeMap<Integer, Integer> tour = new TreeMap<>(play.tour);
            tour.put(night, h);
            boolean lawful = true;
            for (int part : tour.keySet()) {
                lawful &= lawfulAtEnd(play, new TreeMap<>(tour.headMap(part, true)));
            }
            if (lawful) {
                play.tour = tour;
                return night;
            }
        }
        return -2;
    }

    int worth(int s) {
        return playOf(s) == null ? -1
                : playOf(s).tour.values().stream().mapToInt(h -> halls.get(h).points[s]).sum();
    }

    int terms(int s) {
        int[] bytes = takeTape();
        if (playOf(s) == null) {
            return -300;
        }
        StringBuilder text = new StringBuilder();
        for (int b : bytes) {
            text.append((char) b);
        }
        List<String> tokens = new ArrayList<>();
        int place = findFault(text.toString(), tokens);
        if (place >= 0) {
            return -1 - place;
        }
        playOf(s).terms = tokens;
        return (int) tokens.stream().filter(";"::equals).count();
    }

    private static final Pattern PART = Pattern.compile("[ \n]*(?:([a-z0-9]+)|([^ \n]))", Pattern.DOTALL);

    /** A term so far, as its tokens in a row with # for a NUMBER, to which a token must still lead on. */
    private static final List<String> FORMS = List.of("fee # ;", "share # above # ;", "subsidy # most # ;",
            "loss hall ;", "loss both ;");

    private int findFault(String text, List<String> tokens) {
        fault = 0;
        Matcher matcher = PART.matcher(text);
        String term = "";
        int lastAbove = -1;
        List<String> words = new ArrayList<>();
        while (matcher.find()) {
            String token = matcher.group(1) != null ? matcher.group(1) : matcher.group(2);
            int place = matcher.end() - token.length();
            boolean number = token.matches("[0-9]{1,5}");
            if (!number && !token.matches("[a-z]+|;")) {
                return fail(1, place);
            }
            String grown = term + (number ? "#" : token) + " ";
            if (FORMS.stream().noneMatch(form -> (form + " ").startsWith(grown))) {
                return fail(2, place);
            }
            if ((grown.equals("share # ") || grown.equals("subsidy # ")) && Integer.parseInt(token) > 100) {
                return fail(3, place);
            }
            if (grown.equals("share # above # ")) {
                if (Integer.parseInt(token) <= lastAbove) {
                    return fail(3, place);
                }
                lastAbove = Integer.parseInt(token);
            }
            if (term.isEmpty()) {
                words.add(token);
                long told = words.stream().filter(token::equals).count();
                if (told > (token.equals("share") ? 3 : 1)) {
                    return fail(4, place);
                }
            }
            tokens.add(token);
            term = token.equals(";") ? "" : grown;
        }
        return term.isEmpty() ? -1 : fail(2, text.length());
    }

    private int fail(int kind, int place) {
        fault = kind;
        return place;
    }

    int fault() {
        return fault;
    }

    boolean door(int s, int night, int pence) {
        if (on(s, night) == -1 || pence < 0 || pence > 1000000) {
            return false;
        }
        playOf(s).doors.put(night, pence);
        return true;
    }

    int shared(int s, int night, int what) {
        if (playOf(s) == null || !playOf(s).doors.containsKey(night) || what < 0 || what > 3) {
            throw new NoSuchElementException();
        }
        return parts(playOf(s).terms, playOf(s).doors.get(night))[what];
    }

    private static int[] parts(List<String> terms, int pence) {
        long fee = 0;
        long subsidy = 0;
        long most = 0;
        boolean both = false;
        List<long[]> shares = new ArrayList<>();
        for (int i = 0; i < terms.size(); i++) {
            switch (terms.get(i)) {
                case "fee" -> fee = Long.parseLong(terms.get(i + 1));
                case "share" -> shares.add(
                        new long[] {Long.parseLong(terms.get(i + 1)), Long.parseLong(terms.get(i + 3))});
                case "subsidy" -> {
                    subsidy = Long.parseLong(terms.get(i + 1));
                    most = Long.parseLong(terms.get(i + 3));
                }
                case "both" -> both = true;
                default -> { }
            }
        }
        long company = fee;
        for (int i = 0; i < shares.size(); i++) {
            long top = i + 1 < shares.size() ? shares.get(i + 1)[1] : Long.MAX_VALUE;
            long band = Math.min(pence, top) - shares.get(i)[1];
            if (band > 0) {
                company += (long) Math.floor(band * shares.get(i)[0] / 100.0 + 1e-9);
            }
        }
        long scheme = Math.min(most, (long) Math.floor(fee * subsidy / 100.0 + 1e-9));
        long hall = pence + scheme - company;
        if (hall < 0 && both) {
            long half = (long) Math.ceil(-hall / 2.0);
            hall += half;
            scheme += half;
        }
        return new int[] {pence, (int) company, (int) hall, (int) scheme};
    }

    int sum(int what) {
        if (what < 0 || what > 4) {
            return -1;
        }
        int sum = 0;
        for (Play play : shows) {
            for (int pence : play.doors.values()) {
                sum += what == 4 ? 1 : parts(play.terms, pence)[what];
            }
        }
        return sum;
    }

    int keeps(int h) {
        if (placeOf(h) == null) {
            throw new NoSuchElementException();
        }
        int sum = 0;
        for (Play play : shows) {
            for (int night : play.doors.keySet()) {
                if (play.tour.get(night) == h) {
                    sum += parts(play.terms, play.doors.get(night))[2];
                }
            }
        }
        return sum;
    }

    int count(int what) {
        return switch (what) {
            case 0 -> halls.size();
            case 1 -> shows.size();
            case 2 -> shows.stream().mapToInt(play -> play.tour.size()).sum();
            case 3 -> tape.size();
            default -> -1;
        };
    }
}
