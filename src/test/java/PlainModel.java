import java.math.BigInteger;
import java.util.ArrayDeque;
import java.util.ArrayList;
import java.util.Deque;
import java.util.List;
import java.util.regex.Matcher;
import java.util.regex.Pattern;

/**
 * The document once more, told as differently from the class as could be: sayings walk place by place,
 * undoing and images are whole copies, the text is cut by a pattern, odds are summed as big numbers.
 */
final class PlainModel {
    private static final int BAD = -1, STATE = -2, FULL = -3, NONE = -9, NO = -1000000;

    private static final class Voice {
        final int from, speed, way, loud;
        int at, gone;
        boolean hushed;

        Voice(int from, int speed, int way, int loud) {
            this.from = from;
            this.speed = speed;
            this.way = way;
            this.loud = loud;
            this.at = from;
        }

        Voice copy() {
            Voice v = new Voice(from, speed, way, loud);
            v.at = at;
            v.gone = gone;
            v.hushed = hushed;
            return v;
        }

        void walk(int places) {
            for (int i = 0; i < speed; i++) {
                at = way == 0 ? at + 1 : at - 1;
                if (at == places) {
                    at = 0;
                }
                if (at < 0) {
                    at = places - 1;
                }
                gone++;
            }
        }
    }

    private static final class World {
        int tick;
        List<Voice> voices = new ArrayList<>();
        Deque<World> past = new ArrayDeque<>();

        World bare() {
            World w = new World();
            w.tick = tick;
            for (Voice v : voices) {
                w.voices.add(v.copy());
            }
            return w;
        }

        World whole() {
            World w = bare();
            w.past = new ArrayDeque<>(past);
            return w;
        }
    }

    private static final class Fault extends Exception {
        private static final long serialVersionUID = 1;
        final int place;

        Fault(int place) {
            this.place = place;
        }
    }

    private StringBuilder text = new StringBuilder();
    private int places = 12, loss = 1;
    private boolean[] niche = new boolean[24];
    private World world = new World();
    private World[] images = new World[2];
    private List<int[]> heard = new ArrayList<>();
    private long trace;

    int type(int c) {
        if (c < 0 || c > 255) {
            return BAD;
        }
        if (text.length() == 120) {
            return FULL;
        }
        return text.append((char) c).length();
    }

    int clear() {
        int had = text.length();
        text = new StringBuilder();
        return had;
    }

    int gallery() {
        PlainModel read = new PlainModel();
        int items;
        try {
            items = read.read(text.toString());
        } catch (Fault f) {
            return -10 - f.place;
        }
        places = read.places;
        loss = read.loss;
        niche = read.niche;
        world = read.world;
        images = new World[2];
        heard = new ArrayList<>();
        text = new StringBuilder();
        return items;
    }

    private int read(String all) throws Fault {
        Matcher m = Pattern.compile("[a-z]+|[0-9]+|[^ ]").matcher(all);
        List<String> tokens = new ArrayList<>();
        List<Integer> starts = new ArrayList<>();
        while (m.find()) {
            tokens.add(m.group());
            starts.add(m.start());
        }
        starts.add(all.length());
        tokens.add("");
        int items = 0;
        boolean lossTold = false;
        int i = 0;
        while (!tokens.get(i).isEmpty()) {
            int start = starts.get(i);
            int[][] bounds;
            switch (tokens.get(i)) {
                case "n":
                    if (items > 0) {
                        throw new Fault(start);
                    }
                    bounds = new int[][] {{4, 24}};
                    break;
                case "l":
                    if (lossTold) {
                        throw new Fault(start);
                    }
                    bounds = new int[][] {{1, 9}};
                    break;
                case "h":
                    bounds = new int[][] {{0, places - 1}};
                    break;
                case "s":
                    if (world.voices.size() == 8) {
                        throw new Fault(start);
                    }
                    bounds = new int[][] {{0, places - 1}, {1, 6}, {0, 1}, {1, 30}};
                    break;
                default:
                    throw new Fault(start);
            }
            int[] told = new int[bounds.length];
            for (int k = 0; k < bounds.length; k++) {
                String token = tokens.get(i + 1 + k);
                if (!token.matches("0|[1-9][0-9]?") || Integer.parseInt(token) < bounds[k][0]
                        || Integer.parseInt(token) > bounds[k][1]) {
                    throw new Fault(starts.get(i + 1 + k));
                }
                told[k] = Integer.parseInt(token);
            }
            if (!tokens.get(i + 1 + told.length).equals(";")) {
                throw new Fault(starts.get(i + 1 + told.length));
            }
            switch (tokens.get(i)) {
                case "n": places = told[0]; break;
                case "l": loss = told[0]; lossTold = true; break;
                case "h": niche[told[0]] = true; break;
                default: world.voices.add(new Voice(told[0], told[1], told[2], told[3]));
            }
            i += 2 + told.length;
            items++;
        }
        return items;
    }

    private int strength(Voice v) {
        return v.hushed ? 0 : Math.max(0, v.loud - loss * (v.gone / places));
    }

    private World ahead(World w) {
        World next = w.bare();
        next.tick++;
        for (Voice v : next.voices) {
            v.walk(places);
        }
        return next;
    }

    private List<Integer> sounding(World w, int p) {
        List<Integer> there = new ArrayList<>();
        for (int s = 0; s < w.voices.size(); s++) {
            if (w.voices.get(s).at == p && strength(w.voices.get(s)) > 0) {
                there.add(s);
            }
        }
        return there;
    }

    private int loudness(World w, int p, int s) {
        return strength(w.voices.get(s)) * (niche[p] ? 2 : 1);
    }

    private int clearOne(World w, int p) {
        for (int s : sounding(w, p)) {
            int others = 0;
            for (int t : sounding(w, p)) {
                if (t != s) {
                    others += loudness(w, p, t);
                }
            }
            if (loudness(w, p, s) > others) {
                return s;
            }
        }
        return NONE;
    }

    private boolean noSaying(int s) {
        return s < 0 || s >= world.voices.size();
    }

    private boolean noPlace(int p) {
        return p < 0 || p >= places;
    }

    int saying(int s, int what) {
        if (noSaying(s) || what < 0 || what > 8) {
            return BAD;
        }
        Voice v = world.voices.get(s);
        int[] simple = {v.from, v.speed, v.way, v.loud, v.at, v.gone / places, strength(v), v.hushed ? 1 : 0};
        if (what < 8) {
            return simple[what];
        }
        Voice w = v.copy();
        for (int n = 0; n <= 999; n++) {
            if (strength(w) == 0) {
                return n;
            }
            w.walk(places);
        }
        return NONE;
    }

    int place(int p, int what) {
        if (noPlace(p) || what < 0 || what > 5) {
            return BAD;
        }
        List<Integer> there = sounding(world, p);
        switch (what) {
            case 0:
                return niche[p] ? 1 : 0;
            case 1:
                return there.stream().mapToInt(s -> 1 << s).sum();
            case 2:
                return clearOne(world, p);
            case 3:
                return !there.isEmpty() && clearOne(world, p) == NONE ? 1 : 0;
            case 4:
                return there.stream().mapToInt(s -> loudness(world, p, s)).sum();
            default:
                World w = world;
                for (int n = 0; n <= 99; n++) {
                    if (sounding(w, p).isEmpty()) {
                        return n;
                    }
                    w = ahead(w);
                }
                return NONE;
        }
    }

    private void remember() {
        world.past.addLast(world.bare());
        if (world.past.size() > 10) {
            world.past.removeFirst();
        }
    }

    int ticks(int n) {
        if (n < 1 || n > 99) {
            return BAD;
        }
        if (world.tick + n > 9999) {
            return STATE;
        }
        remember();
        for (int i = 0; i < n; i++) {
            world.tick++;
            for (Voice v : world.voices) {
                v.walk(places);
            }
        }
        return (int) world.voices.stream().filter(v -> strength(v) > 0).count();
    }

    private boolean wrongWords(int p, int speed, int way, int loud) {
        return noPlace(p) || speed < 1 || speed > 6 || way < 0 || way > 1 || loud < 1 || loud > 30;
    }

    int says(int p, int speed, int way, int loud) {
        if (wrongWords(p, speed, way, loud)) {
            return BAD;
        }
        if (world.voices.size() == 8) {
            return FULL;
        }
        remember();
        world.voices.add(new Voice(p, speed, way, loud));
        return world.voices.size() - 1;
    }

    int hushes(int s) {
        if (noSaying(s)) {
            return BAD;
        }
        int had = strength(world.voices.get(s));
        if (had == 0) {
            return STATE;
        }
        remember();
        world.voices.get(s).hushed = true;
        return had;
    }

    int undo() {
        if (world.past.isEmpty()) {
            return STATE;
        }
        Deque<World> rest = world.past;
        world = rest.removeLast().bare();
        world.past = rest;
        return rest.size();
    }

    int now(int what) {
        int bits = 0, sum = 0, sound = 0, seas = 0;
        for (int s = 0; s < world.voices.size(); s++) {
            int strength = strength(world.voices.get(s));
            bits += strength > 0 ? 1 << s : 0;
            sum += strength;
        }
        for (int p = 0; p < places; p++) {
            sound += sounding(world, p).isEmpty() ? 0 : 1;
            seas += place(p, 3);
        }
        int[] answers = {world.tick, bits, sum, sound, seas};
        return what < 0 || what > 4 ? BAD : answers[what];
    }

    int when(int s, int p, int what) {
        if (noSaying(s) || noPlace(p) || what < 0 || what > 1) {
            return BAD;
        }
        Voice v = world.voices.get(s).copy();
        int first = NONE, often = 0;
        for (int n = 0; n <= 999; n++) {
            if (v.at == p && strength(v) > 0) {
                first = often == 0 ? n : first;
                often++;
            }
            v.walk(places);
        }
        return what == 0 ? first : often;
    }

    int meet(int s, int t) {
        if (noSaying(s) || noSaying(t) || s == t) {
            return BAD;
        }
        Voice v = world.voices.get(s).copy(), w = world.voices.get(t).copy();
        for (int n = 0; n <= 999; n++) {
            if (v.at == w.at && strength(v) > 0 && strength(w) > 0) {
                return n;
            }
            v.walk(places);
            w.walk(places);
        }
        return NONE;
    }

    int best(int p, int q, int speed, int way, int loud) {
        if (wrongWords(p, speed, way, loud) || noPlace(q)) {
            return BAD;
        }
        World start = world;
        for (int wait = 0; wait <= 99; wait++) {
            World w = start.bare();
            w.voices.add(new Voice(p, speed, way, loud));
            int mine = w.voices.size() - 1;
            for (int n = 0; n < 30 && w.voices.get(mine).at != q; n++) {
                w = ahead(w);
            }
            Voice v = w.voices.get(mine);
            if (v.at == q && strength(v) > 0 && clearOne(w, q) == mine) {
                return wait;
            }
            start = ahead(start);
        }
        return NONE;
    }

    int stills(int s) {
        if (noSaying(s)) {
            return BAD;
        }
        if (strength(world.voices.get(s)) == 0) {
            return NONE;
        }
        int found = NONE;
        for (int set = 0; set < 1 << world.voices.size(); set++) {
            World w = world.bare();
            boolean may = (set >> s & 1) == 0;
            for (int t = 0; t < w.voices.size(); t++) {
                if ((set >> t & 1) == 1) {
                    may &= strength(w.voices.get(t)) > 0;
                    w.voices.get(t).hushed = true;
                }
            }
            if (may && clearOne(w, w.voices.get(s).at) == s
                    && (found == NONE || Integer.bitCount(set) < Integer.bitCount(found))) {
                found = set;
            }
        }
        return found;
    }

    int odds(int s, int n, int x, int what) {
        if (noSaying(s) || n < 0 || n > 6 || x < 0 || x > 10 || what < 0 || what > 1) {
            return BAD;
        }
        int strength = strength(world.voices.get(s));
        BigInteger upper = BigInteger.ZERO;
        BigInteger lower = BigInteger.TEN.pow(n);
        for (int set = 0; set < 1 << n; set++) {
            int twice = Integer.bitCount(set);
            if (strength - loss * (n + twice) > 0) {
                upper = upper.add(BigInteger.valueOf(x).pow(twice).multiply(BigInteger.valueOf(10 - x).pow(n - twice)));
            }
        }
        BigInteger shared = upper.gcd(lower);
        return (what == 0 ? upper : lower).divide(shared).intValueExact();
    }

    int hears(int p, int n, int there) {
        if (noPlace(p) || n < 0 || n > 99 || there < 0 || there > 1) {
            return BAD;
        }
        if (heard.size() == 6) {
            return FULL;
        }
        heard.add(new int[] {p, n, there});
        return heard.size();
    }

    int forget() {
        int had = heard.size();
        heard.clear();
        return had;
    }

    private int whereBehind(int code, int n) {
        int step = (code % 10 == 0 ? 1 : -1) * (code / 10 % 10);
        return ((code / 100 + step * n) % places + places) % places;
    }

    private List<Integer> codes() {
        List<Integer> codes = new ArrayList<>();
        for (int code = 0; code < 100 * places; code++) {
            int speed = code / 10 % 10;
            boolean so = speed >= 1 && speed <= 6 && code % 10 <= 1;
            for (int[] h : heard) {
                so = so && (whereBehind(code, h[1]) == h[0]) == (h[2] == 1);
            }
            if (so) {
                codes.add(code);
            }
        }
        return codes;
    }

    int guesses(int what) {
        if (what < 0 || what > 1) {
            return BAD;
        }
        List<Integer> codes = codes();
        return what == 0 ? codes.size() : codes.isEmpty() ? NONE : codes.get(0);
    }

    int ask(int n) {
        if (n < 0 || n > 99) {
            return BAD;
        }
        List<Integer> codes = codes();
        int found = NONE, least = Integer.MAX_VALUE;
        for (int p = 0; p < places; p++) {
            int there = 0;
            for (int code : codes) {
                there += whereBehind(code, n) == p ? 1 : 0;
            }
            int not = codes.size() - there;
            if (there > 0 && not > 0 && Math.max(there, not) < least) {
                least = Math.max(there, not);
                found = p;
            }
        }
        return found;
    }

    int mark(int kind, int s) {
        if (noSaying(s) || kind < 0 || kind > 5) {
            return NO;
        }
        long[] left = {1, 11, 101, 1011, 10101, 100001};
        trace += left[kind];
        Voice v = world.voices.get(s);
        switch (kind) {
            case 0: return v.loud;
            case 1: return v.loud + strength(v);
            case 2: return v.loud - v.speed;
            case 3: return 2 * (v.loud + strength(v));
            case 4: return v.loud - v.speed + s;
            default: return v.loud + v.at;
        }
    }

    int keep(int image) {
        if (image < 0 || image > 1) {
            return BAD;
        }
        images[image] = world.whole();
        return world.tick;
    }

    int back(int image) {
        if (image < 0 || image > 1) {
            return BAD;
        }
        if (images[image] == null) {
            return STATE;
        }
        world = images[image].whole();
        return world.tick;
    }

    int count(int what) {
        int niches = 0;
        for (boolean is : niche) {
            niches += is ? 1 : 0;
        }
        int[] counts = {places, world.voices.size(), loss, niches, heard.size(), world.past.size(), text.length()};
        return what < 0 || what > 6 ? BAD : counts[what];
    }

    long trace() {
        return trace;
    }
}
