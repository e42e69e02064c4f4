/**
 * A whispering gallery: a ring of places under a dome, and sayings that go
 * round by its inside, lap by lap less loud, until they are only breath.
 * The words in capitals are those of the document.
 */
public final class WhisperRing {
    public static final int BAD = -1, STATE = -2, FULL = -3, NONE = -9;
    /** What none is, where a number may be below 0. */
    public static final int NO = -1000000;

    private static final int LEAST_PLACES = 4, MOST_PLACES = 24, FIRST_PLACES = 12;
    private static final int MOST_LOSS = 9, FIRST_LOSS = 1;
    private static final int MOST_SAYINGS = 8, MOST_SPEED = 6, MOST_LOUD = 30;
    private static final int MOST_BYTES = 120, MOST_HEARD = 6, MOST_UNDONE = 10, IMAGES = 2;
    private static final int LAST_TICK = 9999, MOST_TICKS = 99;
    private static final int FAR_AHEAD = 999, NEAR_AHEAD = 99;
    /** As many as there are SPEEDS, by two WAYS. */
    private static final int GUESSES_A_PLACE = 2 * MOST_SPEED;
    private static final int MOST_ODDS_LAPS = 6, ODDS_PARTS = 10;
    private static final int VOW = 1, RUMOUR = 2, CURSE = 3, LIE = 4, HYMN = 5;

    private final Script script;
    private final Hearsay hearsay;
    private final Moment[] images;
    private final boolean[] kept;
    /** How many guesses would be at each PLACE: made once, filled anew by each ask(). */
    private final int[] guessesAt;
    private Hall hall;
    /** What gallery() reads into, so that a FAULT leaves the hall as it is. */
    private Hall draft;
    private long trace;

    public WhisperRing() {
        script = new Script();
        hearsay = new Hearsay();
        images = new Moment[IMAGES];
        for (int image = 0; image < IMAGES; image++) {
            images[image] = new Moment();
        }
        kept = new boolean[IMAGES];
        guessesAt = new int[MOST_PLACES];
        hall = new Hall();
        draft = new Hall();
    }

    // ---- the gallery

    public int type(int c) {
        if (!within(c, 0, 255)) {
            return BAD;
        }
        return script.append(c) ? script.size : FULL;
    }

    public int clear() {
        int had = script.size;
        script.size = 0;
        return had;
    }

    public int gallery() {
        int items = script.readInto(draft);
        if (items < 0) {
            return items;
        }
        Hall old = hall;
        hall = draft;
        draft = old;
        script.size = 0;
        hearsay.size = 0;
        for (int image = 0; image < IMAGES; image++) {
            kept[image] = false;
        }
        return items;
    }

    public int saying(int s, int what) {
        if (!hall.hasSaying(s)) {
            return BAD;
        }
        Moment now = hall.now;
        switch (what) {
            case 0: return now.from[s];
            case 1: return now.speed[s];
            case 2: return now.way[s];
            case 3: return now.loud[s];
            case 4: return hall.placeAfter(s, 0);
            case 5: return hall.lapsAfter(s, 0);
            case 6: return hall.strengthAfter(s, 0);
            case 7: return now.isHushed(s) ? 1 : 0;
            case 8: return hall.lastOf(s);
            default: return BAD;
        }
    }

    public int place(int p, int what) {
        if (!hall.hasPlace(p)) {
            return BAD;
        }
        hall.listen(0);
        switch (what) {
            case 0: return hall.isNiche(p) ? 1 : 0;
            case 1: return hall.soundingAt(p);
            case 2: return hall.clearAt(p);
            case 3: return hall.isSea(p) ? 1 : 0;
            case 4: return hall.isNiche(p) ? 2 * hall.strengthAt(p) : hall.strengthAt(p);
            case 5: return hall.quietOf(p);
            default: return BAD;
        }
    }

    // ---- what is done

    public int ticks(int n) {
        if (!within(n, 1, MOST_TICKS)) {
            return BAD;
        }
        if (hall.now.tick + n > LAST_TICK) {
            return STATE;
        }
        hall.now.goBy(n);
        hall.listen(0);
        return Integer.bitCount(hall.lasting());
    }

    public int says(int p, int speed, int way, int loud) {
        if (!maySay(p, speed, way, loud)) {
            return BAD;
        }
        if (!hall.now.add(p, speed, way, loud)) {
            return FULL;
        }
        hall.now.note(Moment.SAID);
        return hall.now.sayings - 1;
    }

    public int hushes(int s) {
        if (!hall.hasSaying(s)) {
            return BAD;
        }
        int had = hall.strengthAfter(s, 0);
        if (had == 0) {
            return STATE;
        }
        hall.now.hush(s);
        return had;
    }

    public int undo() {
        return hall.now.takeBack() ? hall.now.noted : STATE;
    }

    public int now(int what) {
        hall.listen(0);
        switch (what) {
            case 0: return hall.now.tick;
            case 1: return hall.lasting();
            case 2: return hall.strengthOf(hall.lasting());
            case 3: return hall.placesThatSound();
            case 4: return hall.seas();
            default: return BAD;
        }
    }

    // ---- when, where

    public int when(int s, int p, int what) {
        if (!hall.hasSaying(s) || !hall.hasPlace(p)) {
            return BAD;
        }
        switch (what) {
            case 0: return hall.whenAt(s, p);
            case 1: return hall.oftenAt(s, p);
            default: return BAD;
        }
    }

    public int meet(int s, int t) {
        if (!hall.hasSaying(s) || !hall.hasSaying(t) || s == t) {
            return BAD;
        }
        return hall.meetingOf(s, t);
    }

    public int best(int p, int q, int speed, int way, int loud) {
        if (!maySay(p, speed, way, loud) || !hall.hasPlace(q)) {
            return BAD;
        }
        int under = hall.ticksTo(p, q, speed, way);
        if (under == NONE) {
            return NONE;
        }
        int strength = hall.strengthLeft(loud, speed * under);
        if (strength == 0) {
            return NONE;
        }
        return hall.firstWait(q, under, strength);
    }

    public int stills(int s) {
        if (!hall.hasSaying(s)) {
            return BAD;
        }
        if (hall.strengthAfter(s, 0) == 0) {
            return NONE;
        }
        hall.listen(0);
        return hall.fewestToHush(s);
    }

    public int odds(int s, int n, int x, int what) {
        if (!hall.hasSaying(s) || !within(n, 0, MOST_ODDS_LAPS)
                || !within(x, 0, ODDS_PARTS) || !within(what, 0, 1)) {
            return BAD;
        }
        int whole = 1;
        for (int lap = 0; lap < n; lap++) {
            whole *= ODDS_PARTS;
        }
        int upper = lastingParts(hall.strengthAfter(s, 0), hall.loss, n, x);
        int shared = commonDivisor(whole, upper);
        if (shared < 1) {
            return BAD;
        }
        return what == 0 ? upper / shared : whole / shared;
    }

    // ---- what was said

    public int hears(int p, int n, int there) {
        if (!hall.hasPlace(p) || !within(n, 0, NEAR_AHEAD) || !within(there, 0, 1)) {
            return BAD;
        }
        return hearsay.add(p, n, there) ? hearsay.size : FULL;
    }

    public int forget() {
        int had = hearsay.size;
        hearsay.size = 0;
        return had;
    }

    public int guesses(int what) {
        switch (what) {
            case 0: return guessCount();
            case 1: return firstGuess();
            default: return BAD;
        }
    }

    public int ask(int n) {
        if (!within(n, 0, NEAR_AHEAD)) {
            return BAD;
        }
        int all = sortGuesses(n);
        int least = all;
        int answer = NONE;
        for (int p = 0; p < hall.places && p < MOST_PLACES; p++) {
            int greater = Math.max(guessesAt[p], all - guessesAt[p]);
            if (greater < least) {
                least = greater;
                answer = p;
            }
        }
        return answer;
    }

    // ---- kinds, images

    public int mark(int kind, int s) {
        if (!hall.hasSaying(s)) {
            return NO;
        }
        switch (kind) {
            case 0: return asSaying(s);
            case VOW: return asVow(s);
            case RUMOUR: return asRumour(s);
            case CURSE: return asCurse(s);
            case LIE: return asLie(s);
            case HYMN: return asHymn(s);
            default: return NO;
        }
    }

    public int keep(int image) {
        if (!within(image, 0, IMAGES - 1)) {
            return BAD;
        }
        images[image].become(hall.now);
        kept[image] = true;
        return hall.now.tick;
    }

    public int back(int image) {
        if (!within(image, 0, IMAGES - 1)) {
            return BAD;
        }
        if (!kept[image]) {
            return STATE;
        }
        hall.now.become(images[image]);
        return hall.now.tick;
    }

    public int count(int what) {
        switch (what) {
            case 0: return hall.places;
            case 1: return hall.now.sayings;
            case 2: return hall.loss;
            case 3: return Integer.bitCount(hall.niches);
            case 4: return hearsay.size;
            case 5: return hall.now.noted;
            case 6: return script.size;
            default: return BAD;
        }
    }

    public long trace() {
        return trace;
    }

    // ---- what the calls share

    private static boolean within(int number, int least, int most) {
        return number >= least && number <= most;
    }

    private boolean maySay(int p, int speed, int way, int loud) {
        return hall.hasPlace(p) && within(speed, 1, MOST_SPEED)
                && within(way, 0, 1) && within(loud, 1, MOST_LOUD);
    }

    /**
     * Of 10 to the power of n equal parts, those in which the strength is above 0
     * behind n LAPS. n is ODDS' own, 6 at most, and falls: so the depth has an end.
     */
    private static int lastingParts(int strength, int loss, int n, int x) {
        if (strength <= 0) {
            return 0;
        }
        if (n <= 0) {
            return 1;
        }
        return (ODDS_PARTS - x) * lastingParts(strength - loss, loss, n - 1, x)
                + x * lastingParts(strength - 2 * loss, loss, n - 1, x);
    }

    private static int commonDivisor(int a, int b) {
        int greater = a;
        int lesser = b;
        // Two numbers below 2 to the power of 31 need fewer than 64 divisions.
        for (int step = 0; step < 64 && lesser > 0; step++) {
            int rest = greater % lesser;
            greater = lesser;
            lesser = rest;
        }
        return greater;
    }

    private int guessCount() {
        int count = 0;
        for (int guess = 0; guess < hall.places * GUESSES_A_PLACE; guess++) {
            if (hearsay.fits(hall, guess)) {
                count++;
            }
        }
        return count;
    }

    private int firstGuess() {
        for (int guess = 0; guess < hall.places * GUESSES_A_PLACE; guess++) {
            if (hearsay.fits(hall, guess)) {
                return 100 * Hearsay.placeIn(guess) + 10 * Hearsay.speedIn(guess) + Hearsay.wayIn(guess);
            }
        }
        return NONE;
    }

    /** Counts the guesses by the PLACE where each would be n ticks behind; answers how many there are. */
    private int sortGuesses(int n) {
        for (int p = 0; p < MOST_PLACES; p++) {
            guessesAt[p] = 0;
        }
        int all = 0;
        for (int guess = 0; guess < hall.places * GUESSES_A_PLACE; guess++) {
            int there = Hearsay.placeBehind(hall, guess, n);
            if (hearsay.fits(hall, guess) && within(there, 0, MOST_PLACES - 1)) {
                guessesAt[there]++;
                all++;
            }
        }
        return all;
    }

    private int asSaying(int s) {
        trace += 1;
        return hall.now.loud[s];
    }

    private int asVow(int s) {
        trace += 10;
        return asSaying(s) + hall.strengthAfter(s, 0);
    }

    private int asRumour(int s) {
        trace += 100;
        return asSaying(s) - hall.now.speed[s];
    }

    private int asCurse(int s) {
        trace += 1000;
        return asVow(s) * 2;
    }

    private int asLie(int s) {
        trace += 10000;
        return asRumour(s) + s;
    }

    private int asHymn(int s) {
        trace += 100000;
        return asSaying(s) + hall.placeAfter(s, 0);
    }

    /** NOW: the TICK, the SAYINGS, and what may be UNDONE; what an IMAGE keeps. */
    private static final class Moment {
        /** A noted deed is this, or the ticks that went by (above 0), or FIRST_HUSH less the SAYING hushed. */
        static final int SAID = 0, FIRST_HUSH = -1;

        int tick;
        int sayings;
        int hushed;
        int noted;
        final int[] from = new int[MOST_SAYINGS];
        final int[] speed = new int[MOST_SAYINGS];
        final int[] way = new int[MOST_SAYINGS];
        final int[] loud = new int[MOST_SAYINGS];
        final int[] saidAt = new int[MOST_SAYINGS];
        final int[] deeds = new int[MOST_UNDONE];

        void empty() {
            tick = 0;
            sayings = 0;
            hushed = 0;
            noted = 0;
        }

        void become(Moment other) {
            tick = other.tick;
            sayings = other.sayings;
            hushed = other.hushed;
            noted = other.noted;
            System.arraycopy(other.from, 0, from, 0, MOST_SAYINGS);
            System.arraycopy(other.speed, 0, speed, 0, MOST_SAYINGS);
            System.arraycopy(other.way, 0, way, 0, MOST_SAYINGS);
            System.arraycopy(other.loud, 0, loud, 0, MOST_SAYINGS);
            System.arraycopy(other.saidAt, 0, saidAt, 0, MOST_SAYINGS);
            System.arraycopy(other.deeds, 0, deeds, 0, MOST_UNDONE);
        }

        boolean isHushed(int s) {
            return (hushed >> s & 1) == 1;
        }

        /** Not noted here: what a text tells can't be UNDONE. */
        boolean add(int p, int itsSpeed, int itsWay, int itsLoud) {
            if (sayings >= MOST_SAYINGS) {
                return false;
            }
            from[sayings] = p;
            speed[sayings] = itsSpeed;
            way[sayings] = itsWay;
            loud[sayings] = itsLoud;
            saidAt[sayings] = tick;
            sayings++;
            return true;
        }

        void goBy(int n) {
            tick += n;
            note(n);
        }

        void hush(int s) {
            hushed |= 1 << s;
            note(FIRST_HUSH - s);
        }

        void note(int deed) {
            if (noted >= MOST_UNDONE) {
                System.arraycopy(deeds, 1, deeds, 0, MOST_UNDONE - 1);
                noted = MOST_UNDONE - 1;
            }
            deeds[noted] = deed;
            noted++;
        }

        boolean takeBack() {
            if (noted <= 0) {
                return false;
            }
            noted--;
            int deed = deeds[noted];
            if (deed == SAID) {
                sayings--;
            } else if (deed > SAID) {
                tick -= deed;
            } else {
                hushed &= ~(1 << FIRST_HUSH - deed);
            }
            return true;
        }
    }

    /** PLACES, LOSS and NICHES, with the Moment that it is there: what sounds where, and when. */
    private static final class Hall {
        int places = FIRST_PLACES;
        int loss = FIRST_LOSS;
        int niches;
        final Moment now = new Moment();
        private final int[] at = new int[MOST_SAYINGS];
        private final int[] strength = new int[MOST_SAYINGS];

        void empty() {
            places = FIRST_PLACES;
            loss = FIRST_LOSS;
            niches = 0;
            now.empty();
        }

        boolean hasPlace(int p) {
            return within(p, 0, places - 1);
        }

        boolean hasSaying(int s) {
            return within(s, 0, now.sayings - 1);
        }

        boolean isNiche(int p) {
            return (niches >> p & 1) == 1;
        }

        /** The PLACE that is so far behind p, to the right (0) or to the left (1). */
        int reach(int p, int way, int gone) {
            int far = way == 0 ? p + gone : p - gone;
            return places > 0 ? Math.floorMod(far, places) : 0;
        }

        int lapsOf(int gone) {
            return places > 0 ? gone / places : 0;
        }

        int strengthLeft(int loud, int gone) {
            return Math.max(0, loud - loss * lapsOf(gone));
        }

        int goneAfter(int s, int ahead) {
            return now.speed[s] * (now.tick + ahead - now.saidAt[s]);
        }

        int placeAfter(int s, int ahead) {
            return reach(now.from[s], now.way[s], goneAfter(s, ahead));
        }

        int lapsAfter(int s, int ahead) {
            return lapsOf(goneAfter(s, ahead));
        }

        int strengthAfter(int s, int ahead) {
            return now.isHushed(s) ? 0 : strengthLeft(now.loud[s], goneAfter(s, ahead));
        }

        boolean sounds(int s, int p, int ahead) {
            return placeAfter(s, ahead) == p && strengthAfter(s, ahead) > 0;
        }

        /** Notes where each SAYING is so many ticks from now, and its STRENGTH, for the questions below. */
        void listen(int ahead) {
            for (int s = 0; s < now.sayings; s++) {
                at[s] = placeAfter(s, ahead);
                strength[s] = strengthAfter(s, ahead);
            }
        }

        int soundingAt(int p) {
            int bits = 0;
            for (int s = 0; s < now.sayings; s++) {
                if (at[s] == p && strength[s] > 0) {
                    bits |= 1 << s;
                }
            }
            return bits;
        }

        /** All STRENGTH at a PLACE; a NICHE doubles each alike, so who is CLEAR can be told without it. */
        int strengthAt(int p) {
            int sum = 0;
            for (int s = 0; s < now.sayings; s++) {
                if (at[s] == p) {
                    sum += strength[s];
                }
            }
            return sum;
        }

        int clearAt(int p) {
            int all = strengthAt(p);
            for (int s = 0; s < now.sayings; s++) {
                if (at[s] == p && 2 * strength[s] > all) {
                    return s;
                }
            }
            return NONE;
        }

        boolean isSea(int p) {
            return soundingAt(p) != 0 && clearAt(p) == NONE;
        }

        /** The SAYINGS that are not BREATH, as bits. */
        int lasting() {
            int bits = 0;
            for (int s = 0; s < now.sayings; s++) {
                if (strength[s] > 0) {
                    bits |= 1 << s;
                }
            }
            return bits;
        }

        int strengthOf(int bits) {
            int sum = 0;
            for (int s = 0; s < now.sayings; s++) {
                if ((bits >> s & 1) == 1) {
                    sum += strength[s];
                }
            }
            return sum;
        }

        int placesThatSound() {
            int count = 0;
            for (int p = 0; p < places; p++) {
                if (soundingAt(p) != 0) {
                    count++;
                }
            }
            return count;
        }

        int seas() {
            int count = 0;
            for (int p = 0; p < places; p++) {
                if (isSea(p)) {
                    count++;
                }
            }
            return count;
        }

        int fewestToHush(int s) {
            int others = soundingAt(at[s]) & ~(1 << s);
            int fewest = others;
            // Sets are met from the least up, so a later one must be smaller to be better.
            for (int set = 0; set <= others; set++) {
                boolean smaller = Integer.bitCount(set) < Integer.bitCount(fewest);
                if (smaller && (set & ~others) == 0 && strength[s] > strengthOf(others & ~set)) {
                    fewest = set;
                }
            }
            return fewest;
        }

        int lastOf(int s) {
            for (int ahead = 0; ahead <= FAR_AHEAD; ahead++) {
                if (strengthAfter(s, ahead) == 0) {
                    return ahead;
                }
            }
            return NONE;
        }

        int quietOf(int p) {
            for (int ahead = 0; ahead <= NEAR_AHEAD; ahead++) {
                listen(ahead);
                if (soundingAt(p) == 0) {
                    return ahead;
                }
            }
            return NONE;
        }

        int whenAt(int s, int p) {
            for (int ahead = 0; ahead <= FAR_AHEAD; ahead++) {
                if (sounds(s, p, ahead)) {
                    return ahead;
                }
            }
            return NONE;
        }

        int oftenAt(int s, int p) {
            int count = 0;
            for (int ahead = 0; ahead <= FAR_AHEAD; ahead++) {
                if (sounds(s, p, ahead)) {
                    count++;
                }
            }
            return count;
        }

        int meetingOf(int s, int t) {
            for (int ahead = 0; ahead <= FAR_AHEAD; ahead++) {
                if (strengthAfter(s, ahead) > 0 && sounds(t, placeAfter(s, ahead), ahead)) {
                    return ahead;
                }
            }
            return NONE;
        }

        /** How many ticks from p to q: behind as many as there are PLACES it would be at p again. */
        int ticksTo(int p, int q, int speed, int way) {
            for (int n = 0; n < places; n++) {
                if (reach(p, way, speed * n) == q) {
                    return n;
                }
            }
            return NONE;
        }

        /** The first wait by which what comes to q under way so long, with this STRENGTH, is CLEAR there. */
        int firstWait(int q, int under, int own) {
            for (int wait = 0; wait <= NEAR_AHEAD; wait++) {
                listen(wait + under);
                if (own > strengthAt(q)) {
                    return wait;
                }
            }
            return NONE;
        }
    }

    /**
     * What was HEARD of an unknown SAYING. A guess at it is a number: by PLACE, then SPEED,
     * then WAY, so that the first that fits is also the least as GUESSES tell it.
     */
    private static final class Hearsay {
        int size;
        private final int[] at = new int[MOST_HEARD];
        private final int[] behind = new int[MOST_HEARD];
        private final int[] there = new int[MOST_HEARD];

        boolean add(int p, int n, int wasThere) {
            if (size >= MOST_HEARD) {
                return false;
            }
            at[size] = p;
            behind[size] = n;
            there[size] = wasThere;
            size++;
            return true;
        }

        static int placeIn(int guess) {
            return guess / GUESSES_A_PLACE;
        }

        static int speedIn(int guess) {
            return guess % GUESSES_A_PLACE / 2 + 1;
        }

        static int wayIn(int guess) {
            return guess % 2;
        }

        /** Where the unknown SAYING is, n ticks behind that in which it was said, if the guess is right. */
        static int placeBehind(Hall hall, int guess, int n) {
            return hall.reach(placeIn(guess), wayIn(guess), speedIn(guess) * n);
        }

        /** Whether all that was HEARD is so by that guess. */
        boolean fits(Hall hall, int guess) {
            for (int i = 0; i < size; i++) {
                boolean is = placeBehind(hall, guess, behind[i]) == at[i];
                if (is != (there[i] == 1)) {
                    return false;
                }
            }
            return true;
        }
    }

    /** THE TEXT, and its reading TOKEN by TOKEN. */
    private static final class Script {
        private static final int END = 0, LETTERS = 1, NUMBER = 2, STOP = 3, WRONG = 4;
        private static final int FAULT_ABOVE = -10, NO_ITEM = 0;

        int size;
        private final int[] bytes = new int[MOST_BYTES];
        /** Where the reading is: behind the TOKEN that begins at tokenAt. */
        private int next;
        private int tokenAt;
        private int token;
        private int value;
        private boolean lossTold;

        boolean append(int c) {
            if (size >= MOST_BYTES) {
                return false;
            }
            bytes[size] = c;
            size++;
            return true;
        }

        /** How many ITEMS, or -10 less FAULT: then what stands in the hall is to be thrown away. */
        int readInto(Hall hall) {
            hall.empty();
            lossTold = false;
            next = 0;
            int items = 0;
            step();
            while (items < MOST_BYTES && token != END) {
                if (!readItem(hall, items)) {
                    return FAULT_ABOVE - tokenAt;
                }
                items++;
            }
            return items;
        }

        /** False at a FAULT: the TOKEN reached is the one that can't stand there. */
        private boolean readItem(Hall hall, int itemsAhead) {
            if (token != LETTERS) {
                return false;
            }
            switch (value) {
                case 'n': return itemsAhead == 0 && readPlaces(hall);
                case 'l': return !lossTold && readLoss(hall);
                case 'h': return readNiche(hall);
                case 's': return hall.now.sayings < MOST_SAYINGS && readSaying(hall);
                default: return false;
            }
        }

        private boolean readPlaces(Hall hall) {
            if (!readNumber(LEAST_PLACES, MOST_PLACES)) {
                return false;
            }
            hall.places = value;
            return readStop();
        }

        private boolean readLoss(Hall hall) {
            if (!readNumber(1, MOST_LOSS)) {
                return false;
            }
            hall.loss = value;
            lossTold = true;
            return readStop();
        }

        private boolean readNiche(Hall hall) {
            if (!readNumber(0, hall.places - 1)) {
                return false;
            }
            hall.niches |= 1 << value;
            return readStop();
        }

        private boolean readSaying(Hall hall) {
            if (!readNumber(0, hall.places - 1)) {
                return false;
            }
            int p = value;
            if (!readNumber(1, MOST_SPEED)) {
                return false;
            }
            int speed = value;
            if (!readNumber(0, 1)) {
                return false;
            }
            int way = value;
            if (!readNumber(1, MOST_LOUD)) {
                return false;
            }
            return hall.now.add(p, speed, way, value) && readStop();
        }

        private boolean readNumber(int least, int most) {
            step();
            return token == NUMBER && within(value, least, most);
        }

        /** Past the ; to the first TOKEN of the next ITEM, or the end. */
        private boolean readStop() {
            step();
            if (token != STOP) {
                return false;
            }
            step();
            return true;
        }

        private void step() {
            while (next < size && bytes[next] == ' ') {
                next++;
            }
            tokenAt = next;
            token = next < size ? tokenOf(bytes[next]) : END;
            value = NO_ITEM;
            if (token == LETTERS || token == NUMBER) {
                while (next < size && tokenOf(bytes[next]) == token) {
                    next++;
                }
                weigh(next - tokenAt);
            } else if (token != END) {
                next++;
            }
        }

        private static int tokenOf(int c) {
            if (c >= 'a' && c <= 'z') {
                return LETTERS;
            }
            if (c >= '0' && c <= '9') {
                return NUMBER;
            }
            return c == ';' ? STOP : WRONG;
        }

        /** What the letters or digits at tokenAt are: no ITEM begins by two letters, no NUMBER has three digits. */
        private void weigh(int length) {
            if (length == 1 && tokenAt < size) {
                value = token == NUMBER ? bytes[tokenAt] - '0' : bytes[tokenAt];
            } else if (token == NUMBER) {
                boolean stands = length == 2 && tokenAt + 1 < size && bytes[tokenAt] != '0';
                token = stands ? NUMBER : WRONG;
                value = stands ? 10 * (bytes[tokenAt] - '0') + bytes[tokenAt + 1] - '0' : NO_ITEM;
            }
        }
    }
}
