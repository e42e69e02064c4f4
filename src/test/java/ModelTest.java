import java.util.Random;

/** Long runs of calls, right and wrong ones, on the class and on the plain model at once: all answers are alike. */
public final class ModelTest {
    private static final int OBJECTS = 1500, CALLS = 512;
    private static final int[] EXTREMES = {Integer.MIN_VALUE, -1000, -2, -1, 100, 1000, Integer.MAX_VALUE};
    private static final Due due = new Due();

    private final Random random;
    private final WhisperRing x = new WhisperRing();
    private final PlainModel model = new PlainModel();
    private final int run;
    private int calls;

    private ModelTest(int run) {
        this.run = run;
        this.random = new Random(run);
    }

    public static void main(String[] args) {
        for (int run = 0; run < OBJECTS && due.wrongSoFar() < 20; run++) {
            new ModelTest(run).go();
        }
        due.end();
    }

    private void go() {
        while (calls < CALLS) {
            int choice = random.nextInt(100);
            if (choice < 3) {
                tellSomething();
            } else if (choice < 40) {
                act();
            } else {
                look();
            }
        }
    }

    private int pick(int least, int most) {
        int luck = random.nextInt(60);
        if (luck == 0) {
            return EXTREMES[random.nextInt(EXTREMES.length)];
        }
        if (luck == 1) {
            return random.nextBoolean() ? least - 1 : most + 1;
        }
        return least + random.nextInt(most - least + 1);
    }

    private int place() {
        return pick(0, model.count(0) - 1);
    }

    private int saying() {
        return pick(0, Math.max(0, model.count(1) - 1));
    }

    private void same(String call, long got, long want) {
        calls++;
        due.is("run " + run + ", call " + calls + ", " + call, got, want);
    }

    private void tellSomething() {
        same("clear()", x.clear(), model.clear());
        String text = random.nextInt(3) == 0 ? damaged(someText()) : someText();
        for (int i = 0; i < text.length() && i < 121; i++) {
            same("type(" + (int) text.charAt(i) + ")", x.type(text.charAt(i)), model.type(text.charAt(i)));
        }
        same("gallery() of '" + text + "'", x.gallery(), model.gallery());
    }

    private String someText() {
        StringBuilder text = new StringBuilder();
        int places = 12;
        if (random.nextInt(3) > 0) {
            places = random.nextBoolean() ? 4 + random.nextInt(4) : 4 + random.nextInt(21);
            text.append("n").append(places).append(";");
        }
        boolean lossTold = false;
        int sayings = 0;
        int items = random.nextInt(12);
        for (int i = 0; i < items; i++) {
            int kind = random.nextInt(5);
            if (kind == 0 && !lossTold) {
                lossTold = true;
                text.append("l").append(1 + random.nextInt(9)).append(" ;");
            } else if (kind == 1) {
                text.append("h").append(random.nextInt(places)).append(";");
            } else if (kind > 1 && sayings < 8) {
                sayings++;
                text.append("s").append(random.nextInt(places)).append(" ").append(1 + random.nextInt(6)).append(" ")
                    .append(random.nextInt(2)).append(" ").append(1 + random.nextInt(30)).append(";");
            }
        }
        return text.toString();
    }

    private String damaged(String text) {
        String signs = "nlhs;; 0123456789az!N" + (char) 9 + (char) 200;
        StringBuilder bad = new StringBuilder(text);
        int times = 1 + random.nextInt(2);
        for (int i = 0; i < times && bad.length() > 0; i++) {
            int at = random.nextInt(bad.length());
            char sign = signs.charAt(random.nextInt(signs.length()));
            switch (random.nextInt(4)) {
                case 0: bad.insert(at, sign); break;
                case 1: bad.setCharAt(at, sign); break;
                case 2: bad.deleteCharAt(at); break;
                default: bad.setLength(at);
            }
        }
        return bad.toString();
    }

    private void act() {
        int p = place(), s = saying(), n = pick(0, 99), way = pick(0, 1);
        int speed = pick(1, 6), loud = pick(1, 30), image = pick(0, 1);
        switch (random.nextInt(12)) {
            case 0:
            case 1:
                int ticks = random.nextInt(3) == 0 ? pick(1, 99) : pick(1, 6);
                same("ticks(" + ticks + ")", x.ticks(ticks), model.ticks(ticks));
                break;
            case 2:
            case 3:
                same("says(" + p + ", " + speed + ", " + way + ", " + loud + ")",
                    x.says(p, speed, way, loud), model.says(p, speed, way, loud));
                break;
            case 4:
                same("hushes(" + s + ")", x.hushes(s), model.hushes(s));
                break;
            case 5:
            case 6:
                same("undo()", x.undo(), model.undo());
                break;
            case 7:
                same("keep(" + image + ")", x.keep(image), model.keep(image));
                break;
            case 8:
                same("back(" + image + ")", x.back(image), model.back(image));
                break;
            case 9:
            case 10:
                int there = random.nextInt(4) == 0 ? 1 : pick(0, 1);
                same("hears(" + p + ", " + n + ", " + there + ")", x.hears(p, n, there), model.hears(p, n, there));
                break;
            default:
                if (random.nextInt(3) == 0) {
                    same("forget()", x.forget(), model.forget());
                }
        }
    }

    private void look() {
        int p = place(), q = place(), s = saying(), t = saying(), n = pick(0, 99), way = pick(0, 1);
        int speed = pick(1, 6), loud = pick(1, 30), what;
        switch (random.nextInt(13)) {
            case 0:
                what = pick(0, 8);
                same("saying(" + s + ", " + what + ")", x.saying(s, what), model.saying(s, what));
                break;
            case 1:
                what = pick(0, 5);
                same("place(" + p + ", " + what + ")", x.place(p, what), model.place(p, what));
                break;
            case 2:
                what = pick(0, 4);
                same("now(" + what + ")", x.now(what), model.now(what));
                break;
            case 3:
                what = pick(0, 1);
                same("when(" + s + ", " + p + ", " + what + ")", x.when(s, p, what), model.when(s, p, what));
                break;
            case 4:
                same("meet(" + s + ", " + t + ")", x.meet(s, t), model.meet(s, t));
                break;
            case 5:
                q = random.nextInt(4) == 0 ? p : q;
                same("best(" + p + ", " + q + ", " + speed + ", " + way + ", " + loud + ")",
                    x.best(p, q, speed, way, loud), model.best(p, q, speed, way, loud));
                break;
            case 6:
                same("stills(" + s + ")", x.stills(s), model.stills(s));
                break;
            case 7:
                int laps = pick(0, 6), parts = pick(0, 10);
                what = pick(0, 1);
                same("odds(" + s + ", " + laps + ", " + parts + ", " + what + ")",
                    x.odds(s, laps, parts, what), model.odds(s, laps, parts, what));
                break;
            case 8:
                what = pick(0, 1);
                same("guesses(" + what + ")", x.guesses(what), model.guesses(what));
                break;
            case 9:
                same("ask(" + n + ")", x.ask(n), model.ask(n));
                break;
            case 10:
                int kind = pick(0, 5);
                same("mark(" + kind + ", " + s + ")", x.mark(kind, s), model.mark(kind, s));
                break;
            case 11:
                what = pick(0, 6);
                same("count(" + what + ")", x.count(what), model.count(what));
                break;
            default:
                same("trace()", x.trace(), model.trace());
        }
    }
}
