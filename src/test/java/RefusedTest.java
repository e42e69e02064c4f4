import java.util.function.ToLongFunction;

/**
 * "Refused, and nothing changes, the first of these: BAD (a number is not as told, or there is no such thing),
 * STATE (as told), FULL." Each call by its first wrong numbers on either side, in each scene: so BAD is asked
 * for, too, where STATE or FULL would be due behind it. By its last good numbers it is not refused.
 */
public final class RefusedTest {
    private static final int BAD = -1, STATE = -2, FULL = -3, NO = -1000000;
    private static final Due due = new Due();
    private static Scene scene;

    public static void main(String[] args) {
        for (Scene each : Scene.all()) {
            scene = each;
            theGallery();
            whatIsDone();
            whenAndMeet();
            best();
            stillsAndOdds();
            whatWasSaid();
            kindsAndImages();
        }
        scene = null;
        refusedByState();
        refusedAsFull();
        due.end();
    }

    // ---- by each scene

    private static void theGallery() {
        for (int c : outside(0, 255)) {
            bad("2 type(" + c + ")", x -> x.type(c));
        }
        for (int s : outside(0, scene.sayings - 1)) {
            bad("5 saying(" + s + ", 0)", x -> x.saying(s, 0));
            bad("5 saying(" + s + ", 9)", x -> x.saying(s, 9));
        }
        for (int what : outside(0, 8)) {
            bad("5 saying(0, " + what + ")", x -> x.saying(0, what));
        }
        for (int p : outside(0, scene.places - 1)) {
            bad("6 place(" + p + ", 0)", x -> x.place(p, 0));
            bad("6 place(" + p + ", 5)", x -> x.place(p, 5));
        }
        for (int what : outside(0, 5)) {
            bad("6 place(0, " + what + ")", x -> x.place(0, what));
        }
        for (int what = 0; what <= 5; what++) {
            int which = what;
            asked("6 place(0, " + what + ")", x -> x.place(0, which));
            asked("6 place(the last, " + what + ")", x -> x.place(scene.places - 1, which));
        }
        for (int what = 0; what <= 8 && scene.sayings > 0; what++) {
            int which = what;
            asked("5 saying(0, " + what + ")", x -> x.saying(0, which));
            asked("5 saying(the last, " + what + ")", x -> x.saying(scene.sayings - 1, which));
        }
    }

    private static void whatIsDone() {
        for (int n : outside(1, 99)) {
            bad("7 ticks(" + n + ")", x -> x.ticks(n));
        }
        for (int p : outside(0, scene.places - 1)) {
            bad("8 says(" + p + ", 1, 0, 1)", x -> x.says(p, 1, 0, 1));
        }
        for (int speed : outside(1, 6)) {
            bad("8 says(0, " + speed + ", 0, 1)", x -> x.says(0, speed, 0, 1));
        }
        for (int way : outside(0, 1)) {
            bad("8 says(0, 1, " + way + ", 1)", x -> x.says(0, 1, way, 1));
        }
        for (int loud : outside(1, 30)) {
            bad("8 says(0, 1, 0, " + loud + ")", x -> x.says(0, 1, 0, loud));
        }
        for (int s : outside(0, scene.sayings - 1)) {
            bad("9 hushes(" + s + ")", x -> x.hushes(s));
        }
        for (int what : outside(0, 4)) {
            bad("11 now(" + what + ")", x -> x.now(what));
        }
        for (int what = 0; what <= 4; what++) {
            int which = what;
            asked("11 now(" + what + ")", x -> x.now(which));
        }
    }

    private static void whenAndMeet() {
        int last = scene.sayings - 1;
        for (int s : outside(0, last)) {
            bad("12 when(" + s + ", 0, 0)", x -> x.when(s, 0, 0));
            bad("12 when(" + s + ", 0, 1)", x -> x.when(s, 0, 1));
            bad("13 meet(" + s + ", 0)", x -> x.meet(s, 0));
            bad("13 meet(0, " + s + ")", x -> x.meet(0, s));
            bad("13 meet(" + s + ", " + s + ")", x -> x.meet(s, s));
        }
        for (int p : outside(0, scene.places - 1)) {
            bad("12 when(0, " + p + ", 0)", x -> x.when(0, p, 0));
            bad("12 when(0, " + p + ", 1)", x -> x.when(0, p, 1));
        }
        for (int what : outside(0, 1)) {
            bad("12 when(0, 0, " + what + ")", x -> x.when(0, 0, what));
        }
        for (int s = 0; s <= last; s++) {
            int alike = s;
            bad("13 meet(" + s + ", " + s + "), alike ones", x -> x.meet(alike, alike));
            asked("12 when(" + s + ", 0, 0)", x -> x.when(alike, 0, 0));
            asked("12 when(" + s + ", the last, 1)", x -> x.when(alike, scene.places - 1, 1));
        }
        if (last > 0) {
            asked("13 meet(0, the last)", x -> x.meet(0, last));
            asked("13 meet(the last, 0)", x -> x.meet(last, 0));
        }
    }

    private static void best() {
        int last = scene.places - 1;
        for (int p : outside(0, last)) {
            bad("14 best(" + p + ", 0, 1, 0, 1)", x -> x.best(p, 0, 1, 0, 1));
            bad("14 best(0, " + p + ", 1, 0, 1)", x -> x.best(0, p, 1, 0, 1));
            bad("14 best(" + p + ", " + p + ", 1, 0, 1)", x -> x.best(p, p, 1, 0, 1));
        }
        for (int speed : outside(1, 6)) {
            bad("14 best(0, 0, " + speed + ", 0, 1)", x -> x.best(0, 0, speed, 0, 1));
        }
        for (int way : outside(0, 1)) {
            bad("14 best(0, 0, 1, " + way + ", 1)", x -> x.best(0, 0, 1, way, 1));
        }
        for (int loud : outside(1, 30)) {
            bad("14 best(0, 0, 1, 0, " + loud + ")", x -> x.best(0, 0, 1, 0, loud));
        }
        asked("14 best(0, the last, 1, 0, 1)", x -> x.best(0, last, 1, 0, 1));
        asked("14 best(the last, 0, 6, 1, 30)", x -> x.best(last, 0, 6, 1, 30));
    }

    private static void stillsAndOdds() {
        int last = scene.sayings - 1;
        for (int s : outside(0, last)) {
            bad("15 stills(" + s + ")", x -> x.stills(s));
            bad("16 odds(" + s + ", 0, 0, 0)", x -> x.odds(s, 0, 0, 0));
        }
        for (int n : outside(0, 6)) {
            bad("16 odds(0, " + n + ", 0, 0)", x -> x.odds(0, n, 0, 0));
        }
        for (int parts : outside(0, 10)) {
            bad("16 odds(0, 0, " + parts + ", 0)", x -> x.odds(0, 0, parts, 0));
        }
        for (int what : outside(0, 1)) {
            bad("16 odds(0, 0, 0, " + what + ")", x -> x.odds(0, 0, 0, what));
        }
        for (int s = 0; s <= last; s++) {
            int its = s;
            asked("15 stills(" + s + ")", x -> x.stills(its));
            asked("16 odds(" + s + ", 0, 0, 0)", x -> x.odds(its, 0, 0, 0));
            asked("16 odds(" + s + ", 6, 10, 1)", x -> x.odds(its, 6, 10, 1));
        }
    }

    private static void whatWasSaid() {
        for (int p : outside(0, scene.places - 1)) {
            bad("17 hears(" + p + ", 0, 0)", x -> x.hears(p, 0, 0));
        }
        for (int n : outside(0, 99)) {
            bad("17 hears(0, " + n + ", 0)", x -> x.hears(0, n, 0));
            bad("20 ask(" + n + ")", x -> x.ask(n));
        }
        for (int there : outside(0, 1)) {
            bad("17 hears(0, 0, " + there + ")", x -> x.hears(0, 0, there));
            bad("19 guesses(" + there + ")", x -> x.guesses(there));
        }
        asked("19 guesses(0)", x -> x.guesses(0));
        asked("19 guesses(1)", x -> x.guesses(1));
        asked("20 ask(0)", x -> x.ask(0));
        asked("20 ask(99)", x -> x.ask(99));
    }

    private static void kindsAndImages() {
        for (int s : outside(0, scene.sayings - 1)) {
            refused("21 mark(0, " + s + ")", NO, x -> x.mark(0, s));
            refused("21 mark(5, " + s + ")", NO, x -> x.mark(5, s));
        }
        for (int kind : outside(0, 5)) {
            refused("21 mark(" + kind + ", 0)", NO, x -> x.mark(kind, 0));
        }
        for (int image : outside(0, 1)) {
            bad("22 keep(" + image + ")", x -> x.keep(image));
            bad("23 back(" + image + ")", x -> x.back(image));
        }
        for (int what : outside(0, 6)) {
            bad("24 count(" + what + ")", x -> x.count(what));
        }
        for (int what = 0; what <= 6; what++) {
            int which = what;
            asked("24 count(" + what + ")", x -> x.count(which));
        }
        asked("25 trace()", WhisperRing::trace);
    }

    // ---- STATE and FULL, where they are due

    private static void refusedByState() {
        for (Scene each : Scene.all()) {
            scene = each;
            switch (each.name) {
                case "at first":
                    refused("10 undo(), none", STATE, WhisperRing::undo);
                    refused("23 back(0), none was kept", STATE, x -> x.back(0));
                    refused("23 back(1), none was kept", STATE, x -> x.back(1));
                    break;
                case "midway":
                    refused("9 hushes(0), hushed already", STATE, x -> x.hushes(0));
                    refused("9 hushes(1), breath by itself", STATE, x -> x.hushes(1));
                    break;
                case "at the last tick":
                    refused("7 ticks(1), 10000", STATE, x -> x.ticks(1));
                    refused("7 ticks(99), 10098", STATE, x -> x.ticks(99));
                    refused("23 back(1), only 0 was kept", STATE, x -> x.back(1));
                    refused("4 gallery(), l0", -10 - 4, WhisperRing::gallery);
                    break;
                default:
                    refused("9 hushes(7), hushed already", STATE, x -> x.hushes(7));
            }
        }
        scene = new Scene("all undone", 5, 2, RefusedTest::allUndone);
        refused("10 undo(), none any more", STATE, WhisperRing::undo);
        scene = new Scene("read anew", 6, 1, RefusedTest::readAnew);
        refused("10 undo(), read anew", STATE, WhisperRing::undo);
        refused("23 back(0), read anew", STATE, x -> x.back(0));
        refused("23 back(1), read anew", STATE, x -> x.back(1));
    }

    private static void refusedAsFull() {
        for (Scene each : Scene.all()) {
            if (each.name.equals("full")) {
                scene = each;
                refused("2 type(0), a byte more than 120", FULL, x -> x.type(0));
                refused("2 type(255), a byte more than 120", FULL, x -> x.type(255));
                refused("8 says(0, 1, 0, 1), a ninth", FULL, x -> x.says(0, 1, 0, 1));
                refused("8 says(23, 6, 1, 30), a ninth", FULL, x -> x.says(23, 6, 1, 30));
                refused("17 hears(0, 0, 0), a seventh", FULL, x -> x.hears(0, 0, 0));
                refused("17 hears(23, 99, 1), a seventh", FULL, x -> x.hears(23, 99, 1));
            }
        }
    }

    private static WhisperRing allUndone() {
        WhisperRing x = Scene.midway();
        for (int i = 0; i < 4; i++) {
            x.undo();
        }
        return x;
    }

    private static WhisperRing readAnew() {
        WhisperRing x = Scene.midway();
        x.gallery();
        return x;
    }

    // ---- how it is asked

    private static int[] outside(int least, int most) {
        return new int[] {least - 1, most + 1, Integer.MIN_VALUE, Integer.MAX_VALUE};
    }

    private static void bad(String call, ToLongFunction<WhisperRing> it) {
        refused(call, BAD, it);
    }

    private static void refused(String call, long answer, ToLongFunction<WhisperRing> it) {
        due.is(scene.name + ": " + call, it.applyAsLong(scene.make()), answer);
        due.holds(scene.name + ": nothing changes by " + call, scene.isUnchangedBy(it));
    }

    /** "Nothing is changed; nothing is SAID, HUSHED" by what only asks. */
    private static void asked(String call, ToLongFunction<WhisperRing> it) {
        long answer = it.applyAsLong(scene.make());
        due.holds(scene.name + ": " + call + " is not refused", answer >= 0 || answer == -9);
        due.holds(scene.name + ": nothing changes by " + call, scene.isUnchangedBy(it));
    }
}
