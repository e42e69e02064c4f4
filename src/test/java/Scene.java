import java.util.ArrayList;
import java.util.List;
import java.util.function.IntUnaryOperator;
import java.util.function.Supplier;
import java.util.function.ToLongFunction;

/**
 * Somewhere that calls can bring an object to, made anew as often as it is wanted, with all that can be
 * seen of it there: by that a test can say that a call has changed nothing.
 */
final class Scene {
    /** Ways of looking that together use up an object; each has one of its own, as 512 calls are the most. */
    private static final int LOOK = 0, UNDO = 1, IMAGE_0 = 2, IMAGE_1 = 3, TEXT = 4, WAYS = 5;

    final String name;
    final int places, sayings;
    private final Supplier<WhisperRing> maker;
    private final List<List<Long>> untouched = new ArrayList<>();

    Scene(String name, int places, int sayings, Supplier<WhisperRing> maker) {
        this.name = name;
        this.places = places;
        this.sayings = sayings;
        this.maker = maker;
        for (int way = 0; way < WAYS; way++) {
            untouched.add(seen(make(), way));
        }
    }

    static List<Scene> all() {
        return List.of(
            new Scene("at first", 12, 0, WhisperRing::new),
            new Scene("midway", 5, 3, Scene::midway),
            new Scene("full", 24, 8, Scene::full),
            new Scene("at the last tick", 4, 2, Scene::late));
    }

    WhisperRing make() {
        return maker.get();
    }

    /** Whether objects of this scene, on which the call is made, answer all else as those on which it is not. */
    boolean isUnchangedBy(ToLongFunction<WhisperRing> call) {
        for (int way = 0; way < WAYS; way++) {
            WhisperRing x = make();
            call.applyAsLong(x);
            if (!seen(x, way).equals(untouched.get(way))) {
                return false;
            }
        }
        return true;
    }

    /** One saying sounds, one is hushed, one is breath by itself; the images differ; the text stands. */
    static WhisperRing midway() {
        WhisperRing x = Due.told("n5;l3;h1;s2 1 0 9;s0 6 1 3;");
        x.hears(1, 1, 1);
        x.hears(4, 99, 0);
        x.keep(0);
        x.ticks(2);
        x.says(4, 2, 1, 30);
        x.keep(1);
        x.ticks(1);
        x.hushes(0);
        x.mark(4, 1);
        Due.typeAll(x, "n6;l2;h3;s1 2 1 7;");
        return x;
    }

    /** Eight sayings, six things heard, ten to be undone and two lost, 120 bytes. */
    private static WhisperRing full() {
        WhisperRing x = Due.told("n24;l9;h0;h23;");
        for (int s = 0; s < 8; s++) {
            x.says(23 - s, s % 6 + 1, s % 2, 30 - 3 * s);
        }
        for (int i = 0; i < 6; i++) {
            x.hears(20 + i % 2, 13 * i, 0);
        }
        x.keep(1);
        x.ticks(3);
        x.hushes(7);
        x.keep(0);
        x.ticks(99);
        x.undo();
        x.ticks(4);
        x.hushes(2);
        x.mark(3, 5);
        Due.typeAll(x, " ".repeat(98) + "n24;h23;l9;s23 6 1 30;");
        return x;
    }

    /** TICK 9999; image 1 was never kept; the text has a fault. */
    private static WhisperRing late() {
        WhisperRing x = Due.told("n4;s3 6 1 30;");
        for (int i = 0; i < 101; i++) {
            x.ticks(99);
        }
        x.keep(0);
        x.says(2, 3, 0, 4);
        Due.typeAll(x, "n4;l0;");
        return x;
    }

    private static List<Long> seen(WhisperRing x, int way) {
        List<Long> row = new ArrayList<>();
        switch (way) {
            case LOOK:
                look(x, row);
                break;
            case UNDO:
                undoAll(x, row);
                break;
            case IMAGE_0:
            case IMAGE_1:
                row.add((long) x.back(way - IMAGE_0));
                undoAll(x, row);
                break;
            default:
                row.add((long) x.gallery());
                look(x, row);
        }
        return row;
    }

    private static void look(WhisperRing x, List<Long> row) {
        ask(row, 6, x::count);
        ask(row, 4, x::now);
        for (int s = 0; s < x.count(1); s++) {
            int its = s;
            ask(row, 8, what -> x.saying(its, what));
        }
        for (int p = 0; p < x.count(0); p++) {
            int its = p;
            ask(row, 5, what -> x.place(its, what));
        }
        ask(row, 1, x::guesses);
        row.add((long) x.ask(1));
        row.add(x.trace());
    }

    private static void undoAll(WhisperRing x, List<Long> row) {
        for (int i = 0; i <= 11; i++) {
            ask(row, 2, x::now);
            int sayings = x.count(1);
            row.add((long) sayings);
            for (int s = 0; s < sayings; s++) {
                row.add((long) x.saying(s, 4));
                row.add((long) x.saying(s, 7));
            }
            row.add((long) x.undo());
        }
    }

    private static void ask(List<Long> row, int most, IntUnaryOperator question) {
        for (int what = 0; what <= most; what++) {
            row.add((long) question.applyAsInt(what));
        }
    }
}
