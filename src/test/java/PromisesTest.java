/** Each promise by itself: ordinary calls, edges that the document names, wrong inputs. Answers worked out by hand. */
public final class PromisesTest {
    private static final int BAD = -1, STATE = -2, FULL = -3, NONE = -9, NO = -1000000;
    private static final Due due = new Due();

    public static void main(String[] args) {
        promise1NewObject();
        promise2Type();
        promise3Clear();
        promise4GalleryReads();
        promise4GalleryFaults();
        promise4GalleryReadAnew();
        promise5Saying();
        promise6Place();
        promise7Ticks();
        promise8Says();
        promise9Hushes();
        promise10Undo();
        promise11Now();
        promise12When();
        promise13Meet();
        promise14Best();
        promise15Stills();
        promise16Odds();
        promise17Hears();
        promise18Forget();
        promise19Guesses();
        promise20Ask();
        promise21Mark();
        promise22And23Images();
        promise24Count();
        promise25Trace();
        due.end();
    }

    private static void promise1NewObject() {
        WhisperRing x = new WhisperRing();
        int[] counts = {12, 0, 1, 0, 0, 0, 0};
        for (int what = 0; what < counts.length; what++) {
            due.is("1 new count(" + what + ")", x.count(what), counts[what]);
        }
        due.is("1 new now(0)", x.now(0), 0);
        due.is("1 new trace()", x.trace(), 0);
        due.is("1 new undo()", x.undo(), STATE);
        due.is("1 new back(0)", x.back(0), STATE);
        due.is("1 new back(1)", x.back(1), STATE);
        due.is("1 new saying(0, 0)", x.saying(0, 0), BAD);
        due.is("1 new place(11, 0)", x.place(11, 0), 0);
        due.is("1 new place(12, 0)", x.place(12, 0), BAD);
    }

    private static void promise2Type() {
        WhisperRing x = new WhisperRing();
        due.is("2 type(-1)", x.type(-1), BAD);
        due.is("2 type(256)", x.type(256), BAD);
        due.is("2 type(least)", x.type(Integer.MIN_VALUE), BAD);
        due.is("2 type(0)", x.type(0), 1);
        due.is("2 type(255)", x.type(255), 2);
        for (int i = 3; i <= 120; i++) {
            due.is("2 type the " + i + "th", x.type(32), i);
        }
        due.is("2 type the 121st", x.type(32), FULL);
        due.is("2 BAD comes ahead of FULL", x.type(256), BAD);
        due.is("2 count(6) when full", x.count(6), 120);
    }

    private static void promise3Clear() {
        WhisperRing x = new WhisperRing();
        due.is("3 clear() of none", x.clear(), 0);
        Due.typeAll(x, "n4;h");
        due.is("3 clear()", x.clear(), 4);
        due.is("3 count(6) behind it", x.count(6), 0);
        due.is("3 clear() again", x.clear(), 0);
        due.is("3 places are not touched", x.count(0), 12);
    }

    private static void promise4GalleryReads() {
        reads("", 0, 12, 1, 0, 0);
        reads("   ", 0, 12, 1, 0, 0);
        reads("n4;", 1, 4, 1, 0, 0);
        reads("n24;", 1, 24, 1, 0, 0);
        reads("l9;", 1, 12, 9, 0, 0);
        reads("  n  4 ;l 1;  ", 2, 4, 1, 0, 0);
        reads("n 24;h 23 ;h23;h0;", 4, 24, 1, 2, 0);
        reads("h11;l3;s11 6 1 30;", 3, 12, 3, 1, 1);
        reads("s0 1 0 1;s0 1 0 1;s0 1 0 1;s0 1 0 1;s0 1 0 1;s0 1 0 1;s0 1 0 1;s0 1 0 1;", 8, 12, 1, 0, 8);
        reads("s0 1 0 1;l2;h0;s 3 2 1 4 ;", 4, 12, 2, 1, 2);
    }

    private static void reads(String text, int items, int places, int loss, int niches, int sayings) {
        WhisperRing x = new WhisperRing();
        due.is("4 gallery() of '" + text + "'", Due.tell(x, text), items);
        due.is("4 places of '" + text + "'", x.count(0), places);
        due.is("4 loss of '" + text + "'", x.count(2), loss);
        due.is("4 niches of '" + text + "'", x.count(3), niches);
        due.is("4 sayings of '" + text + "'", x.count(1), sayings);
        due.is("4 the text is empty behind '" + text + "'", x.count(6), 0);
    }

    private static void promise4GalleryFaults() {
        String eight = "s0 1 0 1;s0 1 0 1;s0 1 0 1;s0 1 0 1;s0 1 0 1;s0 1 0 1;s0 1 0 1;s0 1 0 1;";
        fault("n", 1);
        fault("n4", 2);
        fault("n4 ", 3);
        fault("n3;", 1);
        fault("n25;", 1);
        fault("n4;n4;", 3);
        fault("h0;n4;", 3);
        fault("l0;", 1);
        fault("l10;", 1);
        fault("l1;l1;", 3);
        fault("h12;", 1);
        fault("n4;h4;", 4);
        fault("n4;s4 1 0 1;", 4);
        fault("s0 0 0 1;", 3);
        fault("s0 7 0 1;", 3);
        fault("s0 1 2 1;", 5);
        fault("s0 1 0 0;", 7);
        fault("s0 1 0 31;", 7);
        fault("s0 1 0;", 6);
        fault("s0 1 0 1 1;", 9);
        fault(eight + "s0 1 0 1;", 72);
        fault(eight + " s", 73);
        fault("ss", 0);
        fault("n4;hh0;", 3);
        fault("x;", 0);
        fault("4n;", 0);
        fault(";", 0);
        fault("n4;;", 3);
        fault("h;", 1);
        fault("h0h0;", 2);
        fault("n100;", 1);
        fault("n4294967300;", 1);
        fault("n04;", 1);
        fault("h00;", 1);
        fault("N4;", 0);
        fault("n4;!", 3);
        fault("x!", 0);
        fault("n4" + (char) 9 + ";", 2);
        fault("n4;" + (char) 255, 3);
        fault("n-4;", 1);
        fault("s0 1 0 1", 8);
        fault("s", 1);
        fault("n4;l", 4);
        fault("h", 1);
        fault("h11", 3);
        fault("n12", 3);
        fault("s0", 2);
        fault("s0 1", 4);
        fault("s0 1 0", 6);
        fault("sz", 0);
        fault("la1;", 0);
    }

    private static void fault(String text, int place) {
        WhisperRing x = Due.told("n5;l3;h1;s2 1 0 9;");
        x.hears(1, 1, 1);
        x.ticks(2);
        x.keep(1);
        due.is("4 gallery() of '" + text + "'", Due.tell(x, text), -10 - place);
        int[] counts = {5, 1, 3, 1, 1, 1, text.length()};
        for (int what = 0; what < counts.length; what++) {
            due.is("4 count(" + what + ") behind a fault in '" + text + "'", x.count(what), counts[what]);
        }
        due.is("4 the tick behind a fault", x.now(0), 2);
        due.is("4 the saying behind a fault", x.saying(0, 4), 4);
        due.is("4 the image behind a fault", x.back(1), 2);
    }

    private static void promise4GalleryReadAnew() {
        WhisperRing x = Due.told("n6;l2;h3;s0 1 0 9;");
        x.ticks(5);
        x.hushes(0);
        x.hears(0, 0, 1);
        x.keep(0);
        x.keep(1);
        x.mark(0, 0);
        due.is("4 read anew", Due.tell(x, "s1 2 1 8;"), 1);
        int[] counts = {12, 1, 1, 0, 0, 0, 0};
        for (int what = 0; what < counts.length; what++) {
            due.is("4 read anew, count(" + what + ")", x.count(what), counts[what]);
        }
        due.is("4 read anew, the tick", x.now(0), 0);
        due.is("4 read anew, strength", x.saying(0, 6), 8);
        due.is("4 read anew, hushed", x.saying(0, 7), 0);
        due.is("4 read anew, image 0", x.back(0), STATE);
        due.is("4 read anew, image 1", x.back(1), STATE);
        due.is("4 read anew, undo()", x.undo(), STATE);
        due.is("4 read anew, the trace stays", x.trace(), 1);
        Due.tell(x, "n9;l9;h1;h2;s0 1 0 1;s0 1 0 1;");
        x.hushes(1);
        x.ticks(8);
        Due.tell(x, "h4;");
        due.is("4 read anew, nothing told", Due.tell(x, ""), 0);
        int[] first = {12, 0, 1, 0, 0, 0, 0};
        for (int what = 0; what < first.length; what++) {
            due.is("4 read anew, nothing told, count(" + what + ")", x.count(what), first[what]);
        }
        due.is("4 read anew, nothing told, the tick", x.now(0), 0);
        due.is("4 read anew, said then", x.says(0, 1, 0, 5), 0);
        x.says(0, 1, 0, 6);
        due.is("4 read anew, none is hushed", x.now(1), 3);
    }

    private static void promise5Saying() {
        WhisperRing x = Due.told("n6;l2;s0 1 0 9;s3 2 1 4;");
        x.ticks(13);
        // 0 has gone 13: two laps, 9 - 4; breath behind 5 laps, at tick 30. 1 has gone 26: four laps; 3 - 26 is 1.
        int[] first = {0, 1, 0, 9, 1, 2, 5, 0, 17};
        int[] second = {3, 2, 1, 4, 1, 4, 0, 0, 0};
        for (int what = 0; what <= 8; what++) {
            due.is("5 saying(0, " + what + ")", x.saying(0, what), first[what]);
            due.is("5 saying(1, " + what + ")", x.saying(1, what), second[what]);
        }
        x.hushes(0);
        due.is("5 a hushed one's place", x.saying(0, 4), 1);
        due.is("5 a hushed one's laps", x.saying(0, 5), 2);
        due.is("5 a hushed one's strength", x.saying(0, 6), 0);
        due.is("5 hushed", x.saying(0, 7), 1);
        due.is("5 a hushed one's last", x.saying(0, 8), 0);
        due.is("5 saying(2, 0)", x.saying(2, 0), BAD);
        due.is("5 saying(-1, 0)", x.saying(-1, 0), BAD);
        due.is("5 saying(0, 9)", x.saying(0, 9), BAD);
        due.is("5 saying(0, -1)", x.saying(0, -1), BAD);
        due.is("5 the longest last", Due.told("n24;s0 1 0 30;").saying(0, 8), 720);
    }

    private static void promise6Place() {
        WhisperRing x = Due.told("n4;h1;s1 1 0 5;s1 1 1 3;s1 2 0 2;s2 4 0 7;");
        // At 1, a niche: 10, 6, 4: the loudest is no louder than the others together.
        int[] niche = {1, 7, NONE, 1, 20};
        int[] other = {0, 8, 3, 0, 7};
        for (int what = 0; what <= 4; what++) {
            due.is("6 place(1, " + what + ")", x.place(1, what), niche[what]);
            due.is("6 place(2, " + what + ")", x.place(2, what), other[what]);
            due.is("6 place(0, " + what + ")", x.place(0, what), what == 2 ? NONE : 0);
        }
        due.is("6 quiet at once", x.place(0, 5), 0);
        due.is("6 place(1, 5)", x.place(1, 5), 1);
        x.hushes(2);
        due.is("6 louder than the other by 2", x.place(1, 2), 0);
        due.is("6 no sea then", x.place(1, 3), 0);
        due.is("6 place(4, 0)", x.place(4, 0), BAD);
        due.is("6 place(-1, 0)", x.place(-1, 0), BAD);
        due.is("6 place(0, 6)", x.place(0, 6), BAD);
        due.is("6 place(0, -1)", x.place(0, -1), BAD);
        // A saying that stands still (4 a tick of 4 places), a lap a tick: 30 ticks; loss 1.
        due.is("6 quiet behind 30", Due.told("n4;s2 4 0 30;").place(2, 5), 30);
        // Two that come to 0 by turns, each half a lap a tick: breath behind 60.
        due.is("6 quiet behind 60", Due.told("n6;s0 3 0 30;s3 3 0 30;s0 6 0 4;").place(0, 5), 60);
        // Each of 8 places has a saying of speed 1: no place is quiet ahead of tick 240.
        WhisperRing y = Due.told("n8;s0 1 0 30;s1 1 0 30;s2 1 0 30;s3 1 0 30;s4 1 0 30;s5 1 0 30;s6 1 0 30;s7 1 0 30;");
        due.is("6 not quiet within 99", y.place(3, 5), NONE);
        for (int i = 0; i < 2; i++) {
            y.ticks(70);
        }
        due.is("6 quiet behind 100 is too late", y.place(3, 5), NONE);
        y.ticks(1);
        due.is("6 quiet behind 99", y.place(3, 5), 99);
    }

    private static void promise7Ticks() {
        WhisperRing x = Due.told("n4;s0 4 0 2;s0 1 0 1;");
        due.is("7 ticks(0)", x.ticks(0), BAD);
        due.is("7 ticks(100)", x.ticks(100), BAD);
        due.is("7 ticks(-1)", x.ticks(-1), BAD);
        due.is("7 ticks(1)", x.ticks(1), 2);
        due.is("7 ticks(1)", x.ticks(1), 1);
        due.is("7 ticks(2)", x.ticks(2), 0);
        due.is("7 the tick", x.now(0), 4);
        for (int i = 0; i < 100; i++) {
            x.ticks(99);
        }
        due.is("7 near the end", x.now(0), 9904);
        due.is("7 ticks(96)", x.ticks(96), STATE);
        due.is("7 BAD ahead of STATE", x.ticks(100), BAD);
        due.is("7 nothing changed", x.now(0), 9904);
        due.is("7 ticks(95)", x.ticks(95), 0);
        due.is("7 the last tick", x.now(0), 9999);
        due.is("7 ticks(1) at the end", x.ticks(1), STATE);
        due.is("7 said at the end", x.says(0, 6, 0, 30), 2);
        due.is("7 the first that goes on", x.saying(1, 5), 9999 / 4);
    }

    private static void promise8Says() {
        WhisperRing x = Due.told("n5;s0 1 0 9;");
        x.ticks(7);
        int[][] wrong = {{-1, 1, 0, 1}, {5, 1, 0, 1}, {0, 0, 0, 1}, {0, 7, 0, 1},
            {0, 1, -1, 1}, {0, 1, 2, 1}, {0, 1, 0, 0}, {0, 1, 0, 31}};
        for (int[] w : wrong) {
            due.is("8 says(" + w[0] + ", " + w[1] + ", " + w[2] + ", " + w[3] + ")", x.says(w[0], w[1], w[2], w[3]), BAD);
        }
        due.is("8 says(4, 6, 1, 30)", x.says(4, 6, 1, 30), 1);
        due.is("8 it is where it was said", x.saying(1, 4), 4);
        x.ticks(1);
        due.is("8 it has gone 6", x.saying(1, 4), 3);
        due.is("8 a lap", x.saying(1, 5), 1);
        for (int s = 2; s < 8; s++) {
            due.is("8 says, the " + s, x.says(0, 1, 0, 1), s);
        }
        due.is("8 a ninth", x.says(0, 1, 0, 1), FULL);
        due.is("8 BAD ahead of FULL", x.says(0, 1, 0, 31), BAD);
        due.is("8 there are 8", x.count(1), 8);
        due.is("8 what may be undone", x.count(5), 9);
    }

    private static void promise9Hushes() {
        WhisperRing x = Due.told("n4;l2;s0 4 0 5;s1 1 0 1;");
        x.ticks(2);
        due.is("9 hushes(2)", x.hushes(2), BAD);
        due.is("9 hushes(-1)", x.hushes(-1), BAD);
        due.is("9 hushes(0)", x.hushes(0), 1);
        due.is("9 hushes(0) again", x.hushes(0), STATE);
        due.is("9 refused ones are not undone", x.count(5), 2);
        x.ticks(2);
        due.is("9 hushes(1), which is breath", x.hushes(1), STATE);
        due.is("9 breath by itself is not hushed", x.saying(1, 7), 0);
    }

    private static void promise10Undo() {
        WhisperRing x = Due.told("n4;s0 1 0 9;");
        due.is("10 nothing to undo", x.undo(), STATE);
        x.ticks(5);
        x.says(2, 3, 1, 8);
        x.hushes(0);
        x.ticks(1);
        x.hushes(1);
        due.is("10 hushed", x.now(1), 0);
        due.is("10 undo hushes(1)", x.undo(), 4);
        due.is("10 1 again", x.now(1), 2);
        due.is("10 undo ticks(1)", x.undo(), 3);
        due.is("10 the tick", x.now(0), 5);
        due.is("10 where 1 is", x.saying(1, 4), 2);
        due.is("10 undo hushes(0)", x.undo(), 2);
        due.is("10 both again", x.now(1), 3);
        due.is("10 undo says", x.undo(), 1);
        due.is("10 one saying", x.count(1), 1);
        due.is("10 undo ticks(5)", x.undo(), 0);
        due.is("10 tick 0", x.now(0), 0);
        due.is("10 none", x.undo(), STATE);
        for (int i = 1; i <= 12; i++) {
            x.ticks(i);
            due.is("10 what is known behind " + i, x.count(5), Math.min(i, 10));
        }
        for (int i = 9; i >= 0; i--) {
            due.is("10 undo, " + i + " more", x.undo(), i);
        }
        due.is("10 the oldest two are lost", x.undo(), STATE);
        due.is("10 the tick of the lost", x.now(0), 3);
    }

    private static void promise11Now() {
        WhisperRing x = Due.told("n6;h0;s0 1 0 5;s0 1 1 5;s2 1 0 4;s5 6 0 1;");
        int[] first = {0, 15, 15, 3, 1};
        for (int what = 0; what < 5; what++) {
            due.is("11 now(" + what + ")", x.now(what), first[what]);
        }
        x.ticks(1);
        // 0 is at 1, 1 at 5, 2 at 3; 3 is breath at 5.
        int[] second = {1, 7, 14, 3, 0};
        for (int what = 0; what < 5; what++) {
            due.is("11 now(" + what + ") behind a tick", x.now(what), second[what]);
        }
        x.hushes(0);
        due.is("11 now(1) without 0", x.now(1), 6);
        due.is("11 now(2) without 0", x.now(2), 9);
        due.is("11 now(5)", x.now(5), BAD);
        due.is("11 now(-1)", x.now(-1), BAD);
    }

    private static void promise12When() {
        WhisperRing x = Due.told("n6;l2;s0 1 0 9;s1 2 1 30;");
        due.is("12 when(0, 4, 0)", x.when(0, 4, 0), 4);
        due.is("12 when(0, 4, 1), five laps", x.when(0, 4, 1), 5);
        due.is("12 when(1, 0, 0), odd places alone", x.when(1, 0, 0), NONE);
        due.is("12 when(1, 0, 1)", x.when(1, 0, 1), 0);
        due.is("12 when(1, 3, 0)", x.when(1, 3, 0), 2);
        x.ticks(29);
        due.is("12 at the end of its laps", x.when(0, 5, 0), 0);
        due.is("12 once yet", x.when(0, 5, 1), 1);
        due.is("12 but as breath", x.when(0, 0, 0), NONE);
        x.hushes(1);
        due.is("12 hushed", x.when(1, 3, 0), NONE);
        due.is("12 hushed, often", x.when(1, 3, 1), 0);
        due.is("12 often, 30 laps of 24", Due.told("n24;s0 1 0 30;").when(0, 0, 1), 30);
        due.is("12 when(2, 0, 0)", x.when(2, 0, 0), BAD);
        due.is("12 when(-1, 0, 0)", x.when(-1, 0, 0), BAD);
        due.is("12 when(0, 6, 0)", x.when(0, 6, 0), BAD);
        due.is("12 when(0, -1, 0)", x.when(0, -1, 0), BAD);
        due.is("12 when(0, 0, 2)", x.when(0, 0, 2), BAD);
        due.is("12 when(0, 0, -1)", x.when(0, 0, -1), BAD);
    }

    private static void promise13Meet() {
        WhisperRing x = Due.told("n6;s0 1 0 9;s4 1 1 9;s1 1 0 9;s0 2 0 1;s3 6 0 2;");
        due.is("13 meet(0, 1)", x.meet(0, 1), 2);
        due.is("13 meet(1, 0)", x.meet(1, 0), 2);
        due.is("13 meet(4, 2), breath first", x.meet(4, 2), NONE);
        due.is("13 meet(4, 3), breath both", x.meet(4, 3), NONE);
        due.is("13 meet(3, 0), at once, with 1", x.meet(3, 0), 0);
        due.is("13 meet(0, 2), never", x.meet(0, 2), NONE);
        due.is("13 meet(0, 3), at once", x.meet(0, 3), 0);
        due.is("13 meet(2, 4), but as breath", x.meet(2, 4), NONE);
        x.ticks(1);
        due.is("13 meet(0, 3), too late", x.meet(0, 3), NONE);
        x.hushes(1);
        due.is("13 meet(0, 1), hushed", x.meet(0, 1), NONE);
        due.is("13 meet(0, 0)", x.meet(0, 0), BAD);
        due.is("13 meet(0, 5)", x.meet(0, 5), BAD);
        due.is("13 meet(5, 0)", x.meet(5, 0), BAD);
        due.is("13 meet(-1, 0)", x.meet(-1, 0), BAD);
        due.is("13 meet(5, 5)", x.meet(5, 5), BAD);
    }

    private static void promise14Best() {
        WhisperRing x = Due.told("n4;s2 4 0 9;");
        // 0 stays at 2, with 9 less the tick. From 0 to 2 by speed 1: two ticks.
        due.is("14 best(0, 2, 1, 0, 5), 5 above 9 - 2 - 3", x.best(0, 2, 1, 0, 5), 3);
        due.is("14 best(2, 2, 1, 0, 5), at once", x.best(2, 2, 1, 0, 5), 5);
        due.is("14 best(2, 2, 1, 0, 10)", x.best(2, 2, 1, 0, 10), 0);
        due.is("14 best(2, 2, 1, 0, 9), as loud is not louder", x.best(2, 2, 1, 0, 9), 1);
        due.is("14 best(0, 3, 2, 0, 30), never there", x.best(0, 3, 2, 0, 30), NONE);
        due.is("14 best(1, 0, 3, 0, 1): one tick", x.best(1, 0, 3, 0, 1), 0);
        // 3 a tick to the right from 0 to 2: 3, 6 = 2: two ticks, gone 6, a lap.
        due.is("14 best(0, 2, 3, 0, 1), but as breath", x.best(0, 2, 3, 0, 1), NONE);
        due.is("14 best(0, 2, 3, 0, 2), 1 behind the lap", x.best(0, 2, 3, 0, 2), 7);
        due.is("14 best(0, 1, 1, 1, 9), to the left", x.best(0, 1, 1, 1, 9), 0);
        // At every tick one of them is at 0, with 30 less a quarter of the tick.
        WhisperRing y = Due.told("n24;s0 6 0 30;s6 6 0 30;s12 6 0 30;s18 6 0 30;");
        due.is("14 wait till it is less loud", y.best(0, 0, 1, 0, 7), 96);
        due.is("14 too long", y.best(0, 0, 1, 0, 6), NONE);
        // One at each of 8 places: 30 less an eighth of the tick; 17 at tick 104.
        WhisperRing z = Due.told("n8;s0 1 0 30;s1 1 0 30;s2 1 0 30;s3 1 0 30;s4 1 0 30;s5 1 0 30;s6 1 0 30;s7 1 0 30;");
        z.ticks(4);
        due.is("14 100 is too long", z.best(0, 0, 1, 0, 18), NONE);
        z.ticks(1);
        due.is("14 99 is not", z.best(0, 0, 1, 0, 18), 99);
        WhisperRing full = Due.told("n4;s0 1 0 1;s0 1 0 1;s0 1 0 1;s0 1 0 1;s0 1 0 1;s0 1 0 1;s0 1 0 1;s0 1 0 1;");
        due.is("14 eight sayings are no matter", full.best(1, 1, 1, 0, 30), 0);
        due.is("14 nothing is said", full.count(1), 8);
        int[][] wrong = {{-1, 0, 1, 0, 1}, {4, 0, 1, 0, 1}, {0, -1, 1, 0, 1}, {0, 4, 1, 0, 1}, {0, 0, 0, 0, 1},
            {0, 0, 7, 0, 1}, {0, 0, 1, -1, 1}, {0, 0, 1, 2, 1}, {0, 0, 1, 0, 0}, {0, 0, 1, 0, 31}};
        for (int[] w : wrong) {
            due.is("14 best(" + w[0] + ", " + w[1] + ", " + w[2] + ", " + w[3] + ", " + w[4] + ")",
                x.best(w[0], w[1], w[2], w[3], w[4]), BAD);
        }
    }

    private static void promise15Stills() {
        WhisperRing x = Due.told("n4;h0;s0 4 0 6;s0 4 0 3;s0 4 0 3;s0 4 0 5;s0 4 0 3;s1 1 0 9;s0 4 0 1;");
        // At 0: 6, 3, 3, 5, 3 and 1.
        due.is("15 stills(0): 5 and two of 3 leave 4", x.stills(0), 2 | 4 | 8);
        due.is("15 stills(5), alone", x.stills(5), 0);
        due.is("15 stills(3): 6, and all of 3 but one", x.stills(3), 1 | 2 | 4);
        due.is("15 stills(6): all others", x.stills(6), 1 | 2 | 4 | 8 | 16);
        due.is("15 nothing is hushed", x.now(1), 127);
        x.ticks(1);
        due.is("15 stills(6), breath", x.stills(6), NONE);
        x.hushes(5);
        due.is("15 stills(5), hushed", x.stills(5), NONE);
        due.is("15 stills(7)", x.stills(7), BAD);
        due.is("15 stills(-1)", x.stills(-1), BAD);
        due.is("15 as loud is not louder", Due.told("s0 1 0 3;s0 1 0 3;").stills(0), 2);
        due.is("15 louder by itself", Due.told("s0 1 0 4;s0 1 0 3;").stills(0), 0);
        // 4 against 3 and 3: the least of two sets of one.
        due.is("15 the least set", Due.told("s0 1 0 3;s0 1 0 4;s0 1 0 3;").stills(1), 1);
    }

    private static void promise16Odds() {
        WhisperRing x = Due.told("n4;l2;s0 4 0 9;s0 1 0 1;");
        x.ticks(1);
        // Strength 7, loss 2: behind 2 laps above 0 unless it loses twice as much both times: 1 - 9/100.
        fraction(x, 0, 2, 3, 91, 100);
        fraction(x, 0, 0, 5, 1, 1);
        fraction(x, 0, 1, 10, 1, 1);
        fraction(x, 0, 3, 0, 1, 1);
        fraction(x, 0, 3, 5, 1, 8);
        fraction(x, 0, 3, 4, 27, 125);
        fraction(x, 0, 4, 0, 0, 1);
        fraction(x, 0, 6, 10, 0, 1);
        WhisperRing y = Due.told("s0 1 0 8;");
        // 8 - 6 - k above 0: k of 0 or 1.
        fraction(y, 0, 6, 1, (531441 + 6 * 59049) / 5, 1000000 / 5);
        fraction(y, 0, 6, 5, 7, 64);
        x.hushes(0);
        fraction(x, 0, 0, 0, 0, 1);
        due.is("16 odds(2, 0, 0, 0)", x.odds(2, 0, 0, 0), BAD);
        due.is("16 odds(-1, 0, 0, 0)", x.odds(-1, 0, 0, 0), BAD);
        due.is("16 odds(0, 7, 0, 0)", x.odds(0, 7, 0, 0), BAD);
        due.is("16 odds(0, -1, 0, 0)", x.odds(0, -1, 0, 0), BAD);
        due.is("16 odds(0, 0, 11, 0)", x.odds(0, 0, 11, 0), BAD);
        due.is("16 odds(0, 0, -1, 0)", x.odds(0, 0, -1, 0), BAD);
        due.is("16 odds(0, 0, 0, 2)", x.odds(0, 0, 0, 2), BAD);
        due.is("16 odds(0, 0, 0, -1)", x.odds(0, 0, 0, -1), BAD);
    }

    private static void fraction(WhisperRing x, int s, int n, int parts, int upper, int lower) {
        due.is("16 odds(" + s + ", " + n + ", " + parts + ", 0)", x.odds(s, n, parts, 0), upper);
        due.is("16 odds(" + s + ", " + n + ", " + parts + ", 1)", x.odds(s, n, parts, 1), lower);
    }

    private static void promise17Hears() {
        WhisperRing x = Due.told("n5;");
        int[][] wrong = {{-1, 0, 0}, {5, 0, 0}, {0, -1, 0}, {0, 100, 0}, {0, 0, -1}, {0, 0, 2}};
        for (int[] w : wrong) {
            due.is("17 hears(" + w[0] + ", " + w[1] + ", " + w[2] + ")", x.hears(w[0], w[1], w[2]), BAD);
        }
        due.is("17 hears(4, 99, 1)", x.hears(4, 99, 1), 1);
        for (int i = 2; i <= 6; i++) {
            due.is("17 the same again", x.hears(4, 99, 1), i);
        }
        due.is("17 a seventh", x.hears(4, 99, 1), FULL);
        due.is("17 BAD ahead of FULL", x.hears(5, 99, 1), BAD);
    }

    private static void promise18Forget() {
        WhisperRing x = new WhisperRing();
        due.is("18 nothing was", x.forget(), 0);
        x.hears(0, 0, 1);
        x.hears(0, 0, 0);
        due.is("18 it can't be", x.guesses(0), 0);
        due.is("18 two were", x.forget(), 2);
        due.is("18 none then", x.count(4), 0);
        due.is("18 all guesses again", x.guesses(0), 144);
    }

    private static void promise19Guesses() {
        WhisperRing x = Due.told("n4;");
        due.is("19 all of 4 places", x.guesses(0), 48);
        due.is("19 the first of all", x.guesses(1), 10);
        x.hears(2, 0, 1);
        due.is("19 said at 2", x.guesses(0), 12);
        due.is("19 the first at 2", x.guesses(1), 210);
        x.hears(3, 1, 1);
        // From 2 to 3 by a tick: 1 or 5 to the right, 3 to the left.
        due.is("19 there behind a tick", x.guesses(0), 3);
        due.is("19 the first of them", x.guesses(1), 210);
        x.hears(1, 99, 0);
        // 99 ticks: speed 1 and 5 to the right are at 2 + 3 = 1, 3 to the left too.
        due.is("19 none", x.guesses(0), 0);
        due.is("19 no first", x.guesses(1), NONE);
        x.forget();
        x.hears(0, 0, 0);
        due.is("19 not said at 0", x.guesses(0), 36);
        due.is("19 the first not at 0", x.guesses(1), 110);
        x.hears(2, 1, 1);
        x.hears(1, 0, 0);
        x.hears(3, 0, 0);
        // Said at 2, and there again behind a tick: speed 4, both ways.
        due.is("19 speed 4", x.guesses(0), 2);
        due.is("19 the first of speed 4", x.guesses(1), 240);
        x.says(1, 1, 0, 1);
        x.ticks(3);
        due.is("19 ticks don't matter", x.guesses(0), 2);
        due.is("19 guesses(2)", x.guesses(2), BAD);
        due.is("19 guesses(-1)", x.guesses(-1), BAD);
        WhisperRing left = Due.told("n24;");
        left.hears(5, 0, 1);
        left.hears(1, 1, 1);
        due.is("19 4 to the left", left.guesses(1), 541);
        due.is("19 guesses(0) of 24", Due.told("n24;").guesses(0), 288);
    }

    private static void promise20Ask() {
        WhisperRing x = Due.told("n4;");
        due.is("20 all alike: the lowest", x.ask(0), 0);
        x.hears(2, 0, 1);
        due.is("20 all at 2: none parts them", x.ask(0), NONE);
        // Behind a tick from 2: at 3 by 1, 5 right and 3 left; at 0 by 2, 6 either way: four; at 1: three; at 2: two.
        due.is("20 the greater part is least at 0", x.ask(1), 0);
        // Behind two ticks: at 0 by odd speeds, six; at 2 the others, six.
        due.is("20 halves: the lowest", x.ask(2), 0);
        due.is("20 ask(99)", x.ask(99), 0);
        x.hears(0, 1, 0);
        // Left: 3 at 3, 3 at 1, 2 at 2.
        due.is("20 without those of 0", x.ask(1), 1);
        x.hears(1, 1, 0);
        x.hears(3, 1, 0);
        due.is("20 speed 4, two, never parted", x.ask(7), NONE);
        due.is("20 two", x.guesses(0), 2);
        x.hears(3, 0, 1);
        due.is("20 none at all", x.ask(1), NONE);
        due.is("20 ask(100)", x.ask(100), BAD);
        due.is("20 ask(-1)", x.ask(-1), BAD);
        WhisperRing one = Due.told("n24;");
        one.hears(5, 0, 1);
        one.hears(8, 1, 1);
        due.is("20 speed 3 to the right alone", one.guesses(1), 530);
        due.is("20 how many", one.guesses(0), 1);
        due.is("20 fewer than two", one.ask(3), NONE);
    }

    private static void promise21Mark() {
        WhisperRing x = Due.told("n4;l2;s0 1 0 2;s3 5 1 9;");
        x.ticks(1);
        // 1: loud 9, gone 5, strength 7, speed 5, at 3 - 5 = 2.
        int[] marks = {9, 16, 4, 32, 5, 11};
        long[] traces = {1, 11, 101, 1011, 10101, 100001};
        long sum = 0;
        for (int kind = 0; kind <= 5; kind++) {
            due.is("21 mark(" + kind + ", 1)", x.mark(kind, 1), marks[kind]);
            sum += traces[kind];
            due.is("25 trace() behind kind " + kind, x.trace(), sum);
        }
        x.hushes(1);
        due.is("21 a vow that is hushed", x.mark(1, 1), 9);
        due.is("21 a curse that is hushed", x.mark(3, 1), 18);
        due.is("21 a hymn that is hushed", x.mark(5, 1), 11);
        long before = x.trace();
        due.is("21 mark(6, 0)", x.mark(6, 0), NO);
        due.is("21 mark(-1, 0)", x.mark(-1, 0), NO);
        due.is("21 mark(0, 2)", x.mark(0, 2), NO);
        due.is("21 mark(0, -1)", x.mark(0, -1), NO);
        due.is("25 refused ones leave no trace", x.trace(), before);
        due.is("21 below 0", Due.told("s0 6 0 1;").mark(2, 0), -5);
    }

    private static void promise22And23Images() {
        WhisperRing x = Due.told("n4;s0 1 0 9;");
        x.ticks(3);
        due.is("22 keep(0)", x.keep(0), 3);
        due.is("22 keep(2)", x.keep(2), BAD);
        due.is("22 keep(-1)", x.keep(-1), BAD);
        due.is("23 back(1), none was kept", x.back(1), STATE);
        due.is("23 back(2)", x.back(2), BAD);
        due.is("23 back(-1)", x.back(-1), BAD);
        x.hushes(0);
        x.says(1, 2, 1, 7);
        x.ticks(9);
        x.hears(1, 1, 1);
        x.mark(0, 0);
        x.type('n');
        due.is("22 keep(1)", x.keep(1), 12);
        due.is("23 back(0)", x.back(0), 3);
        due.is("23 one saying", x.count(1), 1);
        due.is("23 not hushed", x.saying(0, 7), 0);
        due.is("23 what may be undone", x.count(5), 1);
        due.is("23 what was heard stays", x.count(4), 1);
        due.is("23 the text stays", x.count(6), 1);
        due.is("23 the trace stays", x.trace(), 1);
        due.is("23 undo what the image has", x.undo(), 0);
        due.is("23 the tick ahead of it", x.now(0), 0);
        x.says(3, 3, 0, 3);
        due.is("23 back(0) again", x.back(0), 3);
        due.is("23 one saying again", x.count(1), 1);
        due.is("23 back(1)", x.back(1), 12);
        due.is("23 two sayings", x.count(1), 2);
        due.is("23 hushed", x.saying(0, 7), 1);
        due.is("23 where 1 is", x.saying(1, 4), (1 - 18 + 20) % 4);
        due.is("23 undo ticks(9)", x.undo(), 3);
        due.is("23 undo says", x.undo(), 2);
        due.is("23 undo hushes", x.undo(), 1);
        due.is("23 strength again", x.saying(0, 6), 9);
        due.is("22 keep(0) over another", x.keep(0), 3);
        wholeImage();
        x.undo();
        due.is("23 back(0), the later one", x.back(0), 3);
    }

    private static void wholeImage() {
        WhisperRing x = new WhisperRing();
        x.says(3, 4, 1, 20);
        x.ticks(2);
        x.says(5, 2, 0, 10);
        x.hushes(0);
        x.keep(1);
        for (int i = 0; i < 4; i++) {
            x.undo();
        }
        x.ticks(7);
        x.ticks(8);
        x.says(0, 1, 0, 1);
        x.says(1, 1, 1, 2);
        x.hushes(1);
        due.is("23 the tick of a whole image", x.back(1), 2);
        int[][] sayings = {{3, 4, 1, 20, 7, 0, 0, 1}, {5, 2, 0, 10, 5, 0, 10, 0}};
        for (int s = 0; s < 2; s++) {
            for (int what = 0; what < 8; what++) {
                due.is("23 saying(" + s + ", " + what + ") of an image", x.saying(s, what), sayings[s][what]);
            }
        }
        due.is("23 undo what was hushed", x.undo(), 3);
        due.is("23 both sound", x.now(1), 3);
        due.is("23 undo what was said", x.undo(), 2);
        due.is("23 one", x.count(1), 1);
        due.is("23 undo the ticks", x.undo(), 1);
        due.is("23 tick 0", x.now(0), 0);
    }

    private static void promise24Count() {
        WhisperRing x = Due.told("n7;l4;h2;h2;h6;s1 1 1 5;s2 2 0 6;");
        x.ticks(1);
        x.ticks(2);
        x.hears(3, 3, 0);
        Due.typeAll(x, "n9; ");
        int[] counts = {7, 2, 4, 2, 1, 2, 4};
        for (int what = 0; what < counts.length; what++) {
            due.is("24 count(" + what + ")", x.count(what), counts[what]);
        }
        due.is("24 count(7)", x.count(7), BAD);
        due.is("24 count(-1)", x.count(-1), BAD);
    }

    private static void promise25Trace() {
        WhisperRing x = Due.told("s0 1 0 5;");
        for (int i = 0; i < 300; i++) {
            x.mark(5, 0);
        }
        due.is("25 trace() of many", x.trace(), 300L * 100001L);
        x.ticks(1);
        x.undo();
        due.is("25 it is not undone", x.trace(), 300L * 100001L);
    }
}
