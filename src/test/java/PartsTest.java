/**
 * The sentences of the document's parts 2, 3 and 4 that name a bound, each by a test of its own: the last number
 * at which it is so and the first at which it is not. Answers worked out by hand.
 */
public final class PartsTest {
    private static final int BAD = -1, STATE = -2, FULL = -3, NONE = -9, NO = -1000000;
    private static final Due due = new Due();

    public static void main(String[] args) {
        part2Time();
        part2Sound();
        part2Undoing();
        part3When();
        part3Quiet();
        part3Stills();
        part3Heard();
        part3Odds();
        part4();
        due.end();
    }

    private static void part2Time() {
        itIsTick0AtFirst();
        goneCountsFromTheTickOfSaying();
        lapsAreCut();
        strengthIs0AtLeast();
        strength0IsBreath();
        hushedIsBreath();
        ticksAre1To99();
        theLastTickIs9999();
    }

    private static void part2Sound() {
        aNicheSoundsTwice();
        clearIsLouderThanAllOthersTogether();
        breathIsNoOther();
        aSeaHasSomeAndNoneClear();
        placesThatSoundAndSeas();
        hushedIsOneThatIsNotBreath();
    }

    private static void part2Undoing() {
        tenMayBeUndone();
        theEleventhIsLost();
        eachKindOfDeedMayBeLost();
        undoneMakesRoom();
        onlyTheLatestIsUndone();
        questionsAreNotUndone();
    }

    private static void part3When() {
        whenIsNowOrLaterOrNone();
        oftenGoesToTheLastSound();
        meetIsNowOrLaterOrNone();
        meetOfTheLongestWay();
        lastIsFromNow();
    }

    private static void part3Quiet() {
        quietIs0To99();
        bestIs0To99();
        bestIsAtOnceIfPIsQ();
        bestNeverComesThere();
        bestComesAsBreath();
        bestIsLouderNotAsLoud();
    }

    private static void part3Stills() {
        stillsOfNoneIs0();
        stillsOfAllOthers();
        stillsAreFewestThenLeast();
        stillsAreForNow();
        stillsOfBreathIsNone();
    }

    private static void part3Heard() {
        heardAre6AtMost();
        heardIsBehind0To99();
        guessesFromNoneToAll();
        askIsFor0To99();
        askOfFewerThan2();
        askOfTwoThatArePartedOrNot();
        askOfSeveralTheLowest();
    }

    private static void part3Odds() {
        oddsOf0Laps();
        oddsOf6Laps();
        oddsBy0AndBy10();
        oddsByTheGreatestLoss();
        oddsOfBreath();
    }

    private static void part4() {
        kindsAre0To5();
        marksAtTheirEnds();
        imagesAre0And1();
        anImageKeepsAllSayings();
        anImageKeepsAllThatMayBeUndone();
        anImageKeepsNothingElse();
        readAnew();
        readAnewAgainAndAgain();
    }

    // ---- 2, time

    private static void itIsTick0AtFirst() {
        due.is("TICK at first", new WhisperRing().now(0), 0);
        WhisperRing x = Due.told("s0 1 0 9;");
        due.is("TICK of a text", x.now(0), 0);
        x.ticks(7);
        Due.tell(x, "");
        due.is("TICK of a text anew", x.now(0), 0);
    }

    private static void goneCountsFromTheTickOfSaying() {
        WhisperRing x = Due.told("n5;s3 2 0 9;");
        x.ticks(50);
        x.says(3, 2, 0, 9);
        due.is("said now: where it was said", x.saying(1, 4), 3);
        due.is("said now: no LAPS", x.saying(1, 5), 0);
        due.is("said now: STRENGTH is LOUD", x.saying(1, 6), 9);
        due.is("said now: LAST as from tick 0", x.saying(1, 8), 23);
        due.is("told: 100 gone", x.saying(0, 5), 20);
        x.ticks(1);
        due.is("a tick behind: 2 gone", x.saying(1, 4), 0);
    }

    private static void lapsAreCut() {
        WhisperRing x = Due.told("n5;s0 1 0 9;");
        int[][] ticksAndLaps = {{4, 0}, {1, 1}, {4, 1}, {1, 2}};
        for (int[] row : ticksAndLaps) {
            x.ticks(row[0]);
            due.is("LAPS of 5 at tick " + x.now(0), x.saying(0, 5), row[1]);
            due.is("STRENGTH of 9 at tick " + x.now(0), x.saying(0, 6), 9 - row[1]);
        }
        // To the left they are cut alike; 4 by 6 are 24, a lap, and 23 are none.
        WhisperRing y = Due.told("n24;s0 6 1 9;s0 1 1 9;");
        y.ticks(3);
        due.is("18 gone of 24, left", y.saying(0, 5), 0);
        y.ticks(1);
        due.is("24 gone of 24, left", y.saying(0, 5), 1);
        y.ticks(19);
        due.is("23 gone of 24, left", y.saying(1, 5), 0);
        y.ticks(1);
        due.is("24 gone of 24 by 1, left", y.saying(1, 5), 1);
    }

    private static void strengthIs0AtLeast() {
        WhisperRing x = Due.told("n4;l9;s0 4 0 1;s0 4 0 8;s0 4 0 9;s0 4 0 10;");
        x.ticks(1);
        int[] strength = {0, 0, 0, 1};
        for (int s = 0; s < 4; s++) {
            due.is("STRENGTH behind a lap of " + s, x.saying(s, 6), strength[s]);
        }
        due.is("STRENGTH of all is no less than 0", x.now(2), 1);
        due.is("how loud at 0", x.place(0, 4), 1);
        WhisperRing y = Due.told("n4;l9;s0 6 0 30;");
        bringTo(y, 9999);
        due.is("LAPS at the last tick", y.saying(0, 5), 14998);
        due.is("STRENGTH at the last tick", y.saying(0, 6), 0);
    }

    private static void strength0IsBreath() {
        WhisperRing x = Due.told("n4;l2;s0 4 0 3;");
        due.is("1 left behind a tick", x.ticks(1), 1);
        due.is("STRENGTH 1", x.saying(0, 6), 1);
        due.is("at 1 it is not BREATH", x.now(1), 1);
        due.is("at 1 it sounds", x.place(0, 1), 1);
        due.is("at 1, LAST", x.saying(0, 8), 1);
        due.is("none left behind two", x.ticks(1), 0);
        due.is("STRENGTH 0", x.saying(0, 6), 0);
        due.is("at 0 it is BREATH", x.now(1), 0);
        due.is("at 0 it does not sound", x.place(0, 1), 0);
        due.is("at 0, LAST", x.saying(0, 8), 0);
        due.is("at 0 it is not HUSHED", x.saying(0, 7), 0);
    }

    private static void hushedIsBreath() {
        WhisperRing x = Due.told("n4;s0 4 0 30;s0 4 0 5;");
        due.is("hushes(0)", x.hushes(0), 30);
        due.is("not among those that last", x.now(1), 2);
        due.is("not among those that sound", x.place(0, 1), 2);
        due.is("no STRENGTH of all", x.now(2), 5);
        due.is("the other is CLEAR", x.place(0, 2), 1);
        due.is("it is never there", x.when(0, 0, 0), NONE);
        due.is("not once", x.when(0, 0, 1), 0);
        due.is("they don't meet", x.meet(0, 1), NONE);
        due.is("BREATH at once", x.saying(0, 8), 0);
        due.is("one left", x.ticks(1), 1);
        due.is("it is HUSHED yet", x.saying(0, 7), 1);
    }

    private static void ticksAre1To99() {
        WhisperRing x = new WhisperRing();
        due.is("ticks(0)", x.ticks(0), BAD);
        due.is("ticks(1)", x.ticks(1), 0);
        due.is("TICK 1", x.now(0), 1);
        due.is("ticks(99)", x.ticks(99), 0);
        due.is("TICK 100", x.now(0), 100);
        due.is("ticks(100)", x.ticks(100), BAD);
        due.is("TICK 100 yet", x.now(0), 100);
    }

    private static void theLastTickIs9999() {
        WhisperRing x = new WhisperRing();
        bringTo(x, 9900);
        due.is("ticks(99) from 9900", x.ticks(99), 0);
        due.is("TICK 9999", x.now(0), 9999);
        due.is("ticks(1) from 9999", x.ticks(1), STATE);
        x.undo();
        due.is("TICK 9900 again", x.now(0), 9900);
        x.ticks(1);
        due.is("ticks(99) from 9901", x.ticks(99), STATE);
        due.is("TICK 9901 yet", x.now(0), 9901);
        due.is("ticks(98) from 9901", x.ticks(98), 0);
        x.undo();
        x.ticks(97);
        due.is("TICK 9998", x.now(0), 9998);
        due.is("ticks(2) from 9998", x.ticks(2), STATE);
        due.is("ticks(1) from 9998", x.ticks(1), 0);
        due.is("said at 9999", x.says(0, 1, 0, 1), 0);
        due.is("hushed at 9999", x.hushes(0), 1);
    }

    // ---- 2, sound

    private static void aNicheSoundsTwice() {
        WhisperRing x = Due.told("n4;h0;h3;s0 4 0 1;s0 4 0 30;s1 4 0 30;s3 4 0 30;");
        due.is("in a NICHE, 1 and 30", x.place(0, 4), 62);
        due.is("in none, 30", x.place(1, 4), 30);
        due.is("none there", x.place(2, 4), 0);
        due.is("in the last PLACE, a NICHE", x.place(3, 4), 60);
        due.is("STRENGTH is not twice", x.saying(1, 6), 30);
        due.is("nor that of all", x.now(2), 91);
        due.is("is a NICHE", x.place(3, 0), 1);
        due.is("is none", x.place(2, 0), 0);
    }

    private static void clearIsLouderThanAllOthersTogether() {
        due.is("alone, by 1", Due.told("s0 1 0 1;").place(0, 2), 0);
        due.is("5 against 3 and 2", Due.told("s0 1 0 3;s0 1 0 5;s0 1 0 2;").place(0, 2), NONE);
        due.is("6 against 3 and 2", Due.told("s0 1 0 3;s0 1 0 6;s0 1 0 2;").place(0, 2), 1);
        due.is("5 against 3 and 2, a NICHE", Due.told("h0;s0 1 0 3;s0 1 0 5;s0 1 0 2;").place(0, 2), NONE);
        due.is("6 against 3 and 2, a NICHE", Due.told("h0;s0 1 0 3;s0 1 0 6;s0 1 0 2;").place(0, 2), 1);
        due.is("7 against seven of 1", Due.told("s0 1 0 1;".repeat(7) + "s0 1 0 7;").place(0, 2), NONE);
        due.is("8 against seven of 1", Due.told("s0 1 0 1;".repeat(7) + "s0 1 0 8;").place(0, 2), 7);
        due.is("30 against 30", Due.told("s0 1 0 30;s0 1 0 30;").place(0, 2), NONE);
        due.is("30 against 29", Due.told("s0 1 0 30;s0 1 0 29;").place(0, 2), 0);
        due.is("others elsewhere", Due.told("s0 1 0 1;s1 1 0 30;s11 1 0 30;").place(0, 2), 0);
    }

    private static void breathIsNoOther() {
        WhisperRing x = Due.told("n4;s0 4 0 3;s0 4 0 2;s0 4 0 1;");
        due.is("3 against 2 and 1", x.place(0, 3), 1);
        x.ticks(1);
        due.is("2 against 1, and BREATH", x.place(0, 2), 0);
        due.is("no SEA", x.place(0, 3), 0);
        due.is("two sound", x.place(0, 1), 3);
    }

    private static void aSeaHasSomeAndNoneClear() {
        WhisperRing x = Due.told("n4;s0 4 0 2;s0 4 0 2;s1 4 0 2;");
        due.is("two alike", x.place(0, 3), 1);
        due.is("one alone", x.place(1, 3), 0);
        due.is("none there", x.place(2, 3), 0);
        due.is("none there is CLEAR", x.place(2, 2), NONE);
        x.ticks(2);
        due.is("two that are BREATH", x.place(0, 3), 0);
        due.is("two that are BREATH, none CLEAR", x.place(0, 2), NONE);
        due.is("two that are BREATH, nothing sounds", x.place(0, 4), 0);
    }

    private static void placesThatSoundAndSeas() {
        due.is("nothing sounds", new WhisperRing().now(3), 0);
        due.is("no SEA", new WhisperRing().now(4), 0);
        WhisperRing x = Due.told("n4;s0 1 0 1;s1 1 0 2;s2 1 0 3;s3 1 0 4;s0 1 0 1;s1 1 0 2;s2 1 0 3;s3 1 0 4;");
        due.is("all 4 sound", x.now(3), 4);
        due.is("all 4 are SEAS", x.now(4), 4);
        x.hushes(7);
        due.is("the last sounds yet", x.now(3), 4);
        due.is("the last is no SEA", x.now(4), 3);
        x.hushes(3);
        due.is("the last is quiet", x.now(3), 3);
        due.is("8 places, 8 sayings", Due.told("n8;" + eightRound()).now(3), 8);
        due.is("bits of 8 sayings", Due.told("n8;" + eightRound()).now(1), 255);
        due.is("STRENGTH of 8 sayings", Due.told("n8;" + eightRound()).now(2), 240);
    }

    private static void hushedIsOneThatIsNotBreath() {
        WhisperRing x = Due.told("n4;s0 4 0 1;s0 4 0 2;s0 4 0 3;");
        due.is("hushes(2), loud 3", x.hushes(2), 3);
        due.is("hushes(2) again", x.hushes(2), STATE);
        x.ticks(1);
        due.is("hushes(1), 1 left", x.hushes(1), 1);
        due.is("hushes(0), none left", x.hushes(0), STATE);
        due.is("three deeds", x.count(5), 3);
    }

    // ---- 2, undoing

    private static void tenMayBeUndone() {
        WhisperRing x = new WhisperRing();
        due.is("none at first", x.count(5), 0);
        for (int i = 1; i <= 10; i++) {
            x.ticks(i);
            due.is("to be UNDONE behind " + i, x.count(5), i);
        }
        for (int i = 9; i >= 0; i--) {
            due.is("how many more", x.undo(), i);
            due.is("TICK with " + i + " more", x.now(0), i * (i + 1) / 2);
        }
        due.is("none more", x.undo(), STATE);
        due.is("TICK 0", x.now(0), 0);
    }

    private static void theEleventhIsLost() {
        WhisperRing x = new WhisperRing();
        for (int i = 1; i <= 11; i++) {
            x.ticks(i);
        }
        due.is("10 are known", x.count(5), 10);
        for (int i = 9; i >= 0; i--) {
            due.is("how many more of 11", x.undo(), i);
        }
        due.is("the first of 11 is lost", x.undo(), STATE);
        due.is("TICK behind the first of 11", x.now(0), 1);
    }

    private static void eachKindOfDeedMayBeLost() {
        WhisperRing x = Due.told("n4;s0 1 0 9;");
        x.ticks(5);
        x.says(1, 1, 0, 9);
        x.hushes(0);
        for (int i = 0; i < 10; i++) {
            x.ticks(1);
        }
        for (int i = 0; i < 10; i++) {
            x.undo();
        }
        due.is("lost: none more", x.undo(), STATE);
        due.is("lost: the ticks stay", x.now(0), 5);
        due.is("lost: what was SAID stays", x.count(1), 2);
        due.is("lost: what was HUSHED stays", x.saying(0, 7), 1);
        // The ten known ones of all kinds, the latest first.
        WhisperRing y = Due.told("n4;s0 1 0 9;");
        y.ticks(1);
        for (int i = 1; i <= 5; i++) {
            y.says(i % 4, 1, 0, 9);
            y.hushes(i);
        }
        due.is("ten known", y.count(5), 10);
        for (int i = 5; i >= 1; i--) {
            due.is("HUSHED ahead of it", y.saying(i, 7), 1);
            y.undo();
            due.is("not HUSHED behind it", y.saying(i, 7), 0);
            y.undo();
            due.is("SAYINGS behind it", y.count(1), i);
        }
        due.is("the ticks are lost", y.undo(), STATE);
        due.is("TICK 1 stays", y.now(0), 1);
    }

    private static void undoneMakesRoom() {
        WhisperRing x = new WhisperRing();
        for (int i = 0; i < 10; i++) {
            x.ticks(2);
        }
        x.undo();
        x.says(0, 1, 0, 1);
        due.is("ten again", x.count(5), 10);
        for (int i = 9; i >= 0; i--) {
            due.is("all ten", x.undo(), i);
        }
        due.is("nothing was lost", x.now(0), 0);
        x.says(0, 1, 0, 1);
        x.hushes(0);
        x.undo();
        x.undo();
        due.is("SAID anew behind one that was HUSHED", x.says(0, 1, 0, 1), 0);
        due.is("it is not HUSHED", x.saying(0, 7), 0);
    }

    private static void onlyTheLatestIsUndone() {
        WhisperRing x = Due.told("s0 1 0 9;s1 1 0 9;s2 1 0 9;s3 1 0 9;");
        x.hushes(0);
        x.hushes(2);
        x.undo();
        due.is("2 is no more HUSHED, 0 is, 1 and 3 are not", x.now(1), 14);
        x.ticks(3);
        x.says(5, 2, 0, 9);
        x.undo();
        due.is("the ticks stay", x.now(0), 3);
        due.is("0 is HUSHED yet", x.saying(0, 7), 1);
        x.undo();
        due.is("four SAYINGS stay", x.count(1), 4);
        due.is("0 is HUSHED yet, behind the ticks", x.now(1), 14);
    }

    private static void questionsAreNotUndone() {
        WhisperRing x = Due.told("s0 1 0 9;");
        x.hears(0, 0, 1);
        x.forget();
        x.mark(1, 0);
        x.keep(0);
        x.back(0);
        x.type('n');
        x.clear();
        due.is("nothing to be UNDONE", x.count(5), 0);
        due.is("undo()", x.undo(), STATE);
    }

    // ---- 3, when

    private static void whenIsNowOrLaterOrNone() {
        WhisperRing x = Due.told("n4;s0 1 0 1;");
        due.is("there now", x.when(0, 0, 0), 0);
        due.is("once", x.when(0, 0, 1), 1);
        due.is("there by its last sound", x.when(0, 3, 0), 3);
        x.ticks(1);
        due.is("there but as BREATH", x.when(0, 0, 0), NONE);
        due.is("not once", x.when(0, 0, 1), 0);
        due.is("from now", x.when(0, 3, 0), 2);
        x.ticks(3);
        due.is("there now, as BREATH", x.when(0, 0, 0), NONE);
        WhisperRing y = Due.told("n24;s1 1 0 1;s0 2 0 30;");
        due.is("the longest way", y.when(0, 0, 0), 23);
        due.is("never: odd PLACES", y.when(1, 23, 0), NONE);
        due.is("never: not once", y.when(1, 23, 1), 0);
    }

    /** The longest is 30 LAPS of 24: it sounds in the ticks 0 .. 719, so 999 are always enough. */
    private static void oftenGoesToTheLastSound() {
        WhisperRing x = Due.told("n24;s0 1 0 30;s0 1 1 30;");
        due.is("ticks 23, 47 .. 719, right", x.when(0, 23, 1), 30);
        due.is("ticks 23, 47 .. 719, left", x.when(1, 1, 1), 30);
        due.is("ticks 0, 24 .. 696", x.when(0, 0, 1), 30);
        x.ticks(1);
        due.is("0 is over", x.when(0, 0, 1), 29);
        due.is("23 is not", x.when(0, 23, 1), 30);
        bringTo(x, 719);
        due.is("the last sound", x.when(0, 23, 1), 1);
        due.is("the last sound is now", x.when(0, 23, 0), 0);
        x.ticks(1);
        due.is("none any more", x.when(0, 23, 1), 0);
    }

    private static void meetIsNowOrLaterOrNone() {
        WhisperRing x = Due.told("n4;s0 1 0 1;s3 4 0 30;s0 4 0 30;s3 1 1 4;");
        due.is("at one PLACE now", x.meet(0, 2), 0);
        due.is("by the last sound of one", x.meet(0, 1), 3);
        due.is("by the last sound, the other first", x.meet(1, 0), 3);
        due.is("side by side for ever", x.meet(1, 2), NONE);
        due.is("they pass one another", x.meet(0, 3), NONE);
        x.ticks(1);
        due.is("there but as BREATH", x.meet(0, 2), NONE);
        due.is("there but as BREATH, the other first", x.meet(2, 0), NONE);
        x.ticks(3);
        due.is("at one PLACE now, one as BREATH", x.meet(0, 2), NONE);
    }

    private static void meetOfTheLongestWay() {
        // The faster one is a PLACE ahead, and comes up behind 23 ticks, with 46 gone: a lap.
        due.is("23 ticks, 1 left", Due.told("n24;s0 1 0 1;s1 2 0 2;").meet(0, 1), 23);
        due.is("23 ticks, none left", Due.told("n24;s0 1 0 1;s1 2 0 1;").meet(0, 1), NONE);
        due.is("over the end, left", Due.told("n24;s0 1 1 1;s23 2 1 2;").meet(0, 1), 23);
    }

    private static void lastIsFromNow() {
        due.is("the shortest", Due.told("n4;l9;s0 4 0 9;").saying(0, 8), 1);
        WhisperRing x = Due.told("n24;s0 1 0 30;");
        due.is("the longest", x.saying(0, 8), 720);
        bringTo(x, 719);
        due.is("one tick ahead of it", x.saying(0, 8), 1);
        x.ticks(1);
        due.is("at it", x.saying(0, 8), 0);
        x.ticks(1);
        due.is("behind it", x.saying(0, 8), 0);
        due.is("30 by 9: four laps", Due.told("n5;l9;s0 1 0 30;").saying(0, 8), 20);
        due.is("27 by 9: three laps", Due.told("n5;l9;s0 1 0 27;").saying(0, 8), 15);
        due.is("28 by 9: four laps", Due.told("n5;l9;s0 1 0 28;").saying(0, 8), 20);
    }

    // ---- 3, quiet, best

    /** One saying at each of 8 places: every place sounds till tick 239, by a saying of 30 laps. */
    private static void quietIs0To99() {
        due.is("at once", new WhisperRing().place(0, 5), 0);
        WhisperRing x = Due.told("n8;" + eightRound());
        due.is("240 is too late", x.place(0, 5), NONE);
        bringTo(x, 140);
        due.is("100 is too late", x.place(7, 5), NONE);
        x.ticks(1);
        due.is("99", x.place(7, 5), 99);
        due.is("99, the first PLACE", x.place(0, 5), 99);
        bringTo(x, 239);
        due.is("1", x.place(0, 5), 1);
        x.ticks(1);
        due.is("0", x.place(0, 5), 0);
    }

    /** At tick n each of 8 places has one of 30 less n / 8 (cut): 14 from tick 128 on, 13 from 136. */
    private static void bestIs0To99() {
        WhisperRing x = Due.told("n8;" + eightRound());
        bringTo(x, 28);
        due.is("100 is too late", x.best(3, 3, 1, 0, 15), NONE);
        x.ticks(1);
        due.is("99", x.best(3, 3, 1, 0, 15), 99);
        bringTo(x, 127);
        due.is("1", x.best(3, 3, 1, 0, 15), 1);
        x.ticks(1);
        due.is("0", x.best(3, 3, 1, 0, 15), 0);
        // On the way for 7 ticks, it comes at 135 at first: it waits for 136.
        due.is("what sounds when it comes", x.best(3, 2, 1, 0, 14), 1);
        due.is("what sounds when it comes, louder", x.best(3, 2, 1, 0, 15), 0);
        due.is("nothing is SAID", x.count(1), 8);
        due.is("no tick goes by", x.now(0), 128);
    }

    private static void bestIsAtOnceIfPIsQ() {
        WhisperRing x = Due.told("n4;l9;s2 1 0 5;");
        due.is("at once, 6 against 5", x.best(2, 2, 4, 0, 6), 0);
        // As loud now, and a tick later the other has gone on.
        due.is("at once, 5 against 5", x.best(2, 2, 4, 0, 5), 1);
        due.is("at once, with no LAP behind it", x.best(0, 0, 4, 1, 1), 0);
    }

    private static void bestNeverComesThere() {
        WhisperRing x = Due.told("n24;");
        due.is("by 2 to the next", x.best(0, 1, 2, 0, 30), NONE);
        due.is("by 2 to the last", x.best(0, 23, 2, 1, 30), NONE);
        due.is("by 6 to 7", x.best(0, 7, 6, 0, 30), NONE);
        due.is("by 6 to 18, left", x.best(0, 18, 6, 1, 30), 0);
        due.is("by 1 all round", x.best(1, 0, 1, 0, 1), 0);
        WhisperRing odd = Due.told("n23;");
        // 12 ticks by 2 are 24: one lap of 23 and 1.
        due.is("by 2 of 23 to the next, a LAP behind", odd.best(0, 1, 2, 0, 2), 0);
        due.is("by 2 of 23 to the next, as BREATH", odd.best(0, 1, 2, 0, 1), NONE);
        // 23 places by 6, all round: 4 ticks are 24.
        due.is("22 ticks by 6 are 132, 5 LAPS and 17", odd.best(0, 17, 6, 0, 6), 0);
        due.is("22 ticks by 6, as BREATH", odd.best(0, 17, 6, 0, 5), NONE);
    }

    private static void bestComesAsBreath() {
        WhisperRing x = Due.told("n4;l9;");
        // From 0 by 3 to 2: 6 gone, a lap.
        due.is("9 less 9", x.best(0, 2, 3, 0, 9), NONE);
        due.is("10 less 9", x.best(0, 2, 3, 0, 10), 0);
        due.is("3 gone, no LAP", x.best(0, 3, 3, 0, 1), 0);
    }

    private static void bestIsLouderNotAsLoud() {
        WhisperRing x = Due.told("n4;l1;h2;s2 4 0 3;s2 4 1 2;");
        due.is("5 against 3 and 2, a tick later against 2 and 1", x.best(2, 2, 1, 0, 5), 1);
        due.is("6 against 3 and 2", x.best(2, 2, 1, 0, 6), 0);
        x.hushes(0);
        due.is("3 against 2", x.best(2, 2, 1, 0, 3), 0);
        due.is("2 against 2", x.best(2, 2, 1, 0, 2), 1);
    }

    // ---- 3, stills

    private static void stillsOfNoneIs0() {
        due.is("alone", Due.told("s0 1 0 1;").stills(0), 0);
        due.is("CLEAR already", Due.told("s0 1 0 6;s0 1 0 3;s0 1 0 2;").stills(0), 0);
        due.is("others elsewhere", Due.told("s0 1 0 1;s1 1 0 30;").stills(0), 0);
        due.is("as loud as the others", Due.told("s0 1 0 5;s0 1 0 3;s0 1 0 2;").stills(0), 2);
    }

    private static void stillsOfAllOthers() {
        WhisperRing x = Due.told("s0 1 0 1;".repeat(8));
        due.is("all but the first", x.stills(0), 254);
        due.is("all but the last", x.stills(7), 127);
        x.hushes(3);
        due.is("without one that is HUSHED", x.stills(7), 119);
    }

    private static void stillsAreFewestThenLeast() {
        // Against 2, 2 and 4: 4 by itself, or both of 2, whose bits are less, but not fewer.
        due.is("fewest first", Due.told("s0 1 0 5;s0 1 0 2;s0 1 0 2;s0 1 0 4;").stills(0), 8);
        // Against 3, 3 and 6: 6 and one of 3.
        due.is("then the least", Due.told("s0 1 0 5;s0 1 0 3;s0 1 0 3;s0 1 0 6;").stills(0), 10);
        due.is("the least of seven", Due.told("s0 1 0 1;".repeat(7) + "s0 1 0 7;").stills(7), 1);
    }

    private static void stillsAreForNow() {
        WhisperRing x = Due.told("n4;s0 1 0 2;s0 4 0 9;s1 4 0 9;");
        due.is("with 1 at 0, not with 2 at 1", x.stills(0), 2);
        x.ticks(1);
        due.is("a tick behind, with 2 at 1", x.stills(0), 4);
    }

    private static void stillsOfBreathIsNone() {
        WhisperRing x = Due.told("n4;s0 4 0 1;s0 4 0 2;s1 1 0 9;");
        due.is("1 left", x.stills(0), 2);
        x.ticks(1);
        due.is("none left", x.stills(0), NONE);
        due.is("1 left, beside BREATH", x.stills(1), 0);
        x.hushes(2);
        due.is("HUSHED", x.stills(2), NONE);
    }

    // ---- 3, what was heard

    private static void heardAre6AtMost() {
        WhisperRing x = new WhisperRing();
        due.is("nothing was HEARD at first", x.forget(), 0);
        for (int i = 1; i <= 6; i++) {
            due.is("HEARD", x.hears(i, 0, 0), i);
        }
        due.is("a seventh", x.hears(7, 0, 0), FULL);
        due.is("6 are HEARD", x.count(4), 6);
        // The sixth counts, the seventh does not: 6 of 12 places are left.
        due.is("guesses by 6", x.guesses(0), 72);
        due.is("forget()", x.forget(), 6);
        due.is("room again", x.hears(7, 0, 0), 1);
    }

    private static void heardIsBehind0To99() {
        WhisperRing x = Due.told("n24;");
        due.is("behind -1", x.hears(0, -1, 1), BAD);
        due.is("behind 0", x.hears(0, 0, 1), 1);
        due.is("12 said at 0", x.guesses(0), 12);
        due.is("behind 100", x.hears(3, 100, 1), BAD);
        due.is("12 yet", x.guesses(0), 12);
        // 99 ticks are 4 laps and 3: by 1 to the right alone.
        due.is("behind 99", x.hears(3, 99, 1), 2);
        due.is("1 guess", x.guesses(0), 1);
        due.is("by 1 to the right", x.guesses(1), 10);
        due.is("there -1", x.hears(0, 0, -1), BAD);
        due.is("there 2", x.hears(0, 0, 2), BAD);
        due.is("there 0", x.hears(0, 0, 0), 3);
        due.is("both there and not", x.guesses(0), 0);
        due.is("no first", x.guesses(1), NONE);
    }

    private static void guessesFromNoneToAll() {
        int[] places = {4, 12, 24};
        for (int n : places) {
            due.is("all of " + n, Due.told("n" + n + ";").guesses(0), 12 * n);
            due.is("the least of " + n, Due.told("n" + n + ";").guesses(1), 10);
        }
        WhisperRing x = Due.told("n24;");
        x.hears(23, 0, 1);
        due.is("the least at 23", x.guesses(1), 2310);
        x.hears(17, 1, 1);
        due.is("one: the greatest of all", x.guesses(0), 1);
        due.is("23, by 6, to the left", x.guesses(1), 2361);
        x.hears(17, 1, 0);
        due.is("none", x.guesses(0), 0);
        due.is("none: no first", x.guesses(1), NONE);
    }

    /** Said at 0 and at 2 behind two ticks, of 12: by 1 to the right (1 then 3), or by 5 to the left (7 then 9). */
    private static WhisperRing twoGuesses() {
        WhisperRing x = new WhisperRing();
        x.hears(0, 0, 1);
        x.hears(2, 2, 1);
        return x;
    }

    private static void askIsFor0To99() {
        WhisperRing x = twoGuesses();
        due.is("two", x.guesses(0), 2);
        due.is("ask(-1)", x.ask(-1), BAD);
        due.is("ask(0): both at 0", x.ask(0), NONE);
        due.is("ask(99): at 3 and at 9", x.ask(99), 3);
        due.is("ask(100)", x.ask(100), BAD);
        for (int n = 0; n <= 99; n++) {
            due.is("ask(" + n + ") of all", new WhisperRing().ask(n), 0);
        }
    }

    private static void askOfFewerThan2() {
        WhisperRing x = twoGuesses();
        due.is("2: parted at 1", x.ask(1), 1);
        x.hears(7, 1, 0);
        due.is("1 is left", x.guesses(0), 1);
        due.is("1: NONE", x.ask(1), NONE);
        x.hears(1, 1, 0);
        due.is("none is left", x.guesses(0), 0);
        due.is("0: NONE", x.ask(1), NONE);
    }

    private static void askOfTwoThatArePartedOrNot() {
        WhisperRing x = twoGuesses();
        due.is("at 2, both", x.ask(2), NONE);
        due.is("at 3 and 9", x.ask(3), 3);
        due.is("at 2 behind 98, both", x.ask(98), NONE);
        // By 4 of 8, right or left: alike for ever.
        WhisperRing y = Due.told("n8;");
        y.hears(1, 0, 1);
        y.hears(5, 1, 1);
        due.is("two alike", y.guesses(0), 2);
        for (int n = 0; n <= 99; n++) {
            due.is("two alike, ask(" + n + ")", y.ask(n), NONE);
        }
    }

    private static void askOfSeveralTheLowest() {
        WhisperRing x = Due.told("n24;");
        x.hears(23, 0, 1);
        // Behind a tick one at each of 17 .. 22 and 0 .. 5: the greater part is 11 at each.
        due.is("the lowest of twelve", x.ask(1), 0);
        x.hears(0, 1, 0);
        due.is("the lowest of eleven", x.ask(1), 1);
        WhisperRing y = Due.told("n24;");
        y.hears(0, 0, 1);
        // Behind a tick one at each of 1 .. 6 and 18 .. 23: at 0 none is parted.
        due.is("0 parts none", y.ask(1), 1);
        for (int p = 1; p <= 4; p++) {
            y.hears(p, 1, 0);
        }
        due.is("1 to 4 part none", y.ask(1), 5);
        // At 22, and 12 ticks behind at 22 + 12: by odd speeds. A tick behind at 23, 1, 3, 21, 19, 17.
        WhisperRing odd = Due.told("n24;");
        odd.hears(22, 0, 1);
        odd.hears(10, 12, 1);
        due.is("six by odd speeds", odd.ask(1), 1);
        int[] notAt = {1, 3, 21, 19};
        for (int p : notAt) {
            odd.hears(p, 1, 0);
        }
        due.is("two: at 17 and at the last PLACE", odd.ask(1), 17);
        WhisperRing last = Due.told("n4;");
        last.hears(0, 0, 0);
        last.hears(1, 0, 0);
        // Said at 2 or at 3, halves: 2 is the lowest; without 2 all are at 3.
        due.is("halves", last.ask(0), 2);
        last.hears(2, 0, 0);
        due.is("all at the last", last.ask(0), NONE);
    }

    // ---- 3, odds

    private static void oddsOf0Laps() {
        odds("s0 1 0 1;", 0, 0, 1, 1);
        odds("s0 1 0 1;", 0, 10, 1, 1);
        odds("l9;s0 1 0 1;", 0, 5, 1, 1);
        due.is("-1 LAPS", Due.told("s0 1 0 1;").odds(0, -1, 0, 0), BAD);
    }

    private static void oddsOf6Laps() {
        odds("s0 1 0 7;", 6, 1, 531441, 1000000);
        odds("s0 1 0 7;", 6, 9, 1, 1000000);
        odds("s0 1 0 7;", 6, 5, 1, 64);
        odds("s0 1 0 6;", 6, 1, 0, 1);
        odds("s0 1 0 12;", 6, 1, 999999, 1000000);
        odds("s0 1 0 12;", 6, 9, 468559, 1000000);
        odds("s0 1 0 12;", 6, 5, 63, 64);
        odds("s0 1 0 13;", 6, 9, 1, 1);
        due.is("7 LAPS", Due.told("s0 1 0 30;").odds(0, 7, 0, 0), BAD);
    }

    private static void oddsBy0AndBy10() {
        odds("s0 1 0 7;", 6, 0, 1, 1);
        odds("s0 1 0 6;", 6, 0, 0, 1);
        odds("s0 1 0 13;", 6, 10, 1, 1);
        odds("s0 1 0 12;", 6, 10, 0, 1);
        odds("s0 1 0 3;", 1, 10, 1, 1);
        odds("s0 1 0 2;", 1, 10, 0, 1);
        odds("s0 1 0 2;", 1, 1, 9, 10);
        odds("s0 1 0 2;", 1, 9, 1, 10);
        WhisperRing x = Due.told("s0 1 0 30;");
        due.is("-1 of 10", x.odds(0, 1, -1, 0), BAD);
        due.is("11 of 10", x.odds(0, 1, 11, 0), BAD);
    }

    private static void oddsByTheGreatestLoss() {
        odds("l9;s0 1 0 30;", 3, 0, 1, 1);
        odds("l9;s0 1 0 30;", 4, 0, 0, 1);
        odds("l9;s0 1 0 30;", 1, 10, 1, 1);
        odds("l9;s0 1 0 30;", 2, 10, 0, 1);
        // 2 laps: 12, 3 or -6.
        odds("l9;s0 1 0 30;", 2, 5, 3, 4);
        odds("l9;s0 1 0 30;", 6, 10, 0, 1);
        odds("l9;s0 1 0 9;", 1, 0, 0, 1);
        odds("l9;s0 1 0 10;", 1, 0, 1, 1);
    }

    private static void oddsOfBreath() {
        WhisperRing x = Due.told("n4;s0 4 0 1;s0 4 0 2;s0 4 0 30;");
        x.ticks(1);
        due.is("BREATH: upper", x.odds(0, 0, 0, 0), 0);
        due.is("BREATH: lower", x.odds(0, 0, 0, 1), 1);
        due.is("1 left: upper", x.odds(1, 0, 0, 0), 1);
        due.is("1 left, a LAP: upper", x.odds(1, 1, 0, 0), 0);
        due.is("1 left, a LAP: lower", x.odds(1, 1, 0, 1), 1);
        x.hushes(2);
        due.is("HUSHED: upper", x.odds(2, 0, 0, 0), 0);
        due.is("HUSHED: lower", x.odds(2, 6, 10, 1), 1);
    }

    private static void odds(String text, int n, int parts, int upper, int lower) {
        WhisperRing x = Due.told(text);
        due.is("'" + text + "' odds(0, " + n + ", " + parts + ", 0)", x.odds(0, n, parts, 0), upper);
        due.is("'" + text + "' odds(0, " + n + ", " + parts + ", 1)", x.odds(0, n, parts, 1), lower);
    }

    // ---- 4

    private static void kindsAre0To5() {
        WhisperRing x = Due.told("n5;l4;s4 3 1 20;");
        x.ticks(2);
        // 6 gone: a lap; at 3, STRENGTH 16.
        due.is("mark(-1, 0)", x.mark(-1, 0), NO);
        due.is("SAYING", x.mark(0, 0), 20);
        due.is("VOW", x.mark(1, 0), 36);
        due.is("RUMOUR", x.mark(2, 0), 17);
        due.is("CURSE", x.mark(3, 0), 72);
        due.is("LIE", x.mark(4, 0), 17);
        due.is("HYMN", x.mark(5, 0), 23);
        due.is("mark(6, 0)", x.mark(6, 0), NO);
        due.is("each body as often as it was asked", x.trace(), 1 + 11 + 101 + 1011 + 10101 + 100001);
    }

    private static void marksAtTheirEnds() {
        WhisperRing x = Due.told("n24;" + "s23 6 0 1;".repeat(7) + "s23 1 0 30;");
        due.is("the least RUMOUR", x.mark(2, 0), -5);
        due.is("the least LIE", x.mark(4, 0), -5);
        due.is("LIE of the number 6", x.mark(4, 6), 1);
        due.is("LIE of the number 7", x.mark(4, 7), 36);
        due.is("the greatest CURSE", x.mark(3, 7), 120);
        due.is("the greatest HYMN", x.mark(5, 7), 53);
        due.is("the greatest VOW", x.mark(1, 7), 60);
        x.ticks(1);
        due.is("HYMN over the end", x.mark(5, 7), 30);
        x.ticks(2);
        due.is("VOW of the last sound", x.mark(1, 0), 2);
        due.is("CURSE of the last sound", x.mark(3, 0), 4);
        x.ticks(1);
        due.is("VOW of BREATH", x.mark(1, 0), 1);
        due.is("CURSE of BREATH", x.mark(3, 0), 2);
    }

    private static void imagesAre0And1() {
        WhisperRing x = Due.told("s0 1 0 9;");
        due.is("back(0), none kept", x.back(0), STATE);
        due.is("keep(0)", x.keep(0), 0);
        due.is("back(1), none kept", x.back(1), STATE);
        x.ticks(3);
        due.is("keep(1)", x.keep(1), 3);
        x.ticks(4);
        due.is("keep(2)", x.keep(2), BAD);
        due.is("keep(-1)", x.keep(-1), BAD);
        due.is("back(2)", x.back(2), BAD);
        due.is("back(-1)", x.back(-1), BAD);
        due.is("back(0)", x.back(0), 0);
        due.is("back(1)", x.back(1), 3);
        due.is("back(1) again", x.back(1), 3);
        x.ticks(9);
        due.is("keep(0) over another", x.keep(0), 12);
        due.is("back(1), the other stays", x.back(1), 3);
        due.is("back(0), the later", x.back(0), 12);
    }

    private static void anImageKeepsAllSayings() {
        WhisperRing x = new WhisperRing();
        for (int s = 0; s < 8; s++) {
            x.says(11 - s, 6 - s % 6, s % 2, 30 - s);
            x.ticks(1);
        }
        x.hushes(0);
        x.hushes(7);
        x.keep(0);
        int[][] kept = answersOfAll(x);
        for (int i = 0; i < 10; i++) {
            x.undo();
        }
        // Four of them are left; other ones come in their place.
        for (int s = x.count(1); s < 8; s++) {
            x.says(0, 1, 1 - s % 2, 1);
        }
        x.ticks(50);
        due.is("an IMAGE's TICK", x.back(0), 8);
        due.is("an IMAGE's SAYINGS", x.count(1), 8);
        int[][] again = answersOfAll(x);
        for (int s = 0; s < 8; s++) {
            for (int what = 0; what <= 8; what++) {
                due.is("an IMAGE's saying(" + s + ", " + what + ")", again[s][what], kept[s][what]);
            }
        }
        due.is("an IMAGE's last, where it was said", kept[7][0], 4);
        due.is("an IMAGE's last, HUSHED", kept[7][7], 1);
        x.keep(1);
        Due.tell(x, "n8;" + eightRound());
        x.keep(0);
        Due.tell(x, "");
        x.keep(0);
        for (int s = 0; s < 8; s++) {
            x.says(s, 1, 0, 9);
        }
        due.is("an IMAGE without SAYINGS", x.back(0), 0);
        due.is("none there", x.count(1), 0);
    }

    private static int[][] answersOfAll(WhisperRing x) {
        int[][] answers = new int[8][9];
        for (int s = 0; s < 8; s++) {
            for (int what = 0; what <= 8; what++) {
                answers[s][what] = x.saying(s, what);
            }
        }
        return answers;
    }

    private static void anImageKeepsAllThatMayBeUndone() {
        WhisperRing x = new WhisperRing();
        for (int i = 1; i <= 10; i++) {
            x.ticks(i);
        }
        x.keep(0);
        for (int i = 0; i < 10; i++) {
            x.undo();
        }
        x.keep(1);
        for (int i = 0; i < 11; i++) {
            x.ticks(99);
        }
        due.is("back(0)", x.back(0), 55);
        for (int i = 9; i >= 0; i--) {
            due.is("ten to be UNDONE", x.undo(), i);
            due.is("TICK", x.now(0), i * (i + 1) / 2);
        }
        x.ticks(5);
        due.is("back(1)", x.back(1), 0);
        due.is("none to be UNDONE", x.undo(), STATE);
        due.is("back(0) again", x.back(0), 55);
        due.is("ten again", x.count(5), 10);
    }

    private static void anImageKeepsNothingElse() {
        WhisperRing x = Due.told("n5;l2;h1;s0 1 0 9;");
        x.keep(0);
        x.hears(1, 1, 1);
        x.mark(0, 0);
        x.type('h');
        x.ticks(1);
        x.keep(1);
        x.back(0);
        due.is("HEARD stays", x.count(4), 1);
        due.is("THE TRACE stays", x.trace(), 1);
        due.is("THE TEXT stays", x.count(6), 1);
        due.is("the other IMAGE stays", x.back(1), 1);
        due.is("PLACES stay", x.count(0), 5);
    }

    private static void readAnew() {
        WhisperRing x = Due.told("n5;l2;h1;s0 1 0 9;");
        x.hears(1, 1, 1);
        x.ticks(3);
        x.hushes(0);
        x.keep(0);
        x.keep(1);
        x.mark(0, 0);
        due.is("anew", Due.tell(x, "n4;s3 1 0 8;"), 2);
        due.is("nothing HEARD", x.count(4), 0);
        due.is("nothing to be UNDONE", x.count(5), 0);
        due.is("undo()", x.undo(), STATE);
        due.is("IMAGE 0 is gone", x.back(0), STATE);
        due.is("IMAGE 1 is gone", x.back(1), STATE);
        due.is("TICK 0", x.now(0), 0);
        due.is("LOSS as at first", x.count(2), 1);
        due.is("no NICHE", x.count(3), 0);
        due.is("one SAYING", x.count(1), 1);
        due.is("not HUSHED", x.saying(0, 7), 0);
        due.is("all guesses", x.guesses(0), 48);
        due.is("what the text tells can't be UNDONE", x.count(5), 0);
    }

    /** Nothing of an older text comes again, not of the one ahead of the last either. */
    private static void readAnewAgainAndAgain() {
        WhisperRing x = new WhisperRing();
        for (int i = 0; i < 3; i++) {
            Due.tell(x, "n5;l2;h1;s0 1 0 9;s1 1 0 9;");
            x.ticks(3);
            x.hushes(0);
            x.hears(1, 1, 1);
            x.keep(0);
            int[] first = {12, 0, 1, 0, 0, 0, 0};
            for (int j = 0; j < 3; j++) {
                due.is("nothing told", Due.tell(x, ""), 0);
                for (int what = 0; what <= 6; what++) {
                    due.is("nothing told, count(" + what + ")", x.count(what), first[what]);
                }
                due.is("nothing told, TICK", x.now(0), 0);
                due.is("nothing told, undo()", x.undo(), STATE);
                due.is("nothing told, back(0)", x.back(0), STATE);
                x.says(0, 1, 0, 9);
                due.is("nothing told, none is HUSHED", x.now(1), 1);
            }
        }
    }

    // ---- what the tests share

    private static String eightRound() {
        StringBuilder text = new StringBuilder();
        for (int p = 0; p < 8; p++) {
            text.append("s").append(p).append(" 1 0 30;");
        }
        return text.toString();
    }

    private static void bringTo(WhisperRing x, int tick) {
        for (int left = tick - x.now(0); left > 0; left -= 99) {
            x.ticks(Math.min(99, left));
        }
    }
}
