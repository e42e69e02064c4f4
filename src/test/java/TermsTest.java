/**
 * The sentences of "Terms" that name a bound, each by a test of its own: the last good number and the first
 * wrong one on either side; and where a text is refused, that nothing changes, the text's bytes neither.
 */
public final class TermsTest {
    private static final int BAD = -1, FULL = -3;
    private static final String EIGHT = "s0 1 0 1;".repeat(8);
    private static final Due due = new Due();

    public static void main(String[] args) {
        placesAre4To24();
        placesAre12AtFirst();
        placesEndAtAsManyAsAreToldLess1();
        behindTheLastComes0();
        aheadOf0ComesTheLast();
        theRingEndsForEverySpeed();
        theRingEndsForEveryQuestion();
        theRingEndsBehindManyLaps();
        lossIs1To9();
        lossIs1AtFirst();
        aNicheToldTwiceIsToldOnce();
        everyPlaceMayBeANiche();
        sayingsAre8AtMost();
        speedIs1To6();
        wayIs0Or1();
        loudIs1To30();
        theTextHas120BytesAtMost();
        aTextMayBeEmpty();
        aByteBehindAnItem();
        aByteBehindADigit();
        aByteBehindALetter();
        blanksAre32();
        nIsTheFirstOfAll();
        lIsToldOnceAtMost();
        lettersThatBeginNoItem();
        aNumberAbove99();
        aNumberWithA0Ahead();
        aTokenThatCannotStandThere();
        theFirstFaultCounts();
        theTextEndsTooEarly();
        aFaultLeavesNothingForTheNextText();
        due.end();
    }

    // ---- PLACES

    private static void placesAre4To24() {
        faulty("n0;", 1);
        faulty("n3;", 1);
        for (int n = 4; n <= 24; n++) {
            due.is("PLACES told, " + n, reads("n" + n + ";", 1).count(0), n);
        }
        faulty("n25;", 1);
        faulty("n99;", 1);
    }

    private static void placesAre12AtFirst() {
        due.is("PLACES at first", new WhisperRing().count(0), 12);
        due.is("PLACES not told", reads("l1;", 1).count(0), 12);
        WhisperRing x = Due.told("n5;");
        Due.tell(x, "h11;");
        due.is("PLACES not told anew", x.count(0), 12);
    }

    private static void placesEndAtAsManyAsAreToldLess1() {
        String[] told = {"n4;", "", "n24;"};
        int[] places = {4, 12, 24};
        for (int i = 0; i < told.length; i++) {
            int n = places[i];
            reads(told[i] + "h0;", told[i].isEmpty() ? 1 : 2);
            WhisperRing x = reads(told[i] + "h" + (n - 1) + ";s" + (n - 1) + " 1 0 9;", told[i].isEmpty() ? 2 : 3);
            due.is("the last of " + n + " PLACES is a NICHE", x.place(n - 1, 0), 1);
            due.is("the last of " + n + " PLACES sounds", x.place(n - 1, 4), 18);
            due.is("said at the last of " + n, x.says(n - 1, 1, 0, 1), 1);
            due.is("said at the first of " + n, x.says(0, 1, 0, 1), 2);
            due.is("heard at the last of " + n, x.hears(n - 1, 0, 1), 1);
            due.is("when at the last of " + n, x.when(0, n - 1, 0), 0);
            due.is("best from the last of " + n, x.best(n - 1, n - 1, 1, 0, 30), 0);
            due.is("no such PLACE of " + n, x.place(n, 0), BAD);
            faulty(told[i] + "h" + n + ";", told[i].length() + 1);
            faulty(told[i] + "s" + n + " 1 0 9;", told[i].length() + 1);
        }
    }

    private static void behindTheLastComes0() {
        for (int n = 4; n <= 24; n++) {
            WhisperRing x = Due.told("n" + n + ";s" + (n - 2) + " 1 0 9;s" + (n - 1) + " 1 0 9;s0 1 0 9;");
            x.ticks(1);
            due.is("right of the last but one of " + n, x.saying(0, 4), n - 1);
            due.is("right of the last of " + n, x.saying(1, 4), 0);
            due.is("right of 0 of " + n, x.saying(2, 4), 1);
        }
    }

    private static void aheadOf0ComesTheLast() {
        for (int n = 4; n <= 24; n++) {
            WhisperRing x = Due.told("n" + n + ";s1 1 1 9;s0 1 1 9;s" + (n - 1) + " 1 1 9;");
            x.ticks(1);
            due.is("left of 1 of " + n, x.saying(0, 4), 0);
            due.is("left of 0 of " + n, x.saying(1, 4), n - 1);
            due.is("left of the last of " + n, x.saying(2, 4), n - 2);
        }
    }

    private static void theRingEndsForEverySpeed() {
        int[][] rightOfTheLast = {{0, 1, 2, 3, 0, 1}, {0, 1, 2, 3, 4, 0}, {0, 1, 2, 3, 4, 5}, {0, 1, 2, 3, 4, 5}};
        int[][] leftOf0 = {{3, 2, 1, 0, 3, 2}, {4, 3, 2, 1, 0, 4}, {5, 4, 3, 2, 1, 0}, {6, 5, 4, 3, 2, 1}};
        for (int n = 4; n <= 7; n++) {
            WhisperRing right = Due.told("n" + n + ";");
            WhisperRing left = Due.told("n" + n + ";");
            for (int speed = 1; speed <= 6; speed++) {
                right.says(n - 1, speed, 0, 9);
                left.says(0, speed, 1, 9);
            }
            right.ticks(1);
            left.ticks(1);
            for (int speed = 1; speed <= 6; speed++) {
                due.is("right of the last of " + n + " by " + speed, right.saying(speed - 1, 4), rightOfTheLast[n - 4][speed - 1]);
                due.is("left of 0 of " + n + " by " + speed, left.saying(speed - 1, 4), leftOf0[n - 4][speed - 1]);
            }
        }
    }

    private static void theRingEndsForEveryQuestion() {
        WhisperRing x = Due.told("s11 1 0 9;s1 1 1 5;s11 6 0 1;");
        due.is("when over the end, right", x.when(0, 0, 0), 1);
        due.is("when over the end, left", x.when(1, 11, 0), 2);
        due.is("they meet at 0", x.meet(0, 1), 1);
        // Said at 11 now, it is at 0 behind a tick with the two of 9 and 5.
        due.is("best over the end, right, as loud", x.best(11, 0, 1, 0, 14), 1);
        due.is("best over the end, right, louder", x.best(11, 0, 1, 0, 15), 0);
        // Said at 1 now by 2 to the left, it is at 11 behind a tick; the one of 5 is there a tick later.
        due.is("best over the end, left", x.best(1, 11, 2, 1, 1), 0);
        x.ticks(1);
        due.is("it sounds at 0", x.place(0, 1), 3);
        x.hears(11, 0, 1);
        x.hears(0, 1, 1);
        due.is("one guess over the end, right", x.guesses(0), 1);
        due.is("from 11 to 0", x.guesses(1), 1110);
        x.forget();
        x.hears(0, 0, 1);
        x.hears(11, 1, 1);
        due.is("one guess over the end, left", x.guesses(0), 1);
        due.is("from 0 to 11", x.guesses(1), 11);
    }

    /** 9999 ticks by 6 are 59994: 2499 LAPS of 24 and 18, 8570 of 7 and 4. */
    private static void theRingEndsBehindManyLaps() {
        WhisperRing wide = atTheLastTick("n24;s23 6 0 30;s0 6 1 30;");
        due.is("24: to the right", wide.saying(0, 4), 17);
        due.is("24: to the left", wide.saying(1, 4), 6);
        due.is("24: LAPS", wide.saying(1, 5), 2499);
        WhisperRing narrow = atTheLastTick("n7;s6 6 0 30;s0 6 1 30;");
        due.is("7: to the right", narrow.saying(0, 4), 3);
        due.is("7: to the left", narrow.saying(1, 4), 3);
        due.is("7: LAPS", narrow.saying(0, 5), 8570);
    }

    // ---- LOSS, NICHES, SAYINGS

    private static void lossIs1To9() {
        faulty("l0;", 1);
        for (int loss = 1; loss <= 9; loss++) {
            WhisperRing x = reads("l" + loss + ";s0 6 0 30;", 2);
            due.is("LOSS told, " + loss, x.count(2), loss);
            x.ticks(2);
            due.is("it loses " + loss + " by a LAP", x.saying(0, 6), 30 - loss);
        }
        faulty("l10;", 1);
        faulty("l99;", 1);
    }

    private static void lossIs1AtFirst() {
        WhisperRing x = new WhisperRing();
        due.is("LOSS at first", x.count(2), 1);
        x.says(0, 6, 0, 30);
        x.ticks(2);
        due.is("it loses 1 by a LAP", x.saying(0, 6), 29);
        Due.tell(x, "l9;");
        Due.tell(x, "n4;");
        due.is("LOSS not told anew", x.count(2), 1);
    }

    private static void aNicheToldTwiceIsToldOnce() {
        WhisperRing x = reads("h3;h3;h 3 ;s3 1 0 7;", 4);
        due.is("one NICHE", x.count(3), 1);
        due.is("twice as loud, not more", x.place(3, 4), 14);
    }

    private static void everyPlaceMayBeANiche() {
        StringBuilder text = new StringBuilder("n24;");
        for (int p = 0; p < 24; p++) {
            text.append("h").append(p).append(";");
        }
        WhisperRing x = reads(text.toString(), 25);
        due.is("24 NICHES", x.count(3), 24);
        due.is("the first", x.place(0, 0), 1);
        due.is("the last", x.place(23, 0), 1);
        due.is("no NICHE at first", new WhisperRing().count(3), 0);
    }

    private static void sayingsAre8AtMost() {
        due.is("no SAYING at first", new WhisperRing().count(1), 0);
        WhisperRing x = reads(EIGHT, 8);
        due.is("the eighth is there", x.saying(7, 3), 1);
        due.is("8 told, a ninth said", x.says(0, 1, 0, 1), FULL);
        faulty(EIGHT + "s0 1 0 1;", 72);
        faulty(EIGHT + "h0; s", 76);
        reads(EIGHT + "h0;l1;", 10);
        WhisperRing y = reads(EIGHT.substring(9), 7);
        due.is("7 told, an eighth said", y.says(0, 1, 0, 1), 7);
        due.is("a ninth said", y.says(0, 1, 0, 1), FULL);
        y.undo();
        due.is("the eighth undone, another said", y.says(0, 1, 0, 1), 7);
        // One that is breath, or hushed, is a saying yet.
        y.hushes(0);
        y.ticks(99);
        due.is("8 as breath, a ninth said", y.says(0, 1, 0, 1), FULL);
    }

    private static void speedIs1To6() {
        faulty("s0 0 0 1;", 3);
        for (int speed = 1; speed <= 6; speed++) {
            WhisperRing x = reads("s0 " + speed + " 0 1;", 1);
            due.is("said by " + speed, x.says(0, speed, 0, 1), 1);
            x.ticks(1);
            due.is("told, it goes " + speed, x.saying(0, 4), speed);
            due.is("said, it goes " + speed, x.saying(1, 4), speed);
            due.is("SPEED " + speed, x.saying(1, 1), speed);
        }
        faulty("s0 7 0 1;", 3);
        due.is("best by SPEED 1", new WhisperRing().best(0, 11, 1, 0, 1), 0);
        due.is("best by SPEED 6", new WhisperRing().best(0, 6, 6, 0, 1), 0);
    }

    private static void wayIs0Or1() {
        faulty("s0 1 -1 1;", 5);
        WhisperRing x = reads("s5 1 0 1;s5 1 1 1;", 2);
        due.is("said by WAY 0", x.says(5, 1, 0, 1), 2);
        due.is("said by WAY 1", x.says(5, 1, 1, 1), 3);
        x.ticks(1);
        int[] at = {6, 4, 6, 4};
        for (int s = 0; s < 4; s++) {
            due.is("WAY of " + s, x.saying(s, 2), s % 2);
            due.is("where " + s + " goes", x.saying(s, 4), at[s]);
        }
        faulty("s0 1 2 1;", 5);
    }

    private static void loudIs1To30() {
        faulty("s0 1 0 0;", 7);
        WhisperRing x = reads("s0 1 0 1;s1 1 0 30;", 2);
        due.is("said by LOUD 1", x.says(2, 1, 0, 1), 2);
        due.is("said by LOUD 30", x.says(3, 1, 0, 30), 3);
        for (int s = 0; s < 4; s++) {
            due.is("STRENGTH of " + s, x.saying(s, 6), s % 2 == 0 ? 1 : 30);
        }
        faulty("s0 1 0 31;", 7);
        due.is("best by LOUD 1", x.best(4, 4, 1, 0, 1), 0);
        due.is("best by LOUD 30", x.best(2, 2, 1, 0, 30), 0);
    }

    // ---- the text

    private static void theTextHas120BytesAtMost() {
        reads("n4;" + " ".repeat(117), 1);
        due.is("told by the last of 120", reads(" ".repeat(117) + "n4;", 1).count(0), 4);
        due.is("40 ITEMS", reads("h7;".repeat(40), 40).count(3), 1);
        WhisperRing x = new WhisperRing();
        for (int i = 1; i <= 118; i++) {
            due.is("byte " + i, x.type(' '), i);
        }
        due.is("byte 119", x.type('n'), 119);
        due.is("byte 120", x.type('4'), 120);
        due.is("byte 121", x.type(';'), FULL);
        due.is("it has not come to the text", x.gallery(), -10 - 120);
        due.is("120 bytes yet", x.clear(), 120);
        due.is("room again", x.type(';'), 1);
    }

    private static void aTextMayBeEmpty() {
        reads("", 0);
        reads(" ", 0);
        reads(" ".repeat(120), 0);
    }

    /** A byte can begin an ITEM, or be a blank, or can't stand there; all 256. */
    private static void aByteBehindAnItem() {
        for (int c = 0; c <= 255; c++) {
            String text = "n4;" + (char) c;
            if (c == ' ') {
                reads(text, 1);
            } else {
                faulty(text, c == 'l' || c == 'h' || c == 's' ? 4 : 3);
            }
        }
    }

    /** A digit goes on with the NUMBER, any other byte is for itself: '/' and ':' stand beside 0 and 9. */
    private static void aByteBehindADigit() {
        for (int c = 0; c <= 255; c++) {
            String text = "h1" + (char) c + ";";
            if (c == ' ' || c == '0' || c == '1') {
                reads(text, 1);
            } else if (c == ';') {
                faulty(text, 3);
            } else {
                faulty(text, c >= '2' && c <= '9' ? 1 : 2);
            }
        }
    }

    /** Letters side by side are one TOKEN; '`' and '{' stand beside a and z, and begin none. */
    private static void aByteBehindALetter() {
        for (int c = 0; c <= 255; c++) {
            String text = "n" + (char) c + "4;";
            if (c == ' ' || c == '1' || c == '2') {
                reads(text, 1);
            } else {
                faulty(text, c >= 'a' && c <= 'z' ? 0 : 1);
            }
        }
    }

    private static void blanksAre32() {
        WhisperRing x = reads("   n   6   ;   s   5   6   1   30   ;   ", 2);
        due.is("blanks: PLACES", x.count(0), 6);
        due.is("blanks: LOUD", x.saying(0, 3), 30);
        reads("n6;s5 6 1 30;h5;l9;", 4);
        faulty("n6" + (char) 31 + ";", 2);
        faulty("n6" + (char) 33 + ";", 2);
        faulty("n6;" + (char) 9 + "h0;", 3);
        faulty("n6;" + (char) 10 + "h0;", 3);
        faulty("n6;" + (char) 160 + "h0;", 3);
        // A blank parts two TOKENS: 1 2 is not 12.
        faulty("h1 1;", 3);
        faulty("s1 1 0 1 0;", 9);
        faulty("n l4;", 2);
    }

    private static void nIsTheFirstOfAll() {
        reads("n4;h0;", 2);
        reads("  n4;", 1);
        faulty("n4;n4;", 3);
        faulty("l1;n4;", 3);
        faulty("h0;n4;", 3);
        faulty("s0 1 0 1;n4;", 9);
        faulty("n4;h0;n", 6);
    }

    private static void lIsToldOnceAtMost() {
        reads("l1;h0;s0 1 0 1;", 3);
        reads("s0 1 0 1;h0;l1;", 3);
        faulty("l1;l1;", 3);
        faulty("l1;h0;l2;", 6);
        faulty("n4;l9; l", 7);
        // Told once in each text.
        WhisperRing x = Due.told("l4;");
        due.is("l in a text anew", Due.tell(x, "l5;"), 1);
        due.is("LOSS told anew", x.count(2), 5);
    }

    private static void lettersThatBeginNoItem() {
        for (char c = 'a'; c <= 'z'; c++) {
            if ("nlhs".indexOf(c) < 0) {
                faulty(c + "4;", 0);
                faulty("h4;" + c + "4;", 3);
            }
        }
        String[] longer = {"nn", "ll", "hh", "ss", "nl", "sn", "an", "na", "say"};
        for (String letters : longer) {
            faulty(letters + "4;", 0);
            faulty("h4; " + letters + " 4;", 4);
        }
    }

    private static void aNumberAbove99() {
        faulty("h100;", 1);
        faulty("n 100;", 2);
        faulty("s0 1 0 100;", 7);
        faulty("s0 1 100 1;", 5);
        faulty("s0 100 0 1;", 3);
        faulty("s100 1 0 1;", 1);
        // So long that it would be 4 again, were it cut to 32 or 64 bits.
        faulty("n4294967300;", 1);
        faulty("n18446744073709551620;", 1);
        faulty("n" + "4".repeat(118) + ";", 1);
        faulty("n" + "4".repeat(119), 1);
    }

    private static void aNumberWithA0Ahead() {
        reads("h0;", 1);
        reads("h10;", 1);
        faulty("h00;", 1);
        faulty("h01;", 1);
        faulty("h 010;", 2);
        faulty("n04;", 1);
        faulty("l01;", 1);
        faulty("s00 1 0 1;", 1);
        faulty("s0 01 0 1;", 3);
        faulty("s0 1 00 1;", 5);
        faulty("s0 1 0 01;", 7);
    }

    private static void aTokenThatCannotStandThere() {
        String[] items = {"n", "l", "h", "s"};
        for (String item : items) {
            faulty(item + ";", 1);
            faulty(item + " h0;", 2);
            faulty(item + "!", 1);
        }
        faulty(";", 0);
        faulty("4;", 0);
        faulty("n4;;", 3);
        faulty("n4;4;", 3);
        faulty("n4 5;", 3);
        faulty("n4 l2;", 3);
        faulty("l2 2;", 3);
        faulty("h0 0;", 3);
        faulty("h0h0;", 2);
        faulty("s0;", 2);
        faulty("s0 1;", 4);
        faulty("s0 1 0;", 6);
        faulty("s0 1 0 1 1;", 9);
        faulty("s0 1 0 1 s0 1 0 1;", 9);
        faulty("s0 x 0 1;", 3);
    }

    private static void theFirstFaultCounts() {
        faulty("n3;x", 1);
        faulty("x!", 0);
        faulty("!x", 0);
        faulty("n4;x;!;l0;", 3);
        faulty("n4;l0;x!", 4);
        faulty("l1;l0;", 3);
        faulty("h0;n3;", 3);
        faulty(EIGHT + "s99 9 9 99;", 72);
    }

    /** Each text's beginning, with blanks or none behind it; typed on, it stands. */
    private static void theTextEndsTooEarly() {
        String text = "n4;l2;h3;s3 6 1 30;";
        int items = 0;
        for (int length = 1; length <= text.length(); length++) {
            String begun = text.substring(0, length);
            if (begun.endsWith(";")) {
                items++;
                reads(begun, items);
                reads(begun + "  ", items);
            } else {
                faulty(begun, length);
                // A blank behind it can part a NUMBER, but the text ends too early all the same.
                faulty(begun + "  ", length + 2);
                WhisperRing x = new WhisperRing();
                Due.typeAll(x, begun);
                due.is("'" + begun + "' ends too early", x.gallery(), -10 - length);
                Due.typeAll(x, text.substring(length));
                due.is("typed on behind '" + begun + "'", x.gallery(), 4);
                due.is("all 4 places of it", x.count(0), 4);
                due.is("all of its saying", x.saying(0, 3), 30);
            }
        }
        faulty("n4;" + " ".repeat(116) + "h", 120);
    }

    private static void aFaultLeavesNothingForTheNextText() {
        String[] items = {"n", "l", "h", "s"};
        for (String item : items) {
            WhisperRing x = new WhisperRing();
            due.is("'" + item + "' ends too early", Due.tell(x, item), -10 - 1);
            due.is("'" + item + item + "' behind it", Due.tell(x, item + item + "4;"), -10);
        }
        WhisperRing x = new WhisperRing();
        due.is("l told, and a fault", Due.tell(x, "n5;l3;h2;s0 1 0 1;x"), -10 - 18);
        due.is("n, l told in the next text", Due.tell(x, "n6;l4;" + EIGHT), 10);
        due.is("no NICHE of the text with the fault", x.count(3), 0);
        due.is("no SAYING of the text with the fault", x.count(1), 8);
    }

    // ---- how it is asked

    private static WhisperRing reads(String text, int items) {
        WhisperRing x = new WhisperRing();
        due.is("gallery() of '" + text + "'", Due.tell(x, text), items);
        due.is("the text is empty behind '" + text + "'", x.count(6), 0);
        return x;
    }

    /** The text is refused; behind that all is as in an object where it was typed and not read. */
    private static void faulty(String text, int place) {
        Scene typed = new Scene("typed", 5, 3, () -> typed(text));
        due.is("gallery() of '" + text + "'", typed.make().gallery(), -10 - place);
        due.holds("nothing changes by '" + text + "'", typed.isUnchangedBy(WhisperRing::gallery));
    }

    private static WhisperRing typed(String text) {
        WhisperRing x = Scene.midway();
        x.clear();
        Due.typeAll(x, text);
        return x;
    }

    private static WhisperRing atTheLastTick(String text) {
        WhisperRing x = Due.told(text);
        for (int i = 0; i < 101; i++) {
            x.ticks(99);
        }
        return x;
    }
}
