/** The edges that promises 34 to 36, and the terms of texts, name. */
public final class EdgesOfTextsTest extends Edges {
    public static void main(String[] args) throws ReflectiveOperationException {
        run(EdgesOfTextsTest.class);
    }

    /** One with stalls at 2 and 7. */
    private static MovingMarket two() {
        return row(0, 3, 2, 7);
    }

    private static MovingMarket read(String text, int items) {
        MovingMarket x = two();
        feed(x, text);
        due(items, x, "text");
        due(0, x, "count", 5);
        due(0, x, "status", -1);
        return x;
    }

    /** The text has a fault: nothing changes but that the tape is empty, and it is no finding. */
    private static void fault(String text, int at) {
        MovingMarket x = read(text, -1 - at);
        due(2, x, "count", 1);
        due(40, x, "count", 2);
        due(36, x, "count", 4);
        for (int place = 0; place < 12; place++) {
            due(0, x, "placeOf", place, 1);
        }
        due(0, x, "spring", 0);
    }

    // ---- 34: feed

    static void p34OneByteToFour() {
        MovingMarket x = new MovingMarket();
        due(1, x, "feed", 0x12345678, 1);
        due(3, x, "feed", 0x12345678, 2);
        due(6, x, "feed", 0x12345678, 3);
        due(10, x, "feed", 0x12345678, 4);
        due(10, x, "count", 5);
    }

    static void p34TheLowestBytesTheHighestOfTheseFirst() {
        MovingMarket x = new MovingMarket();
        call(x, "shade", 9, 1);
        call(x, "feed", 'x' << 24 | 's' << 16 | 'u' << 8 | 'n', 3);
        call(x, "feed", 'x' << 24 | 'y' << 16 | 'z' << 8 | '9', 1);
        due(1, x, "text");
        due(0, x, "placeOf", 9, 1);
    }

    static void p34BytesFromAboveTheSignBit() {
        MovingMarket x = new MovingMarket();
        call(x, "shade", 9, 1);
        call(x, "feed", 's' << 24 | 'u' << 16 | 'n' << 8 | '9', 4);
        call(x, "feed", 0xff000000 | 0x202020, 4);
        due(-1 - 4, x, "text");
        call(x, "feed", 's' << 24 | 'u' << 16 | 'n' << 8 | '9', 4);
        call(x, "feed", -1, 1);
        due(-1 - 4, x, "text");
        call(x, "feed", 's' << 24 | 'u' << 16 | 'n' << 8 | '9', 4);
        due(1, x, "text");
    }

    static void p34BehindWhatItHas() {
        MovingMarket x = new MovingMarket();
        feed(x, "spring 1");
        feed(x, "0");
        due(1, x, "text");
        due(10, x, "spring", 0);
    }

    static void p34BeyondTooFewTooMany() {
        for (int n : new int[] {0, -1, 5, MIN, MAX}) {
            refused(BEYOND, of(3), "feed", 115, n);
        }
    }

    /** One with so many bytes; the last of them are those that a look at everything goes on with. */
    private static MovingMarket filled(int bytes) {
        MovingMarket x = new MovingMarket();
        feed(x, " ".repeat(bytes - 12) + "sun 3;spring");
        return x;
    }

    static void p34FullAboveOneHundredAndTwenty() {
        MovingMarket x = filled(116);
        due(120, x, "feed", 0x20202039, 4);
        for (int n = 1; n <= 4; n++) {
            due(FULL, x, "feed", 0x39393939, n);
        }
        due(2, x, "text");
        due(9, x, "spring", 0);
        due(4, x, "feed", 0, 4);
    }

    static void p34FullThoughSomeOfThemHaveRoom() {
        refused(FULL, () -> filled(118), "feed", 0x20202020, 3);
        refused(FULL, () -> filled(118), "feed", 0x20202020, 4);
        MovingMarket x = filled(118);
        due(120, x, "feed", 0x2039, 2);
        due(2, x, "text");
    }

    static void p34BeyondIsToldBeforeFull() {
        refused(BEYOND, () -> filled(118), "feed", 0, 5);
        MovingMarket x = filled(120);
        due(BEYOND, x, "feed", 0, 0);
        due(BEYOND, x, "feed", 0, 5);
        due(FULL, x, "feed", 0, 1);
    }

    // ---- 35: wipe

    static void p35OfNothing() {
        due(0, new MovingMarket(), "wipe");
    }

    static void p35OfAFullTape() {
        MovingMarket x = filled(120);
        due(120, x, "wipe");
        due(0, x, "wipe");
        due(0, x, "count", 5);
        due(-1, x, "text");
        feed(x, "sun 3");
        due(1, x, "text");
    }

    // ---- 36: text

    static void p36OneItem() {
        read("shade 0", 1);
        due(1, read("shade 11", 1), "placeOf", 11, 1);
    }

    static void p36TwentyItemsOn119Bytes() {
        read("sun 1;".repeat(19) + "sun 1", 20);
    }

    static void p36ItemByItem() {
        MovingMarket x = read("visits 0 to 11 are 0;visits 3 are 5;shade 4;sun 4;spring 4;spring 5", 6);
        due(5, x, "count", 4);
        due(0, x, "placeOf", 4, 1);
        due(5, x, "spring", 0);
    }

    static void p36EachWordOfAStall() {
        String[] words = {"stall", "double", "idle", "shaded", "lazy", "blind", "cheese"};
        for (int kind = 0; kind < 7; kind++) {
            MovingMarket x = read(words[kind] + " at " + (kind < 2 ? kind : kind + 5), kind == 2 ? -1 - 8 : 1);
            if (kind != 2) {
                due(kind, x, "of", 2, 0);
                due(kind < 2 ? kind : kind + 5, x, "of", 2, 1);
                due(20, x, "of", 2, 2);
                due(0, x, "of", 2, 3);
                due(0, x, "of", 2, 4);
            }
        }
        due(2, read("idle at 11", 1), "of", 2, 0);
    }

    static void p36PlacesOfStallsZeroToEleven() {
        due(0, read("stall at 0", 1), "of", 2, 1);
        due(11, read("stall at 11", 1), "of", 2, 1);
        fault("stall at 12", 9);
        fault("stall at 999", 9);
    }

    static void p36APlaceWithoutAStall() {
        fault("stall at 2", 9);
        fault("cheese at 7 goods 3", 10);
        fault("stall at 3;stall at 3", 20);
        read("stall at 3;stall at 4", 2);
    }

    static void p36GoodsZeroToNinetyNine() {
        due(0, read("stall at 0 goods 0", 1), "of", 2, 2);
        due(99, read("stall at 0 goods 99", 1), "of", 2, 2);
        fault("stall at 0 goods 100", 17);
        fault("stall at 0 goods 999", 17);
    }

    static void p36VisitsZeroToTwenty() {
        due(0, read("visits 0 are 0", 1), "placeOf", 0, 0);
        due(20, read("visits 11 are 20", 1), "placeOf", 11, 0);
        fault("visits 0 are 21", 13);
        fault("visits 12 are 3", 7);
    }

    static void p36VisitsToNotLess() {
        MovingMarket x = read("visits 4 to 4 are 9", 1);
        due(42, x, "count", 4);
        due(9, x, "placeOf", 4, 0);
        MovingMarket all = read("visits 0 to 11 are 20", 1);
        due(240, all, "count", 4);
        MovingMarket last = read("visits 10 to 11 are 0", 1);
        due(30, last, "count", 4);
        fault("visits 4 to 3 are 9", 12);
        fault("visits 11 to 0 are 9", 13);
        fault("visits 4 to 12 are 9", 12);
    }

    static void p36ShadeAndSunZeroToEleven() {
        due(1, read("shade 0", 1), "placeOf", 0, 1);
        MovingMarket x = two();
        call(x, "shade", 0, 1);
        call(x, "shade", 11, 1);
        feed(x, "sun 0;sun 11");
        due(2, x, "text");
        due(0, x, "placeOf", 0, 1);
        due(0, x, "placeOf", 11, 1);
        fault("shade 12", 6);
        fault("sun 12", 4);
    }

    static void p36SpringZeroToEleven() {
        due(11, read("spring 11", 1), "spring", 0);
        due(0, read("spring 5;spring 0", 2), "spring", 0);
        fault("spring 12", 7);
    }

    static void p36ANinthStallItsOwnWord() {
        MovingMarket x = row(0, 3, 0, 1, 2, 3, 4, 5, 6, 7);
        feed(x, "shade 3; idle at 9 goods 100");
        due(-1 - 9, x, "text");
        due(0, x, "placeOf", 3, 1);
        feed(x, "cheese");
        due(-1, x, "text");
        due(8, x, "count", 1);
        due(0, x, "status", 1);
    }

    static void p36AnEighthStallAndANinthInOneText() {
        MovingMarket x = row(0, 3, 0, 1, 2, 3, 4, 5, 6);
        feed(x, "idle at 7;stall at 8");
        due(-1 - 10, x, "text");
        due(7, x, "count", 1);
        feed(x, "idle at 7;sun 8");
        due(2, x, "text");
        due(8, x, "count", 1);
    }

    static void p36ItEndsTooEarly() {
        String[] texts = {"", " ", "stall", "stall at", "stall at ", "stall at 3 goods", "stall at 3;", "stall at 3 ; ",
            "visits", "visits 3", "visits 3 to", "visits 3 to 4", "visits 3 to 4 are", "visits 3 are", "shade", "sun", "sun ",
            "spring", "spring 3;sun"};
        for (String text : texts) {
            fault(text, text.length());
        }
        fault("sun 3;".repeat(20), 120);
        fault(" ".repeat(120), 120);
        fault(" ".repeat(117) + "sun", 120);
    }

    static void p36AnotherWord() {
        fault("market", 0);
        fault("ttall at 3", 0);
        fault("stale at 3", 0);
        fault("run 3", 0);
        fault("stall it 3", 6);
        fault("stall at 3 foods 5", 11);
        fault("visits 3 so 4 are 5", 9);
        fault("visits 3 ere 5", 9);
        fault("at 3", 0);
        fault("goods 3", 0);
        fault("to 3", 0);
        fault("are 3", 0);
        fault("stall in 3", 6);
        fault("stall stall at 3", 6);
        fault("stall at at", 9);
        fault("stall at 3 coin 5", 11);
        fault("stall at 3 visits 5", 11);
        fault("stall at 3 goods goods", 17);
        fault("visits at 3", 7);
        fault("visits 3 is 4", 9);
        fault("visits 3 to are", 12);
        fault("visits 3 to 4 to 5 are 3", 14);
        fault("visits 3 are sun", 13);
        fault("visits 3 are 4 goods 3", 15);
        fault("shade sun", 6);
        fault("sun at 3", 4);
        fault("spring at 3", 7);
        fault("spring 3 sun 3", 9);
        fault("shade 3 to 4", 8);
    }

    static void p36ANumberOrASignInAWordsPlace() {
        fault("3", 0);
        fault(";", 0);
        fault("stall 3", 6);
        fault("stall ; at 3", 6);
        fault("stall at ; 3", 9);
        fault("stall at 3 4", 11);
        fault("visits 3 4", 9);
        fault("visits 3 ; are 4", 9);
        fault("sun 3;;", 6);
        fault("sun 3;4", 6);
        fault("sun 3 4", 6);
        fault("; sun 3", 0);
    }

    static void p36AByteThatBeginsNoToken() {
        for (int sign : new int[] {0, 1, 31, 33, '/', ':', '<', '@', 'A', 'Z', '[', '`', '{', 127, 128, 160, 255, '-', '+', '.', ','}) {
            fault("sun 3" + (char) sign, 5);
            fault((char) sign + "sun 3", 0);
            fault("sun " + (char) sign + "3", 4);
            fault("stall" + (char) sign + "at 3", 5);
        }
    }

    static void p36WordsAreLettersAToZ() {
        // Each letter of a to z goes on with the word, so that it is another one.
        for (char letter = 'a'; letter <= 'z'; letter++) {
            fault("sun" + letter + " 3", 0);
            fault(letter + "sun 3", 0);
        }
    }

    static void p36TokensAreAsLongAsCanBe() {
        fault("stallat 3", 0);
        fault("stall at 3 goodsgoods 3", 11);
        fault("sun 3 3", 6);
        fault("sun 33", 4);
        fault("shades 3", 0);
        fault("shad 3", 0);
        fault("sunshade 3", 0);
        due(1, read("shade 0;shade 10", 2), "placeOf", 10, 1);
    }

    static void p36BlanksMayStandBetweenOrNot() {
        MovingMarket x = read("stall at3goods4;visits5to6are7;shade8;spring9", 4);
        due(4, x, "of", 2, 2);
        due(7, x, "placeOf", 6, 0);
        due(9, x, "spring", 0);
        MovingMarket y = read("idle    at  3    goods   4   ;   visits   5   to   6   are   7  ;  shade   8  ;  spring   9", 4);
        due(4, y, "of", 2, 2);
        due(7, y, "placeOf", 6, 0);
        due(9, y, "spring", 0);
    }

    static void p36NumbersAreAtMost999() {
        fault("spring 1000", 7);
        fault("spring 9999999999", 7);
        // 2 to the 32nd and 2 to the 64th and 5, which would wrap round to 0 and 5.
        fault("spring 4294967296", 7);
        fault("spring 18446744073709551621", 7);
        fault("visits 3 are 4294967296", 13);
        fault("spring " + "1".repeat(113), 7);
    }

    static void p36TheFirstFaultOfSeveral() {
        fault("sun 12;stall;7", 4);
        fault("stall on 12", 6);
        fault("visits 4 to 3 are 21", 12);
    }

    static void p36AFaultBehindGoodItemsChangesNothing() {
        fault("stall at 3 goods 5;visits 0 to 11 are 9;shade 4;shade 5;spring 6;idle at 4;sun", 78);
        fault("visits 0 to 11 are 21", 19);
        fault("spring 4 4", 9);
    }

    static void p36TheTapeIsEmptyBehindATextAndAFault() {
        MovingMarket x = two();
        feed(x, "sun 3");
        due(1, x, "text");
        due(-1, x, "text");
        feed(x, "sun x");
        due(-5, x, "text");
        due(-1, x, "text");
        due(0, x, "wipe");
        feed(x, "spring 3");
        due(1, x, "text");
        due(3, x, "spring", 0);
    }

    static void p36AFaultIsNoFinding() {
        MovingMarket x = two();
        feed(x, "x");
        due(-1, x, "text");
        for (int which = -1; which < 7; which++) {
            due(0, x, "status", which);
        }
    }

    static void p36OtherThingsStayAsTheyAre() {
        MovingMarket x = row(5, 3, 2);
        call(x, "hold", 4, 0);
        call(x, "seed", 99);
        fill(x, 0, 8, 17);
        call(x, "image");
        call(x, "hours", 1);
        feed(x, "stall at 2 goods 9;spring 5");
        due(2, x, "text");
        due(6, x, "count", 0);
        due(6, x, "count", 3);
        due(99, x, "count", 6);
        due(1, x, "count", 7);
        due(1, x, "load", 0);
        due(17, x, "placeOf", 0, 0);
        due(5, x, "undo");
        due(1, x, "count", 1);
        due(0, x, "spring", 0);
    }
}
