/** Promises 34 to 36: feed, wipe, text. */
public final class TextsTest {
    private static final Check c = new Check();

    public static void main(String[] args) {
        feed();
        wipe();
        told();
        words();
        faults();
        stallsOfText();
        faultChangesNothing();
        longTexts();
        c.end();
    }

    private static void feed() {
        MovingMarket x = new MovingMarket();
        c.due("feed(115, 0)", x.feed(115, 0), Check.BEYOND);
        c.due("feed(115, 5)", x.feed(115, 5), Check.BEYOND);
        c.due("feed(115, -1)", x.feed(115, -1), Check.BEYOND);
        // "sun 3" in parts; above the lowest bytes stands what isn't told.
        c.due("feed 3 of 4", x.feed(0x7a73756e, 3), 3);
        c.due("feed 1 of 4", x.feed(0xffffff20, 1), 4);
        c.due("feed 2 of 4", x.feed(0x61613300 | ' ', 2), 6);
        x.shade(3, true);
        c.due("the highest first", x.text(), 1);
        c.due("sun", x.placeOf(3, 1), 0);
        c.due("feed 4", x.feed(0x73756e20, 4), 4);
        for (int k = 2; k <= 29; k++) {
            c.due("feed 4 again", x.feed(0x20202020, 4), 4 * k);
        }
        c.due("feed 3 at 116", x.feed(0x202020, 3), 119);
        c.due("feed 2 at 119", x.feed(0x3131, 2), Check.FULL);
        c.due("feed 5 at 119", x.feed(0x3131, 5), Check.BEYOND);
        c.due("feed 1 at 119", x.feed(0x35, 1), 120);
        c.due("feed 1 at 120", x.feed(0x35, 1), Check.FULL);
        c.due("bytes", x.count(5), 120);
        x.shade(5, true);
        c.due("all of the tape", x.text(), 1);
        c.due("sun at 5", x.placeOf(5, 1), 0);
        c.due("bytes behind it", x.count(5), 0);
    }

    private static void wipe() {
        MovingMarket x = new MovingMarket();
        c.due("wipe() of nothing", x.wipe(), 0);
        x.feed(0, 4);
        x.feed(0, 3);
        c.due("wipe()", x.wipe(), 7);
        c.due("bytes", x.count(5), 0);
        Check.put(x, "spring 3");
        c.due("nothing of it is left", x.text(), 1);
    }

    private static void told() {
        MovingMarket x = new MovingMarket();
        c.due("visits", Check.read(x, "visits 3 are 20"), 1);
        c.due("visits of 3", x.placeOf(3, 0), 20);
        c.due("visits of 4", x.placeOf(4, 0), 3);
        c.due("visits to", Check.read(x, "visits 10 to 11 are 0"), 1);
        c.due("visits of 9", x.placeOf(9, 0), 3);
        c.due("visits of 10", x.placeOf(10, 0), 0);
        c.due("visits of 11", x.placeOf(11, 0), 0);
        c.due("visits to itself", Check.read(x, "visits 0 to 0 are 9"), 1);
        c.due("visits of 0", x.placeOf(0, 0), 9);
        c.due("visits of 1", x.placeOf(1, 0), 3);
        c.due("shade", Check.read(x, "shade 11"), 1);
        c.due("shade of 11", x.placeOf(11, 1), 1);
        c.due("shade of 10", x.placeOf(10, 1), 0);
        c.due("sun", Check.read(x, "shade 10 ; sun 11"), 2);
        c.due("no shade of 11", x.placeOf(11, 1), 0);
        c.due("shade of 10", x.placeOf(10, 1), 1);
        c.due("spring", Check.read(x, "spring 6"), 1);
        c.due("spring at 6", x.spring(0), 6);
        c.due("the later counts", Check.read(x, "spring 6;spring 7;visits 5 are 1;visits 4 to 6 are 2"), 4);
        c.due("spring at 7", x.spring(0), 7);
        c.due("visits of 5", x.placeOf(5, 0), 2);
    }

    private static void words() {
        String[] kinds = {"stall", "double", "idle", "shaded", "lazy", "blind", "cheese"};
        MovingMarket x = new MovingMarket();
        for (int kind = 0; kind < 7; kind++) {
            String goods = kind % 2 == 0 ? "" : " goods " + kind * 16;
            c.due(kinds[kind], Check.read(x, kinds[kind] + " at " + (11 - kind) + goods), 1);
            c.due("kind of " + kind, x.of(kind, 0), kind);
            c.due("place of " + kind, x.of(kind, 1), 11 - kind);
            c.due("goods of " + kind, x.of(kind, 2), kind % 2 == 0 ? 20 : kind * 16);
            c.due("coin of " + kind, x.of(kind, 3), 0);
        }
        MovingMarket y = new MovingMarket();
        c.due("without blanks", Check.read(y, "stall at0goods0;double at1;visits2to3are4"), 3);
        c.due("goods of 0", y.of(0, 2), 0);
        c.due("visits of 3", y.placeOf(3, 0), 4);
        c.due("blanks all about", Check.read(y, "   lazy   at 002   goods   099  ;  sun 0  "), 2);
        c.due("goods of 2", y.of(2, 2), 99);
        c.due("a long number", Check.read(y, "spring 0000000000000000000000000000000000000007"), 1);
        c.due("spring at 7", y.spring(0), 7);
    }

    private static void fault(String text, int at) {
        MovingMarket x = new MovingMarket();
        x.stall(0, 4);
        c.due("text '" + text + "'", Check.read(x, text), -1 - at);
        c.due("bytes behind '" + text + "'", x.count(5), 0);
        c.due("'" + text + "' is no finding", x.status(-1), 0);
    }

    private static void faults() {
        fault("", 0);
        fault("   ", 3);
        fault(";", 0);
        fault("5", 0);
        fault("at 3", 0);
        fault("goods 3", 0);
        fault("stalls at 3", 0);
        fault("stal at 3", 0);
        fault(" Stall at 3", 1);
        fault("ttall at 3", 0);
        fault("stale at 3", 0);
        fault("lazier at 3", 0);
        fault("bingle at 3", 0);
        fault("stall it 3", 6);
        fault("stall at 3 foods 3", 11);
        fault("visits 3 so 4 are 3", 9);
        fault("visits 3 ere 3", 9);
        fault("run 3", 0);
        fault("sprint 3", 0);
        fault("stall", 5);
        fault("stall ;", 6);
        fault("stall 3", 6);
        fault("stall at", 8);
        fault("stall at  ", 10);
        fault("stall at;", 8);
        fault("stall at x", 9);
        fault("stallat 3", 0);
        fault("stall at 4", 9);
        fault("stall at 12", 9);
        fault("stall at 1000", 9);
        fault("stall at 99999999999999999999", 9);
        fault("stall at 4294967299", 9);
        fault("stall at -3", 9);
        fault("stall at 3 at", 11);
        fault("stall at 3 7", 11);
        fault("stall at 3 goods", 16);
        fault("stall at 3 goods;", 16);
        fault("stall at 3 goods 100", 17);
        fault("stall at 3 goods x", 17);
        fault("stall at 3 goods 5 goods 5", 19);
        fault("stall at 3 goods 5 6", 19);
        fault("stall at 3;", 11);
        fault("stall at 3; ", 12);
        fault("stall at 3;;", 11);
        fault("stall at 3,sun 3", 10);
        fault("stall at 3\tgoods 3", 10);
        fault("stall at 3;idle at 3", 19);
        fault("visits", 6);
        fault("visits are", 7);
        fault("visits 12 are 3", 7);
        fault("visits 3", 8);
        fault("visits 3 3", 9);
        fault("visits 3 to", 11);
        fault("visits 3 to are", 12);
        fault("visits 3 to 2 are 3", 12);
        fault("visits 3 to 12 are 3", 12);
        fault("visits 3 to 5", 13);
        fault("visits 3 to 5 to", 14);
        fault("visits 3 are", 12);
        fault("visits 3 are 21", 13);
        fault("visits 3 are to", 13);
        fault("visits 3 are 20 5", 16);
        fault("shade", 5);
        fault("shade 12", 6);
        fault("shade at 3", 6);
        fault("shade 3 3", 8);
        fault("sun 12", 4);
        fault("sun sun", 4);
        fault("sun 3 sun 3", 6);
        fault("spring 12", 7);
        fault("spring at 3", 7);
        fault("spring 3.", 8);
        fault("spring 3;spring", 15);
        fault("spring 3" + (char) 200, 8);
        fault((char) 255 + "spring 3", 0);
        fault("spring 3" + (char) 0, 8);
        fault("spring 3" + (char) 10, 8);
    }

    private static void stallsOfText() {
        MovingMarket x = new MovingMarket();
        for (int place = 0; place < 6; place++) {
            x.stall(0, place);
        }
        c.due("a 9th", Check.read(x, "stall at 6;stall at 7;stall at 8"), -1 - 22);
        c.due("six stand", x.count(1), 6);
        c.due("an 8th", Check.read(x, "stall at 6;stall at 7"), 2);
        c.due("eight stand", x.count(1), 8);
        c.due("a 9th at once", Check.read(x, " idle goods"), -2);
        c.due("no stall", Check.read(x, "spring 9"), 1);
        x.hours(1);
        MovingMarket y = new MovingMarket();
        y.stall(0, 0);
        y.hours(1);
        c.due("the place is free now", Check.read(y, "stall at 0"), 1);
        c.due("the other is taken", Check.read(y, "stall at 1"), -10);
        c.due("hour stays", y.count(0), 1);
        c.due("coin stays", y.of(0, 3), 6);
    }

    private static void faultChangesNothing() {
        MovingMarket x = new MovingMarket();
        x.stall(0, 0);
        c.due("a fault at the end", Check.read(x, "stall at 3 goods 4;visits 0 to 9 are 0;shade 3;spring 3;sun"), -60);
        c.due("stalls", x.count(1), 1);
        c.due("visits", x.count(4), 36);
        c.due("shade", x.placeOf(3, 1), 0);
        c.due("spring", x.spring(0), 0);
        c.due("goods", x.count(2), 20);
        c.due("bytes", x.count(5), 0);
        c.due("text() of nothing", x.text(), -1);
    }

    private static void longTexts() {
        StringBuilder text = new StringBuilder();
        for (int k = 0; k < 20; k++) {
            text.append(k == 0 ? "" : ";").append("sun 3");
        }
        longText("119 bytes", text.toString(), 20);
        longText("120 bytes that end too early", text + ";", -121);
        longText("a long word", "a".repeat(120), -1);
        longText("a long number", "spring " + "9".repeat(113), -8);
        longText("blanks alone", " ".repeat(120), -121);
    }

    private static void longText(String what, String text, int want) {
        c.due(what, Check.read(new MovingMarket(), text), want);
    }
}
