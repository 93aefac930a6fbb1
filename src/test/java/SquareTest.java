/** Promises 1 to 10: a new object, visits, shade, spring, stall, of, change, swap, offers, placeOf. */
public final class SquareTest {
    private static final Check c = new Check();

    public static void main(String[] args) {
        newObject();
        visits();
        shade();
        spring();
        stall();
        of();
        goesByHour();
        change();
        swap();
        offers();
        placeOf();
        c.end();
    }

    private static void newObject() {
        MovingMarket x = new MovingMarket();
        int[] counts = {0, 0, 0, 0, 36, 0, 1, 0};
        for (int what = 0; what < counts.length; what++) {
            c.due("new: count(" + what + ")", x.count(what), counts[what]);
        }
        for (int which = -1; which < 7; which++) {
            c.due("new: status(" + which + ")", x.status(which), 0);
        }
        for (int place = 0; place < 12; place++) {
            c.due("new: visits of " + place, x.placeOf(place, 0), 3);
            c.due("new: shade of " + place, x.placeOf(place, 1), 0);
            c.due("new: stall at " + place, x.placeOf(place, 2), -1);
        }
        for (int spot = 0; spot < 10; spot++) {
            c.due("new: as(" + spot + ", 0)", x.as(spot, 0), Check.MISSING);
        }
        for (int s = 0; s < 4; s++) {
            c.due("new: load(" + s + ")", x.load(s), Check.MISSING);
        }
        c.due("new: spring(7)", x.spring(7), 0);
        c.due("new: undo()", x.undo(), Check.NONE);
        c.due("new: tear()", x.tear(), 0);
        c.due("new: of(0, 0)", x.of(0, 0), Check.BEYOND);
        MovingMarket other = new MovingMarket();
        c.due("a second object is its own", other.spring(0), 0);
    }

    private static void visits() {
        MovingMarket x = new MovingMarket();
        c.due("visits(0, 20)", x.visits(0, 20), 3);
        c.due("visits(0, 0)", x.visits(0, 0), 20);
        c.due("visits(11, 5)", x.visits(11, 5), 3);
        c.due("visits(-1, 0)", x.visits(-1, 0), Check.BEYOND);
        c.due("visits(12, 0)", x.visits(12, 0), Check.BEYOND);
        c.due("visits(3, -1)", x.visits(3, -1), Check.BEYOND);
        c.due("visits(3, 21)", x.visits(3, 21), Check.BEYOND);
        c.due("visits(MIN, MAX)", x.visits(Integer.MIN_VALUE, Integer.MAX_VALUE), Check.BEYOND);
        c.due("visits of 3 as they were", x.placeOf(3, 0), 3);
        c.due("all visits", x.count(4), 35);
    }

    private static void shade() {
        MovingMarket x = new MovingMarket();
        c.due("shade(11, true)", x.shade(11, true), 0);
        c.due("shade(11, true) again", x.shade(11, true), 1);
        c.due("shade of 11", x.placeOf(11, 1), 1);
        c.due("shade of 10", x.placeOf(10, 1), 0);
        c.due("shade(11, false)", x.shade(11, false), 1);
        c.due("shade of 11 no more", x.placeOf(11, 1), 0);
        c.due("shade(0, false)", x.shade(0, false), 0);
        c.due("shade(-1, true)", x.shade(-1, true), Check.BEYOND);
        c.due("shade(12, false)", x.shade(12, false), Check.BEYOND);
    }

    private static void spring() {
        MovingMarket x = new MovingMarket();
        c.due("spring(11)", x.spring(11), 0);
        c.due("spring(12)", x.spring(12), Check.BEYOND);
        c.due("spring(-1)", x.spring(-1), Check.BEYOND);
        c.due("spring(0)", x.spring(0), 11);
        c.due("spring(0) again", x.spring(0), 0);
    }

    private static void stall() {
        MovingMarket x = new MovingMarket();
        c.due("stall(0, 4)", x.stall(0, 4), 0);
        c.due("stall(6, 11)", x.stall(6, 11), 1);
        c.due("stall(0, 4) is taken", x.stall(0, 4), Check.STATE);
        c.due("stall(-1, 4): the kind first", x.stall(-1, 4), Check.BEYOND);
        c.due("stall(7, 0)", x.stall(7, 0), Check.BEYOND);
        c.due("stall(0, -1)", x.stall(0, -1), Check.BEYOND);
        c.due("stall(0, 12)", x.stall(0, 12), Check.BEYOND);
        c.due("two stand", x.count(1), 2);
        int[] first = {6, 11, 20, 0, 0, 5, 1};
        for (int what = 0; what < first.length; what++) {
            c.due("of(1, " + what + ")", x.of(1, what), first[what]);
        }
        for (int place = 5; place < 11; place++) {
            c.due("stall(1, " + place + ")", x.stall(1, place), place - 3);
        }
        c.due("a 9th", x.stall(0, 0), Check.FULL);
        c.due("a 9th on a taken place", x.stall(0, 4), Check.STATE);
        c.due("eight stand", x.count(1), 8);
    }

    private static void of() {
        MovingMarket x = new MovingMarket();
        int[] prices = {2, 2, 1, 3, 1, 2, 5};
        for (int kind = 0; kind < 7; kind++) {
            c.due("stall " + kind, x.stall(kind, 11 - kind), kind);
            c.due("kind of " + kind, x.of(kind, 0), kind);
            c.due("place of " + kind, x.of(kind, 1), 11 - kind);
            c.due("goods of " + kind, x.of(kind, 2), 20);
            c.due("coin of " + kind, x.of(kind, 3), 0);
            c.due("sold of " + kind, x.of(kind, 4), 0);
            c.due("price of " + kind, x.of(kind, 5), prices[kind]);
        }
        c.due("of(0, 7)", x.of(0, 7), Check.BEYOND);
        c.due("of(0, -1)", x.of(0, -1), Check.BEYOND);
        c.due("of(7, 0)", x.of(7, 0), Check.BEYOND);
        c.due("of(-1, 0)", x.of(-1, 0), Check.BEYOND);
        x.hours(1);
        c.due("sold of 0 behind an hour", x.of(0, 4), 3);
        c.due("coin of 0 behind an hour", x.of(0, 3), 6);
        c.due("goods of 0 behind an hour", x.of(0, 2), 17);
        c.due("place of 0 behind an hour", x.of(0, 1), 0);
        c.due("coin of 3, which has no shade", x.of(3, 3), 0);
        c.due("coin of 1, who sells 6", x.of(1, 3), 12);
    }

    private static void goesByHour() {
        MovingMarket x = Check.quiet();
        for (int kind = 0; kind < 7; kind++) {
            x.stall(kind, kind);
        }
        x.change(0, 2, 0);
        for (int hour = 0; hour < 13; hour++) {
            for (int kind = 0; kind < 7; kind++) {
                int goes = kind == 2 ? (hour % 2 == 0 ? 1 : 0) : kind == 4 ? (hour % 6 == 0 ? 1 : 0) : 1;
                c.due("of(" + kind + ", 6) at " + hour, x.of(kind, 6), goes);
            }
            x.hours(1);
        }
    }

    private static void change() {
        MovingMarket x = new MovingMarket();
        x.stall(0, 0);
        c.due("change(0, 0, 6)", x.change(0, 0, 6), 0);
        c.due("change(0, 0, 0)", x.change(0, 0, 0), 6);
        c.due("change(0, 2, 99)", x.change(0, 2, 99), 20);
        c.due("change(0, 2, 0)", x.change(0, 2, 0), 99);
        c.due("change(0, 0, 7)", x.change(0, 0, 7), Check.BEYOND);
        c.due("change(0, 0, -1)", x.change(0, 0, -1), Check.BEYOND);
        c.due("change(0, 2, 100)", x.change(0, 2, 100), Check.BEYOND);
        c.due("change(0, 2, -1)", x.change(0, 2, -1), Check.BEYOND);
        c.due("change(0, 1, 0)", x.change(0, 1, 0), Check.BEYOND);
        c.due("change(0, 3, 0)", x.change(0, 3, 0), Check.BEYOND);
        c.due("change(1, 0, 0)", x.change(1, 0, 0), Check.BEYOND);
        c.due("change(-1, 0, 0)", x.change(-1, 0, 0), Check.BEYOND);
        c.due("kind as it was", x.of(0, 0), 0);
        c.due("goods as they were", x.of(0, 2), 0);
    }

    private static void swap() {
        MovingMarket x = new MovingMarket();
        x.stall(0, 3);
        x.stall(1, 8);
        x.change(1, 2, 7);
        c.due("swap(0, 1)", x.swap(0, 1), 1);
        c.due("place of 0", x.of(0, 1), 8);
        c.due("place of 1", x.of(1, 1), 3);
        c.due("goods go with the stall", x.of(1, 2), 7);
        c.due("stall at 3", x.placeOf(3, 2), 1);
        c.due("swap(1, 1)", x.swap(1, 1), 1);
        c.due("place of 1 stays", x.of(1, 1), 3);
        c.due("swap(0, 2)", x.swap(0, 2), Check.BEYOND);
        c.due("swap(2, 0)", x.swap(2, 0), Check.BEYOND);
        c.due("swap(-1, 0)", x.swap(-1, 0), Check.BEYOND);
    }

    private static void offers() {
        MovingMarket x = new MovingMarket();
        for (int place = 0; place < 12; place++) {
            x.visits(place, place + 2);
        }
        x.shade(11, true);
        x.spring(5);
        for (int kind = 0; kind < 7; kind++) {
            x.stall(kind, kind);
            x.change(kind, 2, 0);
        }
        int[] atFive = {7, 15, 7, 0, 7, 3, 9};
        int[] atEleven = {13, 15, 13, 15, 13, 6, 6};
        for (int kind = 0; kind < 7; kind++) {
            c.due("offers(" + kind + ", 5)", x.offers(kind, 5), atFive[kind]);
            c.due("offers(" + kind + ", 11)", x.offers(kind, 11), atEleven[kind]);
        }
        c.due("offers(7, 0)", x.offers(7, 0), Check.BEYOND);
        c.due("offers(-1, 0)", x.offers(-1, 0), Check.BEYOND);
        c.due("offers(0, 12)", x.offers(0, 12), Check.BEYOND);
        c.due("offers(0, -1)", x.offers(0, -1), Check.BEYOND);
    }

    private static void placeOf() {
        MovingMarket x = new MovingMarket();
        x.visits(11, 9);
        x.shade(11, true);
        x.stall(2, 0);
        x.stall(2, 11);
        c.due("placeOf(11, 0)", x.placeOf(11, 0), 9);
        c.due("placeOf(11, 1)", x.placeOf(11, 1), 1);
        c.due("placeOf(11, 2)", x.placeOf(11, 2), 1);
        c.due("placeOf(0, 2)", x.placeOf(0, 2), 0);
        c.due("placeOf(1, 2)", x.placeOf(1, 2), -1);
        c.due("placeOf(0, 3)", x.placeOf(0, 3), Check.BEYOND);
        c.due("placeOf(0, -1)", x.placeOf(0, -1), Check.BEYOND);
        c.due("placeOf(12, 0)", x.placeOf(12, 0), Check.BEYOND);
        c.due("placeOf(-1, 2)", x.placeOf(-1, 2), Check.BEYOND);
    }
}
