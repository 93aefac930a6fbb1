/** Promises 45 to 49: image, undo, tear, count, status. */
public final class ImagesTest {
    private static final Check c = new Check();

    public static void main(String[] args) {
        image();
        undo();
        tear();
        count();
        status();
        findingsChangeNothing();
        c.end();
    }

    private static void image() {
        MovingMarket x = new MovingMarket();
        x.visits(2, 7);
        x.shade(2, true);
        x.spring(2);
        x.stall(3, 2);
        x.stall(2, 5);
        x.hours(1);
        x.hold(4, 1);
        x.seed(77);
        Check.put(x, "ab");
        x.sheet(0, 8, 3);
        c.due("image()", x.image(), 1);
        x.visits(2, 1);
        x.shade(2, false);
        x.spring(9);
        x.stall(0, 0);
        x.hours(3);
        x.change(1, 0, 6);
        x.hold(4, -1);
        x.hold(5, 2);
        x.lots(2);
        Check.put(x, "cde");
        x.sheet(0, 8, 5);
        x.sheet(1, 8, 1);
        c.due("undo()", x.undo(), 1);
        c.due("hour", x.count(0), 1);
        c.due("stalls", x.count(1), 2);
        c.due("goods", x.count(2), 27);
        c.due("coin", x.count(3), 33);
        c.due("visits", x.count(4), 40);
        c.due("the tape stays", x.count(5), 5);
        c.due("z", x.count(6), 77);
        c.due("spots", x.count(7), 1);
        c.due("as(4, 2)", x.as(4, 2), 1);
        c.due("place of 0", x.of(0, 1), 3);
        c.due("place of 1", x.of(1, 1), 6);
        c.due("sold of 0", x.of(0, 4), 10);
        c.due("shade", x.placeOf(2, 1), 1);
        c.due("spring", x.spring(2), 2);
        c.due("the sheets stay", x.write(0, 4, 0), 1);
        c.due("the sheets stay there", x.write(1, 0, 0), 1);
        c.due("no stall at 0", x.placeOf(0, 2), -1);
        c.due("a new one is as at first", x.stall(0, 0), 2);
        c.due("its coin", x.of(2, 3), 0);
    }

    private static void undo() {
        MovingMarket x = new MovingMarket();
        c.due("undo() of nothing", x.undo(), Check.NONE);
        x.image();
        x.hours(5);
        x.image();
        x.hours(7);
        c.due("undo() to the latest", x.undo(), 5);
        x.hours(1);
        c.due("undo() again: it stays", x.undo(), 5);
        x.stall(0, 0);
        c.due("undo() once more", x.undo(), 5);
        c.due("stalls", x.count(1), 0);
        c.due("status of all stays", x.status(-1), 1);
        c.due("status of NONE stays", x.status(3), 1);
    }

    private static void tear() {
        MovingMarket x = new MovingMarket();
        c.due("tear() of nothing", x.tear(), 0);
        x.image();
        x.hours(1);
        x.image();
        c.due("tear()", x.tear(), 1);
        c.due("tear() again", x.tear(), 0);
        c.due("undo() behind it", x.undo(), Check.NONE);
        c.due("hour stays", x.count(0), 1);
        x.image();
        c.due("undo() of a new one", x.undo(), 1);
    }

    private static void count() {
        MovingMarket x = new MovingMarket();
        x.stall(0, 0);
        x.stall(6, 3);
        x.change(1, 2, 0);
        x.visits(0, 20);
        x.hours(2);
        x.feed(1, 3);
        x.hold(2, 0);
        x.hold(3, 0);
        x.seed(-9);
        int[] counts = {2, 2, 0, 40, 53, 3, -9, 2};
        for (int what = 0; what < counts.length; what++) {
            c.due("count(" + what + ")", x.count(what), counts[what]);
        }
        c.due("count(8)", x.count(8), Check.BEYOND);
        c.due("count(-1)", x.count(-1), Check.BEYOND);
        c.due("count(MIN)", x.count(Integer.MIN_VALUE), Check.BEYOND);
    }

    private static void status() {
        MovingMarket x = new MovingMarket();
        c.due("status(7)", x.status(7), Check.BEYOND);
        c.due("status(-2)", x.status(-2), Check.BEYOND);
        c.due("these are counted", x.status(0), 2);
        for (int place = 0; place < 8; place++) {
            x.stall(0, place);
        }
        x.image();
        for (int k = 0; k < 3; k++) {
            x.stall(0, 8);
        }
        x.hold(0, 0);
        for (int k = 0; k < 4; k++) {
            x.as(0, 1);
        }
        for (int k = 0; k < 5; k++) {
            x.there(9, 0);
        }
        for (int k = 0; k < 6; k++) {
            x.stall(0, 7);
        }
        for (int k = 0; k < 7; k++) {
            x.load(0);
        }
        for (int k = 0; k < 8; k++) {
            x.most(1);
        }
        x.undo();
        for (int which = 0; which < 7; which++) {
            c.due("status(" + which + ")", x.status(which), which + 2);
        }
        c.due("status(-1)", x.status(-1), 35);
        c.due("it isn't counted itself", x.status(-1), 35);
        x.text();
        c.due("a fault is no finding", x.status(-1), 35);
    }

    private static void findingsChangeNothing() {
        MovingMarket x = new MovingMarket();
        x.stall(0, 0);
        x.sheet(0, 8, 2);
        x.write(0, 0, 5);
        x.sheet(0, 8, 41);
        x.sheet(0, 0, -1);
        x.write(0, 2, 9);
        x.copy(0, 0, 0, 1, 2);
        x.lots(13);
        x.change(0, 2, 100);
        x.feed(1, 9);
        x.hold(0, 3);
        x.stall(0, 0);
        c.due("all are findings", x.status(-1), 9);
        c.due("z", x.count(6), 1);
        c.due("goods", x.count(2), 20);
        c.due("bytes", x.count(5), 0);
        c.due("spots", x.count(7), 0);
        c.due("load(0)", x.load(0), 2);
        c.due("5", x.placeOf(0, 0), 5);
        c.due("0", x.placeOf(1, 0), 0);
    }
}
