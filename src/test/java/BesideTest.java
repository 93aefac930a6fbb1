/** Promises 25 to 28: beside, ever, meet, never. */
public final class BesideTest {
    private static final Check c = new Check();

    public static void main(String[] args) {
        beside();
        ever();
        meet();
        never();
        sizes();
        lastHours();
        c.end();
    }

    private static void beside() {
        MovingMarket x = new MovingMarket();
        x.stall(0, 0);
        x.stall(0, 11);
        x.stall(0, 1);
        x.stall(0, 3);
        c.due("beside(0)", x.beside(0), 2 | 4);
        c.due("beside(1)", x.beside(1), 1);
        c.due("beside(2)", x.beside(2), 1);
        c.due("beside(3)", x.beside(3), 0);
        c.due("beside(4)", x.beside(4), Check.BEYOND);
        c.due("beside(-1)", x.beside(-1), Check.BEYOND);
        x.stall(0, 2);
        x.change(4, 2, 0);
        c.due("beside(3) with goods or not", x.beside(3), 16);
    }

    /** A stall at 0, one that rests for good at 4, and an idle one at 7; nothing is sold. */
    private static MovingMarket three() {
        MovingMarket x = Check.quiet();
        x.stall(0, 0);
        x.stall(0, 4);
        x.stall(2, 7);
        x.change(1, 2, 0);
        return x;
    }

    private static void ever() {
        MovingMarket x = three();
        c.due("ever(0, 0)", x.ever(0, 0), 0);
        c.due("ever(0, 2)", x.ever(0, 2), 0);
        c.due("ever(0, 3)", x.ever(0, 3), 2);
        // 0 goes 1, 2, 3, 5, 6, 7, 8, 9, the idle one 8, 8, 9, 9, 10, 10, 11, 11.
        c.due("ever(0, 7)", x.ever(0, 7), 2);
        c.due("ever(0, 96)", x.ever(0, 96), 6);
        c.due("ever(1, 96)", x.ever(1, 96), 5);
        c.due("ever(3, 0)", x.ever(3, 0), Check.BEYOND);
        c.due("ever(-1, 0)", x.ever(-1, 0), Check.BEYOND);
        c.due("ever(0, -1)", x.ever(0, -1), Check.BEYOND);
        c.due("ever(0, 97)", x.ever(0, 97), Check.BEYOND);
        c.due("nobody moves", x.of(0, 1), 0);
        x.stall(0, 11);
        c.due("ever(0, 0) beside now", x.ever(0, 0), 8);
        x.change(3, 2, 0);
        c.due("ever(0, 1) beside no more", x.ever(0, 1), 8);
    }

    private static void meet() {
        MovingMarket x = three();
        c.due("meet(0, 1)", x.meet(0, 1), 3);
        c.due("meet(1, 0)", x.meet(1, 0), 3);
        // The idle one has gone 8, 8, 9, 9, 10, 10, 11, 11, 0, 0, 1, 1, 2, 2, 3: 14 strokes and one.
        c.due("meet(1, 2)", x.meet(1, 2), 15);
        x.stall(0, 5);
        c.due("meet(1, 3) at once", x.meet(1, 3), 0);
        c.due("meet(0, 0)", x.meet(0, 0), Check.BEYOND);
        c.due("meet(0, 4)", x.meet(0, 4), Check.BEYOND);
        c.due("meet(4, 0)", x.meet(4, 0), Check.BEYOND);
        c.due("meet(-1, 0)", x.meet(-1, 0), Check.BEYOND);
        MovingMarket y = Check.quiet();
        y.stall(0, 0);
        y.stall(0, 6);
        c.due("meet() of two that go alike", y.meet(0, 1), Check.NONE);
        // The lazy ones sell one a stay of six hours and more at 11, where the first sells out and the other comes by.
        MovingMarket z = Check.quiet();
        z.visits(11, 1);
        z.stall(4, 2);
        z.stall(4, 5);
        z.change(0, 2, 3);
        z.change(1, 2, 7);
        c.due("meet() behind 97", z.meet(0, 1), Check.NONE);
        z.hours(1);
        c.due("meet() behind 96", z.meet(0, 1), 96);
    }

    private static void never() {
        MovingMarket x = Check.quiet();
        x.stall(0, 0);
        x.stall(0, 1);
        x.stall(0, 6);
        // Places for 0 and 1 out of 0, 1, 6: beside only on 0 and 1, and all go alike.
        c.due("never(0, 1, 0)", x.never(0, 1, 0), 4);
        c.due("never(0, 1, 24)", x.never(0, 1, 24), 4);
        c.due("never(2, 0, 5)", x.never(2, 0, 5), 4);
        x.change(2, 2, 0);
        // Stall 2 rests: on 6 (2 orders) the others pass it, and come two places apart only while they do.
        c.due("never(0, 1, 0) with one that rests", x.never(0, 1, 0), 4);
        c.due("never(0, 2, 0) with one that rests", x.never(0, 2, 0), 4);
        c.due("never(0, 2, 11) with one that rests", x.never(0, 2, 11), 0);
        c.due("never(0, 0, 0)", x.never(0, 0, 0), Check.BEYOND);
        c.due("never(0, 3, 0)", x.never(0, 3, 0), Check.BEYOND);
        c.due("never(3, 0, 0)", x.never(3, 0, 0), Check.BEYOND);
        c.due("never(-1, 0, 0)", x.never(-1, 0, 0), Check.BEYOND);
        c.due("never(0, 1, -1)", x.never(0, 1, -1), Check.BEYOND);
        c.due("never(0, 1, 25)", x.never(0, 1, 25), Check.BEYOND);
        c.due("nobody moves", x.of(0, 1), 0);
    }

    private static void sizes() {
        MovingMarket x = Check.quiet();
        for (int place = 0; place < 6; place++) {
            x.stall(0, 2 * place);
        }
        c.due("never(0, 5, 24) of 6 that are apart", x.never(0, 5, 24), 720);
        x.stall(0, 11);
        c.due("never(0, 5, 24) of 7", x.never(0, 5, 24), Check.SIZE);
        c.due("never(0, 0, 24) of 7", x.never(0, 0, 24), Check.BEYOND);
        c.due("beside(6) of 7", x.beside(6), 1 | 32);
        c.due("ever(6, 96) of 7", x.ever(6, 96), 1 | 32);
        c.due("meet(6, 0) of 7", x.meet(6, 0), 0);
    }

    private static void lastHours() {
        MovingMarket x = three();
        for (int k = 0; k < 18; k++) {
            x.hours(48);
        }
        x.hours(39);
        c.due("at 903: meet(0, 9)", x.meet(0, 9), Check.BEYOND);
        c.holds("at 903: meet(0, 1)", x.meet(0, 1) >= 0);
        c.due("at 903: ever(1, 96)", x.ever(1, 96), 5);
        x.hours(1);
        c.due("at 904: meet(0, 1)", x.meet(0, 1), Check.STATE);
        c.due("at 904: meet(0, 0)", x.meet(0, 0), Check.BEYOND);
        c.due("at 904: ever(1, 96)", x.ever(1, 96), Check.STATE);
        c.due("at 904: ever(1, 97)", x.ever(1, 97), Check.BEYOND);
        c.due("at 904: ever(1, 95)", x.ever(1, 95), 5);
        x.hours(48);
        x.hours(24);
        c.due("hour", x.count(0), 976);
        c.due("at 976: never(0, 1, 24)", x.never(0, 1, 24), Check.STATE);
        c.due("at 976: never(0, 0, 24)", x.never(0, 0, 24), Check.BEYOND);
        c.due("at 976: never(0, 1, 23)", x.never(0, 1, 23), 0);
        for (int stall = 0; stall < 4; stall++) {
            x.stall(0, stall == 3 ? 4 : 8 + stall);
            x.stall(0, stall);
        }
        c.due("at 976, of more than 6: the hour first", x.never(0, 1, 24), Check.STATE);
    }
}
