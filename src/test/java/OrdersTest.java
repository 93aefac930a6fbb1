/** Promises 19 to 24: most, order, dawn, throwAway, wishes, deal. */
public final class OrdersTest {
    private static final Check c = new Check();

    public static void main(String[] args) {
        most();
        order();
        dawn();
        throwAway();
        wishes();
        deal();
        none();
        sizes();
        lastHours();
        c.end();
    }

    /** Visits 10 at 0 and 1 at 1; a stall with few goods at 0, one with many at 1. */
    private static MovingMarket unlike() {
        MovingMarket x = Check.quiet();
        x.visits(0, 10);
        x.visits(1, 1);
        x.stall(0, 0);
        x.stall(0, 1);
        x.change(0, 2, 5);
        return x;
    }

    private static void most() {
        MovingMarket x = unlike();
        c.due("most(1)", x.most(1), 11);
        // As it is: 5 and 1; the one at 0 rests then. The other way round: 1 and 10; then 10 more reach 1.
        c.due("most(2)", x.most(2), 12);
        c.due("most(0)", x.most(0), Check.BEYOND);
        c.due("most(-1)", x.most(-1), Check.BEYOND);
        c.due("most(25)", x.most(25), Check.BEYOND);
        c.due("nothing is sold", x.count(2), 25);
        c.due("nobody moves", x.of(0, 1), 0);
        MovingMarket y = new MovingMarket();
        y.stall(0, 0);
        c.due("most(24) of one", y.most(24), 20);
        c.due("most(6) of one", y.most(6), 18);
    }

    private static void order() {
        MovingMarket x = unlike();
        c.due("order(0, 1)", x.order(0, 1), 1);
        c.due("order(1, 1)", x.order(1, 1), 0);
        x.change(0, 2, 20);
        c.due("the first of two that sell as much", x.order(0, 1), 0);
        c.due("order(2, 1)", x.order(2, 1), Check.BEYOND);
        c.due("order(-1, 1)", x.order(-1, 1), Check.BEYOND);
        c.due("order(0, 0)", x.order(0, 0), Check.BEYOND);
        c.due("order(0, 25)", x.order(0, 25), Check.BEYOND);
        // Goods 1, 2, 3 at visits 3, 1, 2: 0 takes that of 1, 1 that of 2, 2 that of 0.
        MovingMarket y = Check.quiet();
        y.visits(9, 3);
        y.visits(4, 1);
        y.visits(6, 2);
        y.stall(0, 9);
        y.stall(0, 4);
        y.stall(0, 6);
        for (int stall = 0; stall < 3; stall++) {
            y.change(stall, 2, stall + 1);
        }
        c.due("most of three", y.most(1), 6);
        c.due("whose place 0 takes", y.order(0, 1), 1);
        c.due("whose place 1 takes", y.order(1, 1), 2);
        c.due("whose place 2 takes", y.order(2, 1), 0);
    }

    private static void dawn() {
        MovingMarket x = unlike();
        c.due("dawn(0, 0, 0)", x.dawn(0, 0, 0), 0);
        c.due("dawn(0, 1, 0)", x.dawn(0, 1, 0), 1);
        c.due("dawn(1, 1, 0)", x.dawn(1, 1, 0), 1);
        c.due("dawn(0, 0, 1): it sells out there", x.dawn(0, 0, 1), 0);
        c.due("dawn(0, 2, 1)", x.dawn(0, 2, 1), 1);
        c.due("dawn(0, 3, 1)", x.dawn(0, 3, 1), Check.NONE);
        c.due("dawn(1, 2, 1)", x.dawn(1, 2, 1), 1);
        c.due("dawn(1, 1, 1)", x.dawn(1, 1, 1), 0);
        c.due("dawn(2, 0, 0)", x.dawn(2, 0, 0), Check.BEYOND);
        c.due("dawn(-1, 0, 0)", x.dawn(-1, 0, 0), Check.BEYOND);
        c.due("dawn(0, 12, 0)", x.dawn(0, 12, 0), Check.BEYOND);
        c.due("dawn(0, -1, 0)", x.dawn(0, -1, 0), Check.BEYOND);
        c.due("dawn(0, 0, -1)", x.dawn(0, 0, -1), Check.BEYOND);
        c.due("dawn(0, 0, 25)", x.dawn(0, 0, 25), Check.BEYOND);
        c.due("dawn(0, 0, 24)", x.dawn(0, 0, 24), 0);
    }

    private static void throwAway() {
        MovingMarket x = unlike();
        // What it sells till it is sold out hangs on nothing that it has: thrown goods never bring coin.
        c.due("throwAway(0, 1)", x.throwAway(0, 1), 0);
        c.due("throwAway(1, 48)", x.throwAway(1, 48), 0);
        x.change(0, 2, 0);
        c.due("throwAway without goods", x.throwAway(0, 1), 0);
        c.due("throwAway(0, 0)", x.throwAway(0, 0), Check.BEYOND);
        c.due("throwAway(0, 49)", x.throwAway(0, 49), Check.BEYOND);
        c.due("throwAway(2, 1)", x.throwAway(2, 1), Check.BEYOND);
        c.due("throwAway(-1, 1)", x.throwAway(-1, 1), Check.BEYOND);
        c.due("no goods are gone", x.count(2), 20);
    }

    private static void wishes() {
        MovingMarket x = unlike();
        c.due("wishes(0, 1)", x.wishes(0, 1), 0);
        c.due("wishes(1, 1)", x.wishes(1, 1), 0);
        x.stall(0, 5);
        x.visits(5, 10);
        c.due("the least of two", x.wishes(1, 1), 0);
        x.visits(5, 11);
        c.due("the better of two", x.wishes(1, 1), 2);
        c.due("itself", x.wishes(2, 1), 2);
        x.change(1, 2, 0);
        c.due("itself, though with none it has less", x.wishes(1, 48), 1);
        c.due("wishes(3, 1)", x.wishes(3, 1), Check.BEYOND);
        c.due("wishes(-1, 1)", x.wishes(-1, 1), Check.BEYOND);
        c.due("wishes(0, 0)", x.wishes(0, 0), Check.BEYOND);
        c.due("wishes(0, 49)", x.wishes(0, 49), Check.BEYOND);
        c.due("nobody moves", x.of(1, 1), 1);
    }

    private static void deal() {
        MovingMarket x = unlike();
        c.due("deal(1): only one has more", x.deal(1), Check.NONE);
        MovingMarket y = Check.quiet();
        y.spring(0);
        y.visits(0, 4);
        y.visits(6, 5);
        y.stall(0, 3);
        y.stall(6, 6);
        y.stall(0, 9);
        y.stall(0, 0);
        c.due("deal(1)", y.deal(1), 13);
        c.due("nobody moves", y.of(1, 1), 6);
        y.swap(0, 3);
        c.due("deal(1) of others", y.deal(1), 1);
        y.swap(0, 1);
        c.due("deal(1) once it is done", y.deal(1), Check.NONE);
        c.due("deal(0)", y.deal(0), Check.BEYOND);
        c.due("deal(49)", y.deal(49), Check.BEYOND);
        c.due("deal(-1)", y.deal(-1), Check.BEYOND);
        // Two pairs gain: 0 with 2 and 1 with 2; the first counts.
        MovingMarket z = Check.quiet();
        z.spring(0);
        z.visits(6, 5);
        z.visits(0, 4);
        z.visits(1, 4);
        z.shade(1, true);
        z.stall(6, 6);
        z.stall(3, 8);
        z.stall(0, 0);
        z.visits(8, 5);
        z.shade(0, true);
        c.due("the first of two deals", z.deal(1), 2);
        z.change(0, 2, 0);
        c.due("the second of two deals", z.deal(1), 12);
    }

    private static void none() {
        MovingMarket x = new MovingMarket();
        c.due("most(24) of none", x.most(24), 0);
        c.due("deal(1) of none", x.deal(1), Check.NONE);
        c.due("order(0, 1) of none", x.order(0, 1), Check.BEYOND);
        c.due("dawn(0, 0, 0) of none", x.dawn(0, 0, 0), Check.BEYOND);
        c.due("throwAway(0, 1) of none", x.throwAway(0, 1), Check.BEYOND);
        c.due("wishes(0, 1) of none", x.wishes(0, 1), Check.BEYOND);
    }

    private static void sizes() {
        MovingMarket x = new MovingMarket();
        for (int place = 0; place < 6; place++) {
            x.stall(0, place);
        }
        c.due("most(1) of 6", x.most(1), 18);
        c.due("order(5, 1) of 6", x.order(5, 1), 5);
        c.due("dawn(0, 6, 1) of 6", x.dawn(0, 6, 1), 5);
        c.due("dawn(0, 7, 1) of 6", x.dawn(0, 7, 1), Check.NONE);
        x.stall(0, 6);
        c.due("most(1) of 7", x.most(1), Check.SIZE);
        c.due("order(5, 1) of 7", x.order(5, 1), Check.SIZE);
        c.due("dawn(0, 6, 1) of 7", x.dawn(0, 6, 1), Check.SIZE);
        c.due("most(0) of 7", x.most(0), Check.BEYOND);
        c.due("order(7, 1) of 7", x.order(7, 1), Check.BEYOND);
        c.due("dawn(0, 12, 1) of 7", x.dawn(0, 12, 1), Check.BEYOND);
        c.due("throwAway(6, 1) of 7", x.throwAway(6, 1), 0);
        c.due("wishes(6, 1) of 7", x.wishes(6, 1), 6);
        c.due("deal(1) of 7", x.deal(1), Check.NONE);
    }

    private static void lastHours() {
        MovingMarket x = new MovingMarket();
        for (int place = 0; place < 6; place++) {
            x.stall(0, place);
        }
        for (int k = 0; k < 20; k++) {
            x.hours(48);
        }
        x.hours(16);
        c.due("hour", x.count(0), 976);
        c.due("most(23)", x.most(23), 0);
        c.due("most(24)", x.most(24), Check.STATE);
        c.due("most(25)", x.most(25), Check.BEYOND);
        c.due("order(0, 23)", x.order(0, 23), 0);
        c.due("order(0, 24)", x.order(0, 24), Check.STATE);
        c.due("order(6, 24)", x.order(6, 24), Check.BEYOND);
        c.due("dawn(0, 0, 23)", x.dawn(0, x.of(0, 1), 23), 0);
        c.due("dawn(0, 0, 24)", x.dawn(0, 0, 24), Check.STATE);
        c.due("throwAway(0, 23)", x.throwAway(0, 23), 0);
        c.due("throwAway(0, 24)", x.throwAway(0, 24), Check.STATE);
        c.due("wishes(0, 23)", x.wishes(0, 23), 0);
        c.due("wishes(0, 24)", x.wishes(0, 24), Check.STATE);
        c.due("deal(23)", x.deal(23), Check.NONE);
        c.due("deal(24)", x.deal(24), Check.STATE);
        c.due("deal(49)", x.deal(49), Check.BEYOND);
        x.stall(0, freePlace(x));
        c.due("most(24): the hour first", x.most(24), Check.STATE);
        c.due("order(0, 24): the hour first", x.order(0, 24), Check.STATE);
        c.due("dawn(0, 0, 24): the hour first", x.dawn(0, 0, 24), Check.STATE);
    }

    private static int freePlace(MovingMarket x) {
        int place = 0;
        while (place < 11 && x.placeOf(place, 2) >= 0) {
            place++;
        }
        return place;
    }
}
