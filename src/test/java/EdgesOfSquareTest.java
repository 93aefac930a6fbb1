/** The edges that promises 1 to 10 name. */
public final class EdgesOfSquareTest extends Edges {
    public static void main(String[] args) throws ReflectiveOperationException {
        run(EdgesOfSquareTest.class);
    }

    static void p01NoStalls() {
        MovingMarket x = new MovingMarket();
        due(0, x, "count", 1);
        for (int place = 0; place < 12; place++) {
            due(-1, x, "placeOf", place, 2);
        }
        due(BEYOND, x, "of", 0, 0);
        due(0, x, "stay");
        due(0, x, "ahead", 96, 0);
        due(0, x, "hours", 48);
    }

    static void p01TheTapeIsEmpty() {
        MovingMarket x = new MovingMarket();
        due(0, x, "count", 5);
        due(0, x, "wipe");
        due(-1, x, "text");
    }

    static void p01NoImageIsKept() {
        MovingMarket x = new MovingMarket();
        due(NONE, x, "undo");
        due(0, x, "tear");
    }

    static void p01AllElseIsAsAtFirst() {
        MovingMarket x = new MovingMarket();
        int[] counts = {0, 0, 0, 0, 36, 0, 1, 0};
        for (int what = 0; what < 8; what++) {
            due(counts[what], x, "count", what);
        }
        for (int which = -1; which < 7; which++) {
            due(0, x, "status", which);
        }
        due(0, x, "spring", 0);
    }

    static void p01EachObjectIsItsOwn() {
        MovingMarket one = new MovingMarket();
        MovingMarket other = new MovingMarket();
        call(one, "visits", 0, 7);
        call(one, "stall", 0, 0);
        call(one, "sheet", 0, 8, 1);
        call(one, "feed", 1, 1);
        call(one, "undo");
        due(3, other, "placeOf", 0, 0);
        due(0, other, "count", 1);
        due(MISSING, other, "load", 0);
        due(0, other, "count", 5);
        due(0, other, "status", 3);
    }

    // ---- 2: visits

    static void p02OfTheFirstAndTheLastPlace() {
        MovingMarket x = new MovingMarket();
        due(3, x, "visits", 0, 4);
        due(3, x, "visits", 11, 5);
        due(4, x, "placeOf", 0, 0);
        due(5, x, "placeOf", 11, 0);
    }

    static void p02ZeroAndTwentyAreVisits() {
        MovingMarket x = new MovingMarket();
        due(3, x, "visits", 6, 0);
        due(0, x, "visits", 6, 20);
        due(20, x, "visits", 6, 20);
        due(20, x, "placeOf", 6, 0);
    }

    static void p02BeyondPlaceTooSmallTooLarge() {
        for (int place : new int[] {-1, 12, MIN, MAX}) {
            refused(BEYOND, of(3), "visits", place, 5);
        }
    }

    static void p02BeyondVisitsTooFewTooMany() {
        for (int v : new int[] {-1, 21, MIN, MAX}) {
            refused(BEYOND, of(3), "visits", 5, v);
        }
    }

    // ---- 3: shade

    static void p03OneIfItHadElseZero() {
        MovingMarket x = new MovingMarket();
        for (int place : new int[] {0, 11}) {
            due(0, x, "shade", place, 0);
            due(0, x, "shade", place, 1);
            due(1, x, "shade", place, 1);
            due(1, x, "shade", place, 0);
            due(0, x, "shade", place, 1);
            due(1, x, "placeOf", place, 1);
        }
        due(0, x, "placeOf", 5, 1);
    }

    static void p03BeyondPlaceTooSmallTooLarge() {
        for (int place : new int[] {-1, 12, MIN, MAX}) {
            refused(BEYOND, of(3), "shade", place, 1);
            refused(BEYOND, of(3), "shade", place, 0);
        }
    }

    // ---- 4: spring

    static void p04ToTheLastAndTheFirstPlace() {
        MovingMarket x = new MovingMarket();
        due(0, x, "spring", 11);
        due(11, x, "spring", 11);
        due(11, x, "spring", 0);
        due(0, x, "spring", 0);
    }

    static void p04BeyondPlaceTooSmallTooLarge() {
        for (int place : new int[] {-1, 12, MIN, MAX}) {
            refused(BEYOND, of(3), "spring", place);
        }
    }

    // ---- 5: stall

    static void p05OfTheFirstAndTheLastKindAtTheFirstAndTheLastPlace() {
        MovingMarket x = new MovingMarket();
        due(0, x, "stall", 0, 11);
        due(1, x, "stall", 6, 0);
        due(0, x, "of", 0, 0);
        due(11, x, "of", 0, 1);
        due(6, x, "of", 1, 0);
        due(0, x, "of", 1, 1);
    }

    static void p05BeyondKindTooSmallTooLarge() {
        for (int kind : new int[] {-1, 7, MIN, MAX}) {
            refused(BEYOND, of(3), "stall", kind, 7);
        }
    }

    static void p05BeyondPlaceTooSmallTooLarge() {
        for (int place : new int[] {-1, 12, MIN, MAX}) {
            refused(BEYOND, of(3), "stall", 0, place);
        }
    }

    static void p05StateOneIsThere() {
        refused(STATE, of(1), "stall", 0, 0);
        refused(STATE, of(3), "stall", 2, 3);
        MovingMarket x = row(0, 0, 11);
        call(x, "hours", 1);
        due(STATE, x, "stall", 0, 0);
        due(1, x, "stall", 0, 11);
    }

    static void p05StateOneWithoutGoodsIsThere() {
        MovingMarket x = row(0, 0, 5);
        call(x, "change", 0, 2, 0);
        due(STATE, x, "stall", 0, 5);
    }

    static void p05FullIsTheNinth() {
        MovingMarket x = market(7, 0);
        due(7, x, "stall", 0, 10);
        due(FULL, x, "stall", 0, 11);
        refused(FULL, of(8), "stall", 0, 10);
    }

    static void p05BeyondIsToldBeforeStateAndFull() {
        refused(BEYOND, of(1), "stall", 7, 0);
        refused(BEYOND, of(8), "stall", 7, 0);
        refused(BEYOND, of(8), "stall", -1, 10);
        refused(BEYOND, of(8), "stall", 0, 12);
    }

    static void p05StateIsToldBeforeFull() {
        refused(STATE, of(8), "stall", 0, 11);
    }

    // ---- 6: of

    static void p06OfTheFirstAndTheLastStall() {
        MovingMarket x = market(8, 0);
        int[] first = {0, 0, 30, 0, 0, 2, 1};
        int[] last = {0, 11, 79, 0, 0, 2, 1};
        for (int what = 0; what < 7; what++) {
            due(first[what], x, "of", 0, what);
            due(last[what], x, "of", 7, what);
        }
    }

    static void p06BeyondStallTooSmallTooLarge() {
        for (int stall : new int[] {-1, 3, 8, MIN, MAX}) {
            refused(BEYOND, of(3), "of", stall, 0);
        }
        refused(BEYOND, of(8), "of", 8, 0);
    }

    static void p06BeyondWithoutStalls() {
        refused(BEYOND, of(0), "of", 0, 0);
    }

    static void p06BeyondWhatTooSmallTooLarge() {
        for (int what : new int[] {-1, 7, MIN, MAX}) {
            refused(BEYOND, of(3), "of", 1, what);
        }
    }

    static void p06GoesIsOneWithGoodsOrNot() {
        MovingMarket x = row(0, 3, 0);
        call(x, "change", 0, 2, 0);
        due(1, x, "of", 0, 6);
        call(x, "change", 0, 0, 2);
        due(1, x, "of", 0, 6);
        call(x, "hours", 1);
        due(0, x, "of", 0, 6);
        call(x, "change", 0, 2, 9);
        due(0, x, "of", 0, 6);
    }

    static void p06GoesIsOfThisHourUpToTheLast() {
        MovingMarket x = row(998, 0, 0);
        call(x, "change", 0, 0, 2);
        due(1, x, "of", 0, 6);
        call(x, "hours", 1);
        due(0, x, "of", 0, 6);
        call(x, "change", 0, 0, 0);
        due(1, x, "of", 0, 6);
        MovingMarket y = row(996, 0, 0);
        call(y, "change", 0, 0, 4);
        due(1, y, "of", 0, 6);
    }

    // ---- 7: change

    static void p07KindZeroToSix() {
        MovingMarket x = row(0, 0, 4, 5);
        due(0, x, "change", 1, 0, 6);
        due(6, x, "change", 1, 0, 6);
        due(6, x, "change", 1, 0, 0);
        due(0, x, "of", 1, 0);
        due(0, x, "of", 0, 0);
    }

    static void p07GoodsZeroToNinetyNine() {
        MovingMarket x = row(0, 0, 4, 5);
        due(20, x, "change", 1, 2, 0);
        due(0, x, "change", 1, 2, 99);
        due(99, x, "change", 1, 2, 99);
        due(99, x, "of", 1, 2);
        due(20, x, "of", 0, 2);
    }

    static void p07BeyondStallTooSmallTooLarge() {
        for (int stall : new int[] {-1, 3, MIN, MAX}) {
            refused(BEYOND, of(3), "change", stall, 0, 1);
            refused(BEYOND, of(3), "change", stall, 2, 1);
        }
        refused(BEYOND, of(0), "change", 0, 2, 1);
        refused(BEYOND, of(8), "change", 8, 2, 1);
    }

    static void p07BeyondWhatOtherThanKindAndGoods() {
        for (int what : new int[] {-1, 1, 3, 4, 5, 6, MIN, MAX}) {
            refused(BEYOND, of(3), "change", 1, what, 1);
        }
    }

    static void p07BeyondKindTooSmallTooLarge() {
        for (int v : new int[] {-1, 7, 20, MIN, MAX}) {
            refused(BEYOND, of(3), "change", 1, 0, v);
        }
    }

    static void p07BeyondGoodsTooFewTooMany() {
        for (int v : new int[] {-1, 100, MIN, MAX}) {
            refused(BEYOND, of(3), "change", 1, 2, v);
        }
    }

    // ---- 8: swap

    static void p08TheFirstAndTheLastStallChangePlaces() {
        MovingMarket x = market(8, 0);
        due(1, x, "swap", 0, 7);
        due(11, x, "of", 0, 1);
        due(0, x, "of", 7, 1);
        due(30, x, "of", 0, 2);
        due(79, x, "of", 7, 2);
        due(1, x, "swap", 0, 7);
        due(0, x, "of", 0, 1);
    }

    static void p08OneAndTheSameChangesNothing() {
        MovingMarket x = row(0, 0, 4, 9);
        due(1, x, "swap", 1, 1);
        due(4, x, "of", 0, 1);
        due(9, x, "of", 1, 1);
    }

    static void p08BeyondEitherStallTooSmallTooLarge() {
        for (int stall : new int[] {-1, 3, MIN, MAX}) {
            refused(BEYOND, of(3), "swap", stall, 0);
            refused(BEYOND, of(3), "swap", 0, stall);
            refused(BEYOND, of(3), "swap", stall, stall);
        }
        refused(BEYOND, of(0), "swap", 0, 0);
        refused(BEYOND, of(8), "swap", 7, 8);
    }

    // ---- 9: offers

    static void p09AtTheFirstAndTheLastPlace() {
        MovingMarket x = market(8, 0);
        due(20, x, "offers", 7, 0);
        due(16, x, "offers", 7, 11);
        due(36, x, "offers", 1, 11);
    }

    static void p09BeyondStallTooSmallTooLarge() {
        for (int stall : new int[] {-1, 3, MIN, MAX}) {
            refused(BEYOND, of(3), "offers", stall, 0);
        }
        refused(BEYOND, of(0), "offers", 0, 0);
        refused(BEYOND, of(8), "offers", 8, 0);
    }

    static void p09BeyondPlaceTooSmallTooLarge() {
        for (int place : new int[] {-1, 12, MIN, MAX}) {
            refused(BEYOND, of(3), "offers", 0, place);
        }
    }

    // ---- 10: placeOf

    static void p10OfTheFirstAndTheLastPlace() {
        MovingMarket x = market(8, 0);
        due(20, x, "placeOf", 0, 0);
        due(1, x, "placeOf", 0, 1);
        due(0, x, "placeOf", 0, 2);
        due(16, x, "placeOf", 11, 0);
        due(0, x, "placeOf", 11, 1);
        due(7, x, "placeOf", 11, 2);
    }

    static void p10MinusOneIfNoneIsThere() {
        MovingMarket x = market(8, 0);
        due(-1, x, "placeOf", 2, 2);
        due(-1, x, "placeOf", 10, 2);
        due(0, x, "status", -1);
    }

    static void p10BeyondPlaceTooSmallTooLarge() {
        for (int place : new int[] {-1, 12, MIN, MAX}) {
            refused(BEYOND, of(3), "placeOf", place, 0);
            refused(BEYOND, of(3), "placeOf", place, 2);
        }
    }

    static void p10BeyondWhatTooSmallTooLarge() {
        for (int what : new int[] {-1, 3, MIN, MAX}) {
            refused(BEYOND, of(3), "placeOf", 4, what);
        }
    }
}
