/** The edges that promises 19 to 24 name. */
public final class EdgesOfOrdersTest extends Edges {
    public static void main(String[] args) throws ReflectiveOperationException {
        run(EdgesOfOrdersTest.class);
    }

    /** Six at an hour, on each other place; all go alike, and none ever sells. */
    private static MovingMarket six(int hour) {
        return row(hour, 0, 0, 2, 4, 6, 8, 10);
    }

    private static MovingMarket seven(int hour) {
        return row(hour, 0, 0, 2, 4, 6, 8, 10, 11);
    }

    // ---- 19: most

    static void p19OneHourAndTwentyFour() {
        MovingMarket x = row(0, 1, 0, 5);
        call(x, "change", 0, 2, 30);
        call(x, "change", 1, 2, 23);
        due(2, x, "most", 1);
        due(46, x, "most", 23);
        due(47, x, "most", 24);
    }

    static void p19BeyondHoursTooFewTooMany() {
        for (int n : new int[] {0, -1, 25, MIN, MAX}) {
            refused(BEYOND, of(3), "most", n);
        }
    }

    static void p19StateHourWouldBeAbove999() {
        due(3, row(975, 1, 0, 1, 2), "most", 1);
        due(60, row(975, 1, 0, 1, 2), "most", 24);
        refused(STATE, of(3, 976), "most", 24);
        refused(STATE, of(3, 999), "most", 1);
        due(3, row(998, 1, 0, 1, 2), "most", 1);
    }

    static void p19SizeMoreThanSixStalls() {
        due(0, six(0), "most", 24);
        refused(SIZE, of(7), "most", 1);
        refused(SIZE, of(8), "most", 24);
    }

    static void p19BeyondStateSizeInThisOrder() {
        refused(BEYOND, of(7, 999), "most", 0);
        refused(BEYOND, of(7, 999), "most", 25);
        refused(STATE, of(7, 999), "most", 1);
    }

    static void p19OneStallHasOneOrder() {
        due(20, row(0, 20, 3), "most", 1);
    }

    // ---- 20: order

    static void p20TheFirstThatSellsMost() {
        MovingMarket x = six(0);
        for (int stall = 0; stall < 6; stall++) {
            due(stall, x, "order", stall, 24);
        }
        // Visits at 10 alone: whoever of those with goods comes first by number.
        call(x, "visits", 10, 9);
        for (int stall = 0; stall < 5; stall++) {
            call(x, "change", stall, 2, stall);
        }
        call(x, "change", 5, 2, 4);
        // 4 and 5 sell 4 there: 0 1 2 3 4 5 is gone through before 0 1 2 3 5 4.
        for (int stall = 0; stall < 6; stall++) {
            due(stall, x, "order", stall, 1);
        }
        call(x, "change", 5, 2, 3);
        due(5, x, "order", 4, 1);
        due(4, x, "order", 5, 1);
        due(0, x, "order", 0, 1);
    }

    static void p20OneHourAndTwentyFour() {
        MovingMarket x = row(0, 0, 0, 1);
        call(x, "visits", 0, 9);
        call(x, "change", 0, 2, 1);
        due(1, x, "order", 0, 1);
        due(0, x, "order", 1, 1);
        // As they stand, 0 sells its one there and rests there for good: 1 never comes by.
        due(1, x, "order", 0, 24);
    }

    static void p20BeyondStallTooSmallTooLarge() {
        for (int stall : new int[] {-1, 3, MIN, MAX}) {
            refused(BEYOND, of(3), "order", stall, 1);
        }
        refused(BEYOND, of(0), "order", 0, 1);
        refused(BEYOND, of(6), "order", 6, 1);
    }

    static void p20BeyondHoursTooFewTooMany() {
        for (int n : new int[] {0, -1, 25, MIN, MAX}) {
            refused(BEYOND, of(3), "order", 0, n);
        }
    }

    static void p20StateHourWouldBeAbove999() {
        due(2, row(975, 1, 0, 1, 2), "order", 2, 24);
        refused(STATE, of(3, 976), "order", 2, 24);
        refused(STATE, of(3, 999), "order", 2, 1);
    }

    static void p20SizeMoreThanSixStalls() {
        due(5, six(0), "order", 5, 1);
        refused(SIZE, of(7), "order", 0, 1);
        refused(SIZE, of(8), "order", 7, 24);
    }

    static void p20BeyondStateSizeInThisOrder() {
        refused(BEYOND, of(7, 999), "order", 7, 1);
        refused(BEYOND, of(7, 999), "order", 0, 0);
        refused(STATE, of(7, 999), "order", 0, 1);
    }

    // ---- 21: dawn

    static void p21NoHoursAndTwentyFour() {
        MovingMarket x = row(0, 0, 0, 11, 5);
        due(0, x, "dawn", 0, 0, 0);
        due(1, x, "dawn", 0, 11, 0);
        due(2, x, "dawn", 0, 5, 0);
        due(1, x, "dawn", 0, 11, 24);
        due(1, x, "dawn", 0, 10, 23);
        due(1, x, "dawn", 0, 0, 1);
    }

    static void p21TheFirstOrderOfSeveral() {
        MovingMarket x = row(0, 0, 0, 2, 4);
        due(2, x, "dawn", 2, 4, 0);
        due(1, x, "dawn", 0, 2, 0);
        // 0 comes to 5 in an hour from 4, in two from 2 past stall 2 that rests at 4, and in four from 0 past it.
        call(x, "change", 2, 2, 0);
        due(1, x, "dawn", 0, 3, 1);
        due(2, x, "dawn", 0, 5, 1);
        due(1, x, "dawn", 0, 5, 2);
        due(0, x, "dawn", 0, 5, 4);
    }

    static void p21NoneComesThere() {
        refused(NONE, () -> row(0, 0, 0, 2, 4), "dawn", 0, 1, 0);
        refused(NONE, () -> row(0, 20, 0, 2, 4), "dawn", 0, 1, 24);
    }

    static void p21BeyondStallTooSmallTooLarge() {
        for (int stall : new int[] {-1, 3, MIN, MAX}) {
            refused(BEYOND, of(3), "dawn", stall, 0, 0);
        }
        refused(BEYOND, of(0), "dawn", 0, 0, 0);
        refused(BEYOND, of(6), "dawn", 6, 0, 0);
    }

    static void p21BeyondPlaceTooSmallTooLarge() {
        for (int place : new int[] {-1, 12, MIN, MAX}) {
            refused(BEYOND, of(3), "dawn", 0, place, 0);
        }
    }

    static void p21BeyondHoursTooFewTooMany() {
        for (int n : new int[] {-1, 25, MIN, MAX}) {
            refused(BEYOND, of(3), "dawn", 0, 0, n);
        }
    }

    static void p21StateHourWouldBeAbove999() {
        due(0, row(975, 0, 5), "dawn", 0, 5, 24);
        due(0, row(999, 0, 5), "dawn", 0, 5, 0);
        refused(STATE, () -> row(976, 0, 5), "dawn", 0, 5, 24);
        refused(STATE, () -> row(999, 0, 5), "dawn", 0, 6, 1);
    }

    static void p21SizeMoreThanSixStalls() {
        due(5, six(0), "dawn", 0, 10, 0);
        refused(SIZE, () -> seven(0), "dawn", 0, 0, 0);
        refused(SIZE, of(8), "dawn", 7, 11, 24);
    }

    static void p21BeyondStateSizeNoneInThisOrder() {
        refused(BEYOND, () -> seven(999), "dawn", 7, 0, 24);
        refused(BEYOND, () -> seven(999), "dawn", 0, 12, 24);
        refused(BEYOND, () -> seven(999), "dawn", 0, 0, 25);
        refused(STATE, () -> seven(999), "dawn", 0, 1, 24);
        refused(SIZE, () -> seven(999), "dawn", 0, 1, 0);
    }

    // ---- 22: throwAway

    static void p22OneHourAndFortyEight() {
        due(0, row(0, 1, 0, 5), "throwAway", 1, 1);
        due(0, row(0, 1, 0, 5), "throwAway", 0, 48);
    }

    static void p22TheLeastOfAll() {
        // With 9 goods less it would still sell all that it can in an hour.
        due(0, row(0, 3, 0), "throwAway", 0, 1);
        due(0, row(0, 0, 0), "throwAway", 0, 48);
    }

    static void p22WithoutGoodsOrWithNinetyNine() {
        MovingMarket x = row(0, 3, 0);
        call(x, "change", 0, 2, 0);
        due(0, x, "throwAway", 0, 48);
        call(x, "change", 0, 2, 99);
        due(0, x, "throwAway", 0, 48);
        due(99, x, "of", 0, 2);
    }

    static void p22BeyondStallTooSmallTooLarge() {
        for (int stall : new int[] {-1, 3, MIN, MAX}) {
            refused(BEYOND, of(3), "throwAway", stall, 1);
        }
        refused(BEYOND, of(0), "throwAway", 0, 1);
        refused(BEYOND, of(8), "throwAway", 8, 1);
    }

    static void p22BeyondHoursTooFewTooMany() {
        for (int n : new int[] {0, -1, 49, MIN, MAX}) {
            refused(BEYOND, of(3), "throwAway", 0, n);
        }
    }

    static void p22StateHourWouldBeAbove999() {
        due(0, row(951, 0, 5), "throwAway", 0, 48);
        due(0, row(998, 0, 5), "throwAway", 0, 1);
        refused(STATE, of(3, 952), "throwAway", 0, 48);
        refused(STATE, of(3, 999), "throwAway", 0, 1);
    }

    static void p22BeyondIsToldBeforeState() {
        refused(BEYOND, of(3, 999), "throwAway", 3, 1);
        refused(BEYOND, of(3, 999), "throwAway", 0, 49);
    }

    static void p22OfMoreThanSixStallsToo() {
        due(0, seven(0), "throwAway", 6, 48);
    }

    // ---- 23: wishes

    static void p23ItselfIfWithNoneItHasMore() {
        due(1, row(0, 3, 0, 5), "wishes", 1, 1);
        due(0, row(0, 3, 0), "wishes", 0, 48);
        MovingMarket x = row(0, 0, 0, 5, 7);
        call(x, "visits", 7, 9);
        due(2, x, "wishes", 2, 1);
    }

    static void p23OnlyAStallCanBeWishedFor() {
        // At 0 it would have more, but none is there.
        MovingMarket x = row(0, 1, 4, 8);
        call(x, "visits", 0, 9);
        due(0, x, "wishes", 0, 1);
    }

    static void p23TheLastOfEight() {
        MovingMarket x = row(0, 1, 4, 5, 6, 7, 8, 9, 10, 11);
        call(x, "visits", 11, 9);
        due(7, x, "wishes", 0, 1);
        due(7, x, "wishes", 7, 1);
        call(x, "visits", 4, 10);
        due(0, x, "wishes", 7, 1);
    }

    static void p23OfSeveralTheLeast() {
        MovingMarket x = row(0, 0, 4, 8, 2, 6);
        call(x, "visits", 6, 9);
        call(x, "visits", 8, 9);
        due(1, x, "wishes", 0, 1);
        due(1, x, "wishes", 2, 1);
        call(x, "visits", 6, 10);
        due(3, x, "wishes", 0, 1);
    }

    static void p23OneHourAndFortyEight() {
        MovingMarket x = row(0, 0, 4, 3);
        call(x, "visits", 4, 9);
        due(0, x, "wishes", 1, 1);
        due(1, x, "wishes", 1, 2);
        // The one that is at 4 first sells its last goods there in the third round, and rests there for good.
        due(0, x, "wishes", 1, 48);
        // With more goods both have been at 4 four times behind 48 hours.
        call(x, "change", 0, 2, 99);
        call(x, "change", 1, 2, 99);
        due(1, x, "wishes", 1, 47);
        due(1, x, "wishes", 1, 48);
    }

    static void p23OfHisOwn() {
        // With 1 the two together would have more, with 2 it has.
        MovingMarket x = row(0, 0, 0, 3, 6);
        call(x, "visits", 3, 2);
        call(x, "visits", 6, 3);
        due(2, x, "wishes", 0, 1);
    }

    static void p23BeyondStallTooSmallTooLarge() {
        for (int stall : new int[] {-1, 3, MIN, MAX}) {
            refused(BEYOND, of(3), "wishes", stall, 1);
        }
        refused(BEYOND, of(0), "wishes", 0, 1);
        refused(BEYOND, of(8), "wishes", 8, 1);
    }

    static void p23BeyondHoursTooFewTooMany() {
        for (int n : new int[] {0, -1, 49, MIN, MAX}) {
            refused(BEYOND, of(3), "wishes", 0, n);
        }
    }

    static void p23StateHourWouldBeAbove999() {
        due(0, row(951, 0, 5), "wishes", 0, 48);
        due(0, row(998, 0, 5), "wishes", 0, 1);
        refused(STATE, of(3, 952), "wishes", 0, 48);
        refused(STATE, of(3, 999), "wishes", 0, 1);
    }

    static void p23BeyondIsToldBeforeState() {
        refused(BEYOND, of(3, 999), "wishes", 3, 1);
        refused(BEYOND, of(3, 999), "wishes", 0, 49);
    }

    // ---- 24: deal

    /** A stall at 3, a cheese at 6; if they change places both have more behind an hour. */
    private static MovingMarket willing() {
        MovingMarket x = row(0, 0, 3);
        call(x, "stall", 6, 6);
        call(x, "spring", 3);
        call(x, "visits", 3, 4);
        call(x, "visits", 6, 5);
        return x;
    }

    static void p24TenTimesTheLesserAndTheOther() {
        MovingMarket x = willing();
        due(1, x, "deal", 1);
        due(3, x, "of", 0, 1);
        MovingMarket y = row(0, 0, 11, 0, 1, 2, 3, 4, 6, 8);
        call(y, "change", 7, 0, 6);
        call(y, "spring", 6);
        call(y, "visits", 6, 4);
        call(y, "visits", 8, 5);
        due(67, y, "deal", 1);
    }

    static void p24TheFirstSo() {
        MovingMarket x = willing();
        call(x, "stall", 6, 8);
        call(x, "visits", 8, 5);
        due(1, x, "deal", 1);
        call(x, "visits", 6, 4);
        due(2, x, "deal", 1);
    }

    static void p24NoneIfOneHasAsMuchOrLess() {
        // 5 for 4: the stall gains, the cheese sells 2 for 2 at another place than the spring.
        refused(NONE, () -> {
            MovingMarket x = willing();
            call(x, "spring", 0);
            return x;
        }, "deal", 1);
        refused(NONE, () -> {
            MovingMarket x = willing();
            call(x, "visits", 6, 4);
            return x;
        }, "deal", 1);
        refused(NONE, () -> {
            MovingMarket x = willing();
            call(x, "visits", 6, 12);
            return x;
        }, "deal", 1);
    }

    static void p24NoneOfEight() {
        due(NONE, row(0, 3, 4, 5, 6, 7, 8, 9, 10, 11), "deal", 48);
    }

    static void p24NoneOfOneOrNoStall() {
        refused(NONE, of(0), "deal", 48);
        refused(NONE, of(1), "deal", 48);
    }

    static void p24OneHourAndFortyEight() {
        MovingMarket x = willing();
        due(1, x, "deal", 1);
        // Behind 48 hours each has been by three and more times, and all is sold.
        due(NONE, x, "deal", 48);
    }

    static void p24BeyondHoursTooFewTooMany() {
        for (int n : new int[] {0, -1, 49, MIN, MAX}) {
            refused(BEYOND, of(3), "deal", n);
        }
    }

    static void p24StateHourWouldBeAbove999() {
        due(NONE, row(951, 0, 5, 7), "deal", 48);
        due(NONE, row(998, 0, 5, 7), "deal", 1);
        refused(STATE, of(3, 952), "deal", 48);
        refused(STATE, of(3, 999), "deal", 1);
    }

    static void p24BeyondStateNoneInThisOrder() {
        refused(BEYOND, of(3, 999), "deal", 49);
        refused(BEYOND, of(3, 999), "deal", 0);
        refused(STATE, of(0, 999), "deal", 1);
    }
}
