/** The edges that the terms of the document name. */
public final class EdgesOfTermsTest extends Edges {
    public static void main(String[] args) throws ReflectiveOperationException {
        run(EdgesOfTermsTest.class);
    }

    // ---- findings

    static void p00FindingsAreNumberedFromLowDownward() {
        MovingMarket x = new MovingMarket();
        due(-1000001, x, "visits", 12, 0);
        due(-1000004, x, "undo");
        due(-1000005, x, "lots", 1);
        due(-1000006, x, "load", 0);
        due(-1000007, x, "sheet", 0, 8, -1);
        call(x, "stall", 0, 0);
        call(x, "hold", 0, 0);
        due(-1000003, x, "as", 0, 1);
        for (int place = 1; place < 8; place++) {
            call(x, "stall", 0, place);
        }
        due(-1000002, x, "stall", 0, 8);
        for (int which = 0; which < 7; which++) {
            due(1, x, "status", which);
        }
    }

    static void p00AnyZIsNoFinding() {
        MovingMarket x = new MovingMarket();
        int[] zs = {MIN, MAX, -1000001, -1000007, -1000002, 0};
        int before = 1;
        for (int z : zs) {
            due(before, x, "seed", z);
            due(z, x, "count", 6);
            before = z;
        }
        due(0, x, "status", -1);
    }

    static void p00QuotientsAreCut() {
        MovingMarket x = row(0, 1, 0);
        call(x, "change", 0, 0, 5);
        due(0, x, "offers", 0, 0);
        call(x, "visits", 0, 3);
        due(1, x, "offers", 0, 0);
        call(x, "visits", 0, 19);
        due(9, x, "offers", 0, 0);
        call(x, "visits", 0, 20);
        due(10, x, "offers", 0, 0);
    }

    static void p00OfSeveralTheLeastCounts() {
        // Places 2 and 9 are worth as much; stalls 1 and 2 stand there.
        MovingMarket x = row(0, 0, 5, 9, 2);
        call(x, "visits", 2, 4);
        call(x, "visits", 9, 4);
        due(2, x, "best", 0, 1);
        due(1, x, "wishes", 0, 1);
    }

    static void p00AFindingChangesNothingThoughALaterWordIsWrong() {
        refused(BEYOND, of(3), "visits", 4, 21);
        refused(BEYOND, of(3), "change", 2, 2, 100);
        refused(BEYOND, of(3), "hold", 2, 3);
        refused(BEYOND, of(3), "write", 0, 12, 1);
        refused(BEYOND, of(3), "copy", 0, 0, 2, 2, 2);
    }

    // ---- places, stalls

    static void p00PlaceZeroIsBehindEleven() {
        MovingMarket x = row(0, 0, 11);
        call(x, "hours", 1);
        due(0, x, "of", 0, 1);
        call(x, "hours", 1);
        due(1, x, "of", 0, 1);
    }

    static void p00VisitsAreThreeAtFirst() {
        MovingMarket x = new MovingMarket();
        for (int place = 0; place < 12; place++) {
            due(3, x, "placeOf", place, 0);
        }
    }

    static void p00NoShadeAtFirst() {
        MovingMarket x = new MovingMarket();
        for (int place = 0; place < 12; place++) {
            due(0, x, "placeOf", place, 1);
        }
    }

    static void p00SpringIsAtZeroAtFirst() {
        MovingMarket x = new MovingMarket();
        call(x, "stall", 6, 4);
        due(3, x, "offers", 0, 0);
        due(1, x, "offers", 0, 1);
        due(0, x, "spring", 5);
    }

    static void p00StallsAreNumberedFromZeroToSeven() {
        MovingMarket x = new MovingMarket();
        for (int k = 0; k < 8; k++) {
            due(k, x, "stall", 0, 11 - k);
        }
        due(8, x, "count", 1);
        due(FULL, x, "stall", 0, 0);
        due(8, x, "count", 1);
    }

    static void p00EachStallHasAPlaceOfItsOwn() {
        MovingMarket x = new MovingMarket();
        call(x, "stall", 0, 7);
        due(STATE, x, "stall", 1, 7);
        due(1, x, "count", 1);
    }

    static void p00GoodsAreTwentyCoinAndSoldZeroAtFirst() {
        MovingMarket x = new MovingMarket();
        for (int kind = 0; kind < 7; kind++) {
            call(x, "stall", kind, kind);
            due(20, x, "of", kind, 2);
            due(0, x, "of", kind, 3);
            due(0, x, "of", kind, 4);
        }
    }

    static void p00GoodsAreZeroToNinetyNine() {
        MovingMarket x = row(0, 0, 0);
        due(20, x, "change", 0, 2, 99);
        due(99, x, "change", 0, 2, 0);
        due(BEYOND, x, "change", 0, 2, 100);
        due(BEYOND, x, "change", 0, 2, -1);
        due(0, x, "of", 0, 2);
    }

    static void p00CoinAndSoldGrowAboveNinetyNine() {
        MovingMarket x = row(0, 20, 0);
        call(x, "change", 0, 0, 3);
        for (int place = 0; place < 12; place++) {
            call(x, "shade", place, 1);
        }
        for (int k = 0; k < 6; k++) {
            call(x, "change", 0, 2, 99);
            due(99, x, "hours", 3);
        }
        due(594, x, "of", 0, 4);
        due(1782, x, "of", 0, 3);
    }

    static void p00TheKindsUnderAKind() {
        int[][] isOf = {
            {1, 0, 0, 0, 0, 0, 0}, {1, 1, 0, 0, 0, 0, 0}, {1, 0, 1, 0, 0, 0, 0}, {1, 1, 0, 1, 0, 0, 0},
            {1, 0, 1, 0, 1, 0, 0}, {1, 0, 0, 0, 0, 1, 0}, {1, 0, 0, 0, 0, 1, 1}};
        MovingMarket x = new MovingMarket();
        for (int kind = 0; kind < 7; kind++) {
            call(x, "stall", kind, kind);
            call(x, "hold", kind, kind);
        }
        for (int own = 0; own < 7; own++) {
            for (int kind = 0; kind < 7; kind++) {
                due(isOf[own][kind] == 1 ? own : KIND, x, "as", own, kind);
            }
        }
    }

    static void p00HourIsZeroAtFirst() {
        due(0, new MovingMarket(), "count", 0);
    }

    static void p00HourIsAtMost999() {
        MovingMarket x = at(999);
        due(999, x, "count", 0);
        due(STATE, x, "hours", 1);
        due(999, x, "count", 0);
    }

    // ---- offers, goes, price

    static void p00AStallOffersItsVisits() {
        MovingMarket x = row(0, 0, 0);
        due(0, x, "offers", 0, 0);
        call(x, "visits", 11, 20);
        due(20, x, "offers", 0, 11);
    }

    static void p00ADoubleOffersTheNextPlaceTooRoundElevenToZero() {
        MovingMarket x = row(0, 0, 3);
        call(x, "change", 0, 0, 1);
        call(x, "visits", 0, 20);
        call(x, "visits", 11, 19);
        due(39, x, "offers", 0, 11);
        due(20, x, "offers", 0, 0);
        due(19, x, "offers", 0, 10);
        due(0, x, "offers", 0, 1);
    }

    static void p00AShadedOneOffersNothingWithoutShade() {
        MovingMarket x = row(0, 5, 3);
        call(x, "change", 0, 0, 3);
        due(0, x, "offers", 0, 11);
        // Shade at the next place alone is none.
        call(x, "shade", 0, 1);
        due(0, x, "offers", 0, 11);
        due(10, x, "offers", 0, 0);
        call(x, "shade", 11, 1);
        due(10, x, "offers", 0, 11);
    }

    static void p00ACheeseOffersThreeTimesTheHalfAtTheSpringAlone() {
        MovingMarket x = row(0, 7, 3);
        call(x, "change", 0, 0, 6);
        call(x, "spring", 11);
        due(9, x, "offers", 0, 11);
        due(3, x, "offers", 0, 0);
        due(3, x, "offers", 0, 10);
        call(x, "visits", 11, 1);
        due(0, x, "offers", 0, 11);
    }

    static void p00OffersDoNotHangOnGoods() {
        MovingMarket x = row(0, 5, 0);
        call(x, "change", 0, 2, 0);
        due(5, x, "offers", 0, 0);
    }

    static void p00AnIdleOneGoesIfHourIsEvenZeroToo() {
        for (int hour = 0; hour < 8; hour++) {
            MovingMarket x = row(hour, 0, 4);
            call(x, "change", 0, 0, 2);
            due(hour % 2 == 0 ? 1 : 0, x, "of", 0, 6);
            call(x, "hours", 1);
            due(hour % 2 == 0 ? 5 : 4, x, "of", 0, 1);
        }
    }

    static void p00ALazyOneGoesIfHourIsEvenAndByThreeToo() {
        int[] goes = {1, 0, 0, 0, 0, 0, 1, 0, 0, 0, 0, 0, 1};
        for (int hour = 0; hour < goes.length; hour++) {
            MovingMarket x = row(hour, 0, 4);
            call(x, "change", 0, 0, 4);
            due(goes[hour], x, "of", 0, 6);
            call(x, "hours", 1);
            due(4 + goes[hour], x, "of", 0, 1);
        }
    }

    static void p00TheOtherKindsGoAtEachHour() {
        for (int kind : new int[] {0, 1, 3, 5, 6}) {
            MovingMarket x = row(0, 0, 11);
            call(x, "change", 0, 0, kind);
            for (int hour = 0; hour < 7; hour++) {
                due(1, x, "of", 0, 6);
                call(x, "hours", 1);
                due(hour, x, "of", 0, 1);
            }
        }
    }

    static void p00ThePriceOfEachKind() {
        int[] prices = {2, 2, 1, 3, 1, 2, 5};
        MovingMarket x = row(0, 0, 0);
        for (int kind = 0; kind < 7; kind++) {
            call(x, "change", 0, 0, kind);
            due(prices[kind], x, "of", 0, 5);
        }
    }

    // ---- an hour

    static void p00ItSellsOffersIfItHasMore() {
        MovingMarket x = row(0, 3, 0);
        call(x, "change", 0, 2, 4);
        due(3, x, "hours", 1);
        due(1, x, "of", 0, 2);
        due(3, x, "of", 0, 4);
        due(6, x, "of", 0, 3);
        due(1, x, "of", 0, 1);
    }

    static void p00ItSellsAllItsGoodsIfOffersAreAsManyAndStays() {
        MovingMarket x = row(0, 3, 0);
        call(x, "change", 0, 2, 3);
        due(3, x, "hours", 1);
        due(0, x, "of", 0, 2);
        due(0, x, "of", 0, 1);
    }

    static void p00ItSellsItsGoodsIfOffersAreMore() {
        MovingMarket x = row(0, 20, 0);
        call(x, "change", 0, 2, 1);
        due(1, x, "hours", 1);
        due(0, x, "of", 0, 2);
        due(1, x, "of", 0, 4);
        due(2, x, "of", 0, 3);
    }

    static void p00WithoutGoodsItSellsNothingAndStays() {
        MovingMarket x = row(0, 20, 6);
        call(x, "change", 0, 2, 0);
        due(0, x, "hours", 48);
        due(0, x, "of", 0, 4);
        due(6, x, "of", 0, 1);
    }

    static void p00WithoutVisitsItSellsNothingAndGoes() {
        MovingMarket x = row(0, 0, 6);
        due(0, x, "hours", 1);
        due(20, x, "of", 0, 2);
        due(7, x, "of", 0, 1);
    }

    static void p00ItSellsBeforeTheStroke() {
        MovingMarket x = row(0, 0, 6);
        call(x, "visits", 6, 5);
        call(x, "visits", 7, 11);
        due(5, x, "hours", 1);
        due(11, x, "hours", 1);
    }

    static void p00OneThatRestsSellsToo() {
        MovingMarket x = row(1, 4, 6);
        call(x, "change", 0, 0, 2);
        due(4, x, "hours", 1);
        due(6, x, "of", 0, 1);
        due(4, x, "of", 0, 3);
    }

    static void p00ThoseThatStayArePassedRoundElevenToZero() {
        MovingMarket x = row(0, 0, 10, 11, 0);
        call(x, "change", 1, 2, 0);
        call(x, "change", 2, 2, 0);
        call(x, "hours", 1);
        due(1, x, "of", 0, 1);
        due(11, x, "of", 1, 1);
        due(0, x, "of", 2, 1);
    }

    static void p00SevenThatStayArePassedAtOnce() {
        MovingMarket x = row(0, 0, 8, 9, 10, 11, 0, 1, 2, 3);
        for (int stall = 1; stall < 8; stall++) {
            call(x, "change", stall, 2, 0);
        }
        call(x, "hours", 1);
        due(4, x, "of", 0, 1);
    }

    static void p00OnesThatRestArePassed() {
        MovingMarket x = row(1, 0, 4, 5, 6);
        call(x, "change", 1, 0, 2);
        call(x, "change", 2, 0, 4);
        call(x, "hours", 1);
        due(7, x, "of", 0, 1);
        due(5, x, "of", 1, 1);
        due(6, x, "of", 2, 1);
    }

    static void p00OnlyThoseThatSellOutInThisHourAreLeftBehind() {
        MovingMarket x = row(0, 3, 4, 5);
        call(x, "change", 1, 2, 3);
        call(x, "hours", 1);
        due(6, x, "of", 0, 1);
        due(5, x, "of", 1, 1);
    }

    static void p00AllGoAtOnce() {
        MovingMarket x = row(0, 0, 11, 0, 1, 2, 3, 4, 5, 6);
        call(x, "hours", 1);
        int[] places = {0, 1, 2, 3, 4, 5, 6, 7};
        for (int stall = 0; stall < 8; stall++) {
            due(places[stall], x, "of", stall, 1);
        }
        MovingMarket y = row(0, 0, 6, 5, 4, 3, 2, 1, 0, 11);
        call(y, "hours", 1);
        for (int stall = 0; stall < 8; stall++) {
            due(7 - stall, y, "of", stall, 1);
        }
    }

    static void p00OneComesToThePlaceOfOneThatGoesButNotOfOneThatStays() {
        MovingMarket x = row(0, 0, 3, 4, 5);
        call(x, "change", 1, 2, 0);
        call(x, "hours", 1);
        due(5, x, "of", 0, 1);
        due(4, x, "of", 1, 1);
        due(6, x, "of", 2, 1);
    }

    static void p00HourIsOneMoreBehindTheStroke() {
        MovingMarket x = row(1, 0, 3);
        call(x, "change", 0, 0, 2);
        call(x, "hours", 1);
        due(2, x, "count", 0);
        due(3, x, "of", 0, 1);
        call(x, "hours", 1);
        due(3, x, "count", 0);
        due(4, x, "of", 0, 1);
    }

    static void p00AheadChangesNothing() {
        MovingMarket x = row(0, 3, 3, 4, 8);
        call(x, "image");
        String[] looks = {"ahead 96 0", "ahead 96 3", "when 0 2", "empty 0", "again", "there 3 96", "most 24", "order 0 24",
            "dawn 0 5 24", "throwAway 0 48", "wishes 0 48", "deal 48", "ever 0 96", "meet 0 1", "never 0 1 24",
            "worth 0 9 48", "best 0 48", "thief 3 96", "stay", "passes 0", "beside 0", "offers 0 0"};
        for (String look : looks) {
            String[] words = look.split(" ");
            int[] given = new int[words.length - 1];
            for (int i = 0; i < given.length; i++) {
                given[i] = Integer.parseInt(words[i + 1]);
            }
            call(x, words[0], given);
            due(0, x, "count", 0);
            due(60, x, "count", 2);
            due(0, x, "count", 3);
            due(1, x, "count", 6);
            due(3, x, "of", 0, 1);
            due(4, x, "of", 1, 1);
            due(8, x, "of", 2, 1);
        }
    }

    // ---- beside, orders, draws

    static void p00ElevenAndZeroAreBeside() {
        MovingMarket x = row(0, 0, 11, 0);
        due(2, x, "beside", 0);
        due(1, x, "beside", 1);
    }

    static void p00TwoPlacesOnIsNotBesideNorIsItself() {
        MovingMarket x = row(0, 0, 11, 1, 9);
        due(0, x, "beside", 0);
        due(0, x, "beside", 1);
        due(0, x, "beside", 2);
    }

    static void p00AnOrderUsesThePlacesAsTheyAreNow() {
        MovingMarket x = row(0, 0, 2, 7, 10);
        // 4 of the 6 orders don't bring stall 1 to place 2; none brings it to 3.
        fill(x, 0, 8, 1, 2, 0);
        due(2, x, "fit", 0);
        fill(x, 0, 8, 1, 3, 0);
        due(0, x, "fit", 0);
        // All at unlike ones.
        fill(x, 0, 8, 1, 2, 0, 0, 2, 0);
        due(0, x, "fit", 0);
    }

    static void p00OrdersAreGoneThroughFromTheLeastNumbersOn() {
        // All six sell as much: the first is as they stand.
        MovingMarket x = row(0, 1, 2, 7, 10);
        for (int stall = 0; stall < 3; stall++) {
            due(stall, x, "order", stall, 1);
        }
        // Only if stall 0 (of 1 good) isn't at 2 all 4 are sold there: 1 0 2 stands before 1 2 0 and 2 0 1.
        call(x, "visits", 2, 4);
        call(x, "change", 0, 2, 1);
        due(1, x, "order", 0, 1);
        due(0, x, "order", 1, 1);
        due(2, x, "order", 2, 1);
        // If stall 1 has but one, too, 2 must be there: 1 2 0 stands before 2 1 0.
        call(x, "change", 1, 2, 1);
        due(1, x, "order", 0, 1);
        due(2, x, "order", 1, 1);
        due(0, x, "order", 2, 1);
    }

    static void p00DrawsWrapRound() {
        MovingMarket x = row(0, 0, 0);
        call(x, "lots", 1);
        // 1, 1103527590, -1770082073
        due(-1770082073, x, "count", 6);
        call(x, "seed", MAX);
        call(x, "lots", 1);
        due(-1858503659, x, "count", 6);
        call(x, "seed", MIN);
        call(x, "lots", 1);
        due(1406932606, x, "count", 6);
    }

    static void p00ADrawOfAZBelowZeroIsNotBelowZero() {
        // From -5 on: -1222596584, 112136817; these give 12001448 and 438034, by 3 the rests 2 and 1.
        MovingMarket x = row(0, 0, 0, 4, 8);
        call(x, "seed", -5);
        due(4, x, "lots", 1);
        due(8, x, "of", 1, 1);
        due(112136817, x, "count", 6);
    }

    // ---- spots, sheets

    static void p00SpotsAreZeroToNine() {
        MovingMarket x = row(0, 0, 0);
        due(1, x, "hold", 0, 0);
        due(1, x, "hold", 9, 0);
        due(BEYOND, x, "hold", 10, 0);
        due(BEYOND, x, "hold", -1, 0);
        due(2, x, "count", 7);
    }

    static void p00SpotsHoldNothingAtFirst() {
        MovingMarket x = row(0, 0, 0);
        for (int spot = 0; spot < 10; spot++) {
            due(MISSING, x, "as", spot, 0);
        }
        due(0, x, "count", 7);
    }

    static void p00SheetsAreZeroToThree() {
        MovingMarket x = new MovingMarket();
        due(1, x, "sheet", 0, 8, 1);
        due(1, x, "sheet", 3, 8, 1);
        due(BEYOND, x, "sheet", 4, 8, 1);
        due(BEYOND, x, "sheet", -1, 8, 1);
    }

    static void p00SheetsAreMissingAtFirst() {
        MovingMarket x = new MovingMarket();
        for (int s = 0; s < 4; s++) {
            due(MISSING, x, "write", s, 0, 0);
        }
    }

    static void p00ASheetHasAtMostFortyNumbers() {
        MovingMarket x = new MovingMarket();
        due(40, x, "sheet", 0, 32, 40);
        due(1, x, "write", 0, 39, 7);
        due(BEYOND, x, "write", 0, 40, 7);
        due(BEYOND, x, "sheet", 1, 32, 41);
        due(MISSING, x, "write", 1, 0, 7);
    }

    static void p00NumbersAreToldWithTheirSign() {
        // No stall is there but none (-1): what is told with its sign is right.
        MovingMarket x = new MovingMarket();
        fill(x, 0, 8, 255, 0);
        due(2, x, "judge", 0, 0);
        fill(x, 0, 16, 65535, 0);
        due(2, x, "judge", 0, 0);
        fill(x, 0, 32, -1, 0);
        due(2, x, "judge", 0, 0);
        fill(x, 0, 16, 255, 0);
        due(1, x, "judge", 0, 0);
        fill(x, 0, 32, 65535, 0);
        due(1, x, "judge", 0, 0);
    }
}
