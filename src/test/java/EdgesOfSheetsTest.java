/** The edges that promises 37 to 44 name. */
public final class EdgesOfSheetsTest extends Edges {
    public static void main(String[] args) throws ReflectiveOperationException {
        run(EdgesOfSheetsTest.class);
    }

    /** The numbers of a sheet are these (0 to 20 each, at most 12). */
    private static void holdsNumbers(MovingMarket x, int s, int... numbers) {
        due(numbers.length, x, "load", s);
        for (int place = 0; place < numbers.length; place++) {
            due(numbers[place], x, "placeOf", place, 0);
        }
    }

    // ---- 37: hold

    static void p37NothingAndEachStall() {
        MovingMarket x = market(8, 0);
        due(1, x, "hold", 0, 0);
        due(1, x, "hold", 9, 7);
        due(0, x, "as", 0, 0);
        due(7, x, "as", 9, 0);
        due(1, x, "hold", 9, -1);
        due(MISSING, x, "as", 9, 0);
        due(1, x, "hold", 9, -1);
        due(0, x, "status", 0);
    }

    static void p37ASpotHoldsTheLatest() {
        MovingMarket x = row(0, 0, 3, 4);
        call(x, "hold", 4, 0);
        call(x, "hold", 4, 1);
        due(1, x, "as", 4, 0);
        due(1, x, "count", 7);
    }

    static void p37TwoSpotsHoldOneStall() {
        MovingMarket x = row(0, 0, 3);
        call(x, "hold", 0, 0);
        call(x, "hold", 9, 0);
        due(2, x, "count", 7);
        due(0, x, "as", 0, 0);
        due(0, x, "as", 9, 0);
    }

    static void p37BeyondSpotTooSmallTooLarge() {
        for (int spot : new int[] {-1, 10, MIN, MAX}) {
            refused(BEYOND, of(3), "hold", spot, 0);
            refused(BEYOND, of(3), "hold", spot, -1);
        }
    }

    static void p37BeyondStallTooSmallTooLarge() {
        for (int stall : new int[] {-2, 3, MIN, MAX}) {
            refused(BEYOND, of(3), "hold", 2, stall);
        }
        refused(BEYOND, of(0), "hold", 0, 0);
        refused(BEYOND, of(8), "hold", 0, 8);
    }

    // ---- 38: as

    static void p38MissingItHoldsNothing() {
        refused(MISSING, of(3), "as", 0, 0);
        refused(MISSING, of(3), "as", 9, 6);
    }

    static void p38KindItIsntOfThat() {
        // Spot 2 of three holds an idle one, spot 7 a double.
        due(2, market(3, 0), "as", 2, 2);
        due(2, market(3, 0), "as", 2, 0);
        refused(KIND, of(3), "as", 2, 1);
        refused(KIND, of(3), "as", 2, 4);
        refused(KIND, of(3), "as", 7, 3);
        refused(KIND, of(3), "as", 5, 6);
    }

    static void p38ByTheKindThatItHasNow() {
        MovingMarket x = row(0, 0, 3);
        call(x, "hold", 0, 0);
        due(KIND, x, "as", 0, 5);
        call(x, "change", 0, 0, 6);
        due(0, x, "as", 0, 5);
        due(0, x, "as", 0, 6);
    }

    static void p38BeyondSpotTooSmallTooLarge() {
        for (int spot : new int[] {-1, 10, MIN, MAX}) {
            refused(BEYOND, of(3), "as", spot, 0);
        }
    }

    static void p38BeyondKindTooSmallTooLarge() {
        for (int kind : new int[] {-1, 7, MIN, MAX}) {
            refused(BEYOND, of(3), "as", 2, kind);
        }
    }

    static void p38BeyondIsToldBeforeMissing() {
        refused(BEYOND, of(3), "as", 0, 7);
        refused(BEYOND, of(3), "as", 0, -1);
    }

    // ---- 39: sheet

    static void p39NoNumbersAndForty() {
        MovingMarket x = new MovingMarket();
        for (int bits : new int[] {8, 16, 32}) {
            due(0, x, "sheet", 0, bits, 0);
            due(BEYOND, x, "write", 0, 0, 0);
            due(0, x, "load", 0);
            due(40, x, "sheet", 0, bits, 40);
            due(1, x, "write", 0, 0, 0);
            due(1, x, "write", 0, 39, 0);
            due(BEYOND, x, "write", 0, 40, 0);
        }
    }

    static void p39AllZero() {
        MovingMarket x = new MovingMarket();
        fill(x, 0, 8, 5, 6, 7);
        due(5, x, "sheet", 0, 8, 5);
        holdsNumbers(x, 0, 0, 0, 0, 0, 0);
        fill(x, 0, 8, 5, 6, 7);
        due(2, x, "sheet", 0, 16, 2);
        holdsNumbers(x, 0, 0, 0);
    }

    static void p39BitsZeroItIsMissing() {
        MovingMarket x = new MovingMarket();
        fill(x, 2, 8, 5, 6, 7);
        due(0, x, "sheet", 2, 0, 0);
        due(MISSING, x, "load", 2);
        due(0, x, "sheet", 2, 0, 40);
        due(MISSING, x, "write", 2, 0, 1);
        due(0, x, "sheet", 3, 0, 7);
        due(MISSING, x, "load", 3);
        due(3, x, "sheet", 2, 8, 3);
        holdsNumbers(x, 2, 0, 0, 0);
    }

    static void p39BeyondNoSuchSheet() {
        for (int s : new int[] {-1, 4, MIN, MAX}) {
            refused(BEYOND, of(3), "sheet", s, 8, 3);
            refused(BEYOND, of(3), "sheet", s, 0, 0);
        }
    }

    static void p39BeyondOtherBits() {
        for (int bits : new int[] {-1, 1, 7, 9, 15, 17, 24, 31, 33, 64, -8, MIN, MAX}) {
            refused(BEYOND, of(3), "sheet", 0, bits, 3);
        }
    }

    static void p39SizeBelowZero() {
        for (int n : new int[] {-1, MIN}) {
            refused(SIZE, of(3), "sheet", 0, 8, n);
            refused(SIZE, of(3), "sheet", 1, 16, n);
            refused(SIZE, of(3), "sheet", 3, 32, n);
        }
    }

    static void p39SizeBelowZeroAlsoWithBitsZero() {
        refused(SIZE, of(3), "sheet", 0, 0, -1);
        refused(SIZE, of(3), "sheet", 3, 0, MIN);
    }

    static void p39BeyondAboveForty() {
        for (int n : new int[] {41, MAX}) {
            refused(BEYOND, of(3), "sheet", 0, 8, n);
            refused(BEYOND, of(3), "sheet", 1, 16, n);
            refused(BEYOND, of(3), "sheet", 3, 32, n);
        }
    }

    static void p39BeyondAboveFortyAlsoWithBitsZero() {
        refused(BEYOND, of(3), "sheet", 0, 0, 41);
        refused(BEYOND, of(3), "sheet", 3, 0, MAX);
    }

    static void p39BeyondIsToldBeforeSize() {
        refused(BEYOND, of(3), "sheet", 4, 8, -1);
        refused(BEYOND, of(3), "sheet", 0, 7, -1);
    }

    // ---- 40: write

    static void p40TheFirstAndTheLastNumber() {
        MovingMarket x = new MovingMarket();
        fill(x, 0, 8, 1, 2, 3);
        due(1, x, "write", 0, 0, 9);
        due(1, x, "write", 0, 2, 8);
        holdsNumbers(x, 0, 9, 2, 8);
    }

    static void p40ItsLowestBits() {
        MovingMarket x = new MovingMarket();
        call(x, "sheet", 0, 8, 2);
        call(x, "write", 0, 0, 256 + 7);
        call(x, "write", 0, 1, MIN + 20);
        holdsNumbers(x, 0, 7, 20);
        call(x, "sheet", 0, 16, 2);
        call(x, "write", 0, 0, 65536 + 7);
        call(x, "write", 0, 1, MIN + 20);
        holdsNumbers(x, 0, 7, 20);
        call(x, "sheet", 0, 32, 2);
        call(x, "write", 0, 0, 7);
        call(x, "write", 0, 1, MIN + 20);
        holdsNumbers(x, 0, 7);
        due(20, x, "placeOf", 1, 0);
        due(1, x, "load", 0);
    }

    static void p40OnItsSignBit() {
        MovingMarket x = new MovingMarket();
        int[] bits = {8, 16, 32};
        int[] ones = {0xff, 0xffff, 0xffffffff};
        for (int k = 0; k < 3; k++) {
            // -1 on all twelve: nobody is there.
            call(x, "sheet", 0, bits[k], 12);
            for (int i = 0; i < 12; i++) {
                call(x, "write", 0, i, ones[k]);
            }
            due(0, x, "judge", 0, 0);
            call(x, "write", 0, 11, ones[k] >>> 1);
            due(12, x, "judge", 0, 0);
        }
    }

    static void p40BeyondNoSuchSheet() {
        for (int s : new int[] {-1, 4, MIN, MAX}) {
            refused(BEYOND, of(3), "write", s, 0, 0);
        }
    }

    static void p40Missing() {
        refused(MISSING, of(3), "write", 3, 0, 1);
    }

    static void p40BeyondNoSuchNumber() {
        for (int i : new int[] {-1, 12, 39, 40, MIN, MAX}) {
            refused(BEYOND, of(3), "write", 0, i, 1);
        }
        refused(BEYOND, of(3), "write", 2, 3, 1);
    }

    static void p40MissingIsToldBeforeNoSuchNumber() {
        refused(MISSING, of(3), "write", 3, 40, 1);
        refused(MISSING, of(3), "write", 3, -1, 1);
    }

    // ---- 41: copy

    static void p41AllNumbersAndNone() {
        MovingMarket x = new MovingMarket();
        fill(x, 0, 8, 1, 2, 3);
        fill(x, 3, 8, 7, 8, 9);
        due(0, x, "copy", 0, 0, 3, 0, 0);
        due(0, x, "copy", 0, 3, 3, 3, 0);
        holdsNumbers(x, 3, 7, 8, 9);
        due(3, x, "copy", 0, 0, 3, 0, 3);
        holdsNumbers(x, 3, 1, 2, 3);
        holdsNumbers(x, 0, 1, 2, 3);
    }

    static void p41ToTheEndOfOne() {
        MovingMarket x = new MovingMarket();
        fill(x, 0, 8, 1, 2, 3);
        fill(x, 3, 8, 7, 8, 9);
        due(1, x, "copy", 0, 2, 3, 0, 1);
        holdsNumbers(x, 3, 3, 8, 9);
        due(2, x, "copy", 0, 0, 3, 1, 2);
        holdsNumbers(x, 3, 3, 1, 2);
    }

    static void p41AsTheyAllWereWithinOneSheet() {
        MovingMarket x = new MovingMarket();
        fill(x, 1, 16, 1, 2, 3, 4, 5);
        due(4, x, "copy", 1, 0, 1, 1, 4);
        holdsNumbers(x, 1, 1, 1, 2, 3, 4);
        fill(x, 1, 16, 1, 2, 3, 4, 5);
        due(4, x, "copy", 1, 1, 1, 0, 4);
        holdsNumbers(x, 1, 2, 3, 4, 5, 5);
        due(5, x, "copy", 1, 0, 1, 0, 5);
        holdsNumbers(x, 1, 2, 3, 4, 5, 5);
    }

    static void p41FortyNumbers() {
        MovingMarket x = new MovingMarket();
        call(x, "sheet", 0, 32, 40);
        call(x, "sheet", 1, 32, 40);
        call(x, "write", 0, 39, 13);
        due(40, x, "copy", 0, 0, 1, 0, 40);
        due(1, x, "copy", 1, 39, 1, 0, 1);
        due(12, x, "load", 1);
        due(13, x, "placeOf", 0, 0);
    }

    static void p41BeyondNoSuchSheetEither() {
        for (int s : new int[] {-1, 4, MIN, MAX}) {
            refused(BEYOND, of(3), "copy", s, 0, 0, 0, 1);
            refused(BEYOND, of(3), "copy", 0, 0, s, 0, 1);
        }
    }

    static void p41MissingOneIs() {
        refused(MISSING, of(3), "copy", 0, 0, 3, 0, 0);
        refused(MISSING, of(3), "copy", 3, 0, 0, 0, 0);
        refused(MISSING, of(3), "copy", 3, 0, 3, 0, 0);
    }

    static void p41KindNotOfAsManyBits() {
        refused(KIND, of(3), "copy", 0, 0, 1, 0, 1);
        refused(KIND, of(3), "copy", 1, 0, 0, 0, 0);
    }

    static void p41BeyondOneHasNotSoMany() {
        refused(BEYOND, of(3), "copy", 0, 0, 2, 0, 4);
        refused(BEYOND, of(3), "copy", 0, 0, 2, 1, 3);
        refused(BEYOND, of(3), "copy", 2, 0, 0, 0, 4);
        refused(BEYOND, of(3), "copy", 2, 1, 0, 0, 3);
        refused(BEYOND, of(3), "copy", 0, 12, 2, 0, 1);
        refused(BEYOND, of(3), "copy", 0, 0, 2, 3, 1);
        refused(BEYOND, of(3), "copy", 0, 0, 0, 0, 13);
    }

    static void p41BeyondFromToOrNBelowZero() {
        for (int low : new int[] {-1, MIN}) {
            refused(BEYOND, of(3), "copy", 0, low, 2, 0, 1);
            refused(BEYOND, of(3), "copy", 0, 0, 2, low, 1);
            refused(BEYOND, of(3), "copy", 0, 0, 2, 0, low);
            refused(BEYOND, of(3), "copy", 0, 1, 2, 1, low);
        }
    }

    static void p41BeyondOfSumsThatWrapRound() {
        refused(BEYOND, of(3), "copy", 0, MAX, 2, 0, 1);
        refused(BEYOND, of(3), "copy", 0, 0, 2, MAX, 1);
        refused(BEYOND, of(3), "copy", 0, 1, 2, 0, MAX);
        refused(BEYOND, of(3), "copy", 0, MAX, 2, MAX, MAX);
        refused(BEYOND, of(3), "copy", 0, MAX, 2, 0, MIN);
    }

    static void p41BeyondMissingKindBeyondInThisOrder() {
        refused(BEYOND, of(3), "copy", 3, 0, 4, 0, 1);
        refused(BEYOND, of(3), "copy", -1, 0, 3, 0, 1);
        refused(MISSING, of(3), "copy", 3, -1, 0, 0, 99);
        refused(KIND, of(3), "copy", 0, -1, 1, 0, 99);
    }

    // ---- 42: load

    static void p42NoNumbers() {
        MovingMarket x = new MovingMarket();
        call(x, "sheet", 0, 8, 0);
        due(0, x, "load", 0);
        due(36, x, "count", 4);
    }

    static void p42ZeroAndTwenty() {
        MovingMarket x = new MovingMarket();
        fill(x, 0, 8, 0, 20);
        due(2, x, "load", 0);
        due(0, x, "placeOf", 0, 0);
        due(20, x, "placeOf", 1, 0);
        due(3, x, "placeOf", 2, 0);
    }

    static void p42ItEndsAtOneThatIsntZeroToTwenty() {
        for (int wrong : new int[] {21, -1, 127, -128}) {
            MovingMarket x = new MovingMarket();
            fill(x, 0, 8, 9, wrong, 9);
            due(1, x, "load", 0);
            due(9, x, "placeOf", 0, 0);
            due(3, x, "placeOf", 1, 0);
            due(3, x, "placeOf", 2, 0);
            fill(x, 0, 8, wrong, 9);
            due(0, x, "load", 0);
            due(9, x, "placeOf", 0, 0);
            due(0, x, "status", -1);
        }
    }

    static void p42ItEndsWithThePlaces() {
        MovingMarket x = new MovingMarket();
        call(x, "sheet", 0, 8, 12);
        due(12, x, "load", 0);
        due(0, x, "count", 4);
        call(x, "sheet", 0, 8, 13);
        due(12, x, "load", 0);
        call(x, "sheet", 0, 8, 40);
        call(x, "write", 0, 11, 7);
        call(x, "write", 0, 12, 21);
        due(12, x, "load", 0);
        due(7, x, "count", 4);
    }

    static void p42BeyondNoSuchSheet() {
        for (int s : new int[] {-1, 4, MIN, MAX}) {
            refused(BEYOND, of(3), "load", s);
        }
    }

    static void p42Missing() {
        refused(MISSING, of(3), "load", 3);
    }

    // ---- 43: fit

    static void p43NoWords() {
        MovingMarket x = row(0, 0, 3, 4, 5);
        call(x, "sheet", 0, 8, 0);
        due(6, x, "fit", 0);
    }

    static void p43WhatIsLeftOverTellsNothing() {
        MovingMarket x = row(0, 0, 3, 4, 5);
        fill(x, 0, 8, 99);
        due(6, x, "fit", 0);
        fill(x, 0, 8, 99, 99);
        due(6, x, "fit", 0);
        fill(x, 0, 8, 0, 4, 0, 99);
        due(2, x, "fit", 0);
        fill(x, 0, 8, 0, 4, 0, 99, 99);
        due(2, x, "fit", 0);
        fill(x, 0, 8, 0, 4, 0, 99, 99, 99);
        due(0, x, "fit", 0);
    }

    static void p43HoursZeroAndTwentyFour() {
        MovingMarket x = row(0, 0, 3, 4, 5);
        fill(x, 0, 8, 2, 3, 0);
        due(2, x, "fit", 0);
        fill(x, 0, 8, 2, 3, 24);
        due(2, x, "fit", 0);
        fill(x, 0, 8, 2, 2, 23);
        due(2, x, "fit", 0);
        fill(x, 0, 8, 2, 5, 23);
        due(0, x, "fit", 0);
    }

    static void p43NeverSoOfNoSuchStall() {
        MovingMarket x = row(0, 0, 3, 4, 5);
        for (int stall : new int[] {3, -1, 7, MIN, MAX}) {
            fill(x, 0, 32, stall, 3, 0);
            due(0, x, "fit", 0);
        }
        MovingMarket none = new MovingMarket();
        fill(none, 0, 8, 0, 3, 0);
        due(0, none, "fit", 0);
    }

    static void p43NeverSoOfNoSuchPlace() {
        MovingMarket x = row(0, 0, 3, 4, 5);
        for (int place : new int[] {12, -1, 15, MIN, MAX}) {
            fill(x, 0, 32, 0, place, 0);
            due(0, x, "fit", 0);
        }
    }

    static void p43NeverSoOfNoSuchHours() {
        MovingMarket x = row(0, 0, 3, 4, 5);
        for (int hours : new int[] {25, -1, 36, -12, MIN, MAX}) {
            fill(x, 0, 32, 0, 3, hours);
            due(0, x, "fit", 0);
        }
        due(0, x, "status", -1);
    }

    static void p43AllWordsOfThirteen() {
        MovingMarket x = row(0, 0, 3, 4, 5);
        call(x, "sheet", 0, 8, 40);
        for (int k = 0; k < 13; k++) {
            call(x, "write", 0, 3 * k + 1, 3);
        }
        due(2, x, "fit", 0);
        call(x, "write", 0, 38, 24);
        due(2, x, "fit", 0);
        call(x, "write", 0, 38, 23);
        due(0, x, "fit", 0);
    }

    static void p43BeyondNoSuchSheet() {
        for (int s : new int[] {-1, 4, MIN, MAX}) {
            refused(BEYOND, of(3), "fit", s);
        }
    }

    static void p43Missing() {
        refused(MISSING, of(3), "fit", 3);
    }

    static void p43StateHourIsAbove975() {
        due(0, market(3, 975), "fit", 2);
        MovingMarket x = row(975, 0, 3, 4);
        fill(x, 0, 8, 1, 3, 24);
        due(1, x, "fit", 0);
        refused(STATE, of(3, 976), "fit", 2);
        refused(STATE, of(3, 999), "fit", 2);
        refused(STATE, () -> {
            MovingMarket y = market(3, 976);
            call(y, "sheet", 0, 8, 0);
            return y;
        }, "fit", 0);
    }

    static void p43SizeMoreThanSixStalls() {
        MovingMarket x = row(0, 0, 0, 1, 2, 3, 4, 5);
        fill(x, 0, 8, 5, 0, 0);
        due(120, x, "fit", 0);
        refused(SIZE, of(7), "fit", 2);
        refused(SIZE, of(8), "fit", 0);
    }

    static void p43BeyondMissingStateSizeInThisOrder() {
        refused(BEYOND, of(7, 999), "fit", 4);
        refused(MISSING, of(7, 999), "fit", 3);
        refused(STATE, of(7, 999), "fit", 2);
    }

    // ---- 44: judge

    static void p44AllAreRightAndTwelve() {
        MovingMarket x = row(0, 0, 0, 11);
        fill(x, 0, 8, 0, -1, -1, -1, -1, -1, -1, -1, -1, -1, -1, 1);
        due(0, x, "judge", 0, 0);
        due(0, x, "judge", 0, 12);
        due(0, x, "judge", 0, 96);
        due(1, x, "judge", 0, 95);
    }

    static void p44AllAreRightButEleven() {
        MovingMarket x = row(0, 0, 0, 11);
        fill(x, 0, 8, 0, -1, -1, -1, -1, -1, -1, -1, -1, -1, -1);
        due(12, x, "judge", 0, 0);
        call(x, "sheet", 0, 8, 0);
        due(1, x, "judge", 0, 0);
        fill(x, 0, 8, 0);
        due(2, x, "judge", 0, 0);
    }

    static void p44OnesBehindAWrongOneDontCount() {
        MovingMarket x = row(0, 0, 0, 11);
        fill(x, 0, 8, 0, -1, 1, -1, -1, -1, -1, -1, -1, -1, -1, 1);
        due(3, x, "judge", 0, 0);
        fill(x, 0, 8, 1, -1, -1, -1, -1, -1, -1, -1, -1, -1, -1, 1);
        due(1, x, "judge", 0, 0);
        fill(x, 0, 8, 0, -1, -1, -1, -1, -1, -1, -1, -1, -1, -1, -1);
        due(12, x, "judge", 0, 0);
    }

    static void p44MinusOneAloneIsNone() {
        MovingMarket x = row(0, 0, 11);
        for (int wrong : new int[] {-2, 0, 8, -128, 127}) {
            fill(x, 0, 8, wrong);
            due(1, x, "judge", 0, 0);
        }
        fill(x, 0, 8, -1);
        due(2, x, "judge", 0, 0);
    }

    static void p44BeyondNoSuchSheet() {
        for (int s : new int[] {-1, 4, MIN, MAX}) {
            refused(BEYOND, of(3), "judge", s, 0);
        }
    }

    static void p44Missing() {
        refused(MISSING, of(3), "judge", 3, 0);
    }

    static void p44BeyondHoursTooFewTooMany() {
        for (int n : new int[] {-1, 97, MIN, MAX}) {
            refused(BEYOND, of(3), "judge", 2, n);
        }
    }

    static void p44StateHourWouldBeAbove999() {
        due(1, market(3, 903), "judge", 2, 96);
        due(1, market(3, 999), "judge", 2, 0);
        refused(STATE, of(3, 904), "judge", 2, 96);
        refused(STATE, of(3, 999), "judge", 2, 1);
    }

    static void p44BeyondMissingBeyondStateInThisOrder() {
        refused(BEYOND, of(3, 999), "judge", 4, 97);
        refused(MISSING, of(3, 999), "judge", 3, 97);
        refused(MISSING, of(3, 999), "judge", 3, 96);
        refused(BEYOND, of(3, 999), "judge", 2, 97);
    }
}
