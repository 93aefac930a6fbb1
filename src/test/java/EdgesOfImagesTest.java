/** The edges that promises 45 to 49 name. */
public final class EdgesOfImagesTest extends Edges {
    public static void main(String[] args) throws ReflectiveOperationException {
        run(EdgesOfImagesTest.class);
    }

    // ---- 45: image

    static void p45AllButTheTapeAndSheetsIsKept() {
        MovingMarket x = row(5, 4, 0, 11);
        call(x, "change", 1, 0, 6);
        call(x, "change", 1, 2, 9);
        call(x, "shade", 7, 1);
        call(x, "spring", 8);
        call(x, "hold", 9, 1);
        call(x, "seed", -77);
        due(1, x, "image");
        int[][] asked = {{0, 0}, {0, 1}, {0, 2}, {0, 3}, {0, 4}, {1, 0}, {1, 1}, {1, 2}, {1, 3}, {1, 4}};
        int[] before = new int[asked.length];
        for (int k = 0; k < asked.length; k++) {
            before[k] = call(x, "of", asked[k]);
        }
        call(x, "hours", 48);
        call(x, "change", 1, 0, 0);
        call(x, "shade", 7, 0);
        call(x, "spring", 0);
        call(x, "hold", 9, -1);
        call(x, "hold", 0, 0);
        call(x, "seed", 1);
        call(x, "stall", 0, 5);
        call(x, "visits", 11, 0);
        due(5, x, "undo");
        for (int k = 0; k < asked.length; k++) {
            due(before[k], x, "of", asked[k]);
        }
        int[] counts = {5, 2, 29, 0, 48, 0, -77, 1};
        for (int what = 0; what < 8; what++) {
            due(counts[what], x, "count", what);
        }
        due(1, x, "placeOf", 7, 1);
        due(8, x, "spring", 0);
        due(1, x, "as", 9, 6);
        due(MISSING, x, "as", 0, 0);
        due(-1, x, "placeOf", 5, 2);
    }

    static void p45TheTapeIsNotKept() {
        MovingMarket x = new MovingMarket();
        feed(x, "sun");
        call(x, "image");
        feed(x, " 3");
        call(x, "undo");
        due(5, x, "count", 5);
        due(1, x, "text");
        call(x, "undo");
        due(0, x, "count", 5);
    }

    static void p45SheetsAreNotKept() {
        MovingMarket x = new MovingMarket();
        fill(x, 0, 8, 4);
        fill(x, 1, 8, 5, 6);
        call(x, "image");
        call(x, "write", 0, 0, 7);
        call(x, "sheet", 1, 0, 0);
        fill(x, 2, 16, 8);
        call(x, "undo");
        due(1, x, "load", 0);
        due(7, x, "placeOf", 0, 0);
        due(MISSING, x, "load", 1);
        due(1, x, "load", 2);
        due(8, x, "placeOf", 0, 0);
    }

    static void p45TheLatestAloneIsKept() {
        MovingMarket x = new MovingMarket();
        call(x, "image");
        call(x, "hours", 3);
        due(1, x, "image");
        call(x, "hours", 4);
        due(3, x, "undo");
        due(3, x, "undo");
    }

    static void p45WhatComesLaterIsNotInIt() {
        MovingMarket x = row(0, 3, 4);
        call(x, "image");
        call(x, "visits", 0, 0);
        call(x, "hours", 1);
        call(x, "hold", 0, 0);
        call(x, "undo");
        due(36, x, "count", 4);
        due(4, x, "of", 0, 1);
        due(0, x, "count", 7);
        call(x, "visits", 0, 1);
        call(x, "undo");
        due(3, x, "placeOf", 0, 0);
    }

    // ---- 46: undo

    static void p46NoneNothingIsKept() {
        due(NONE, new MovingMarket(), "undo");
        refused(NONE, () -> {
            MovingMarket x = market(3, 7);
            call(x, "tear");
            return x;
        }, "undo");
    }

    static void p46ToTheFirstAndTheLastHour() {
        MovingMarket x = new MovingMarket();
        call(x, "image");
        call(x, "hours", 48);
        due(0, x, "undo");
        due(0, x, "count", 0);
        MovingMarket y = at(999);
        call(y, "image");
        due(999, y, "undo");
        due(STATE, y, "hours", 1);
    }

    static void p46WhatIsKeptStays() {
        MovingMarket x = new MovingMarket();
        call(x, "image");
        for (int k = 0; k < 3; k++) {
            call(x, "stall", 0, k);
            call(x, "hours", 1);
            due(0, x, "undo");
            due(0, x, "count", 1);
        }
        due(1, x, "tear");
    }

    static void p46NumbersGoOnFromTheOnesThatStandAgain() {
        MovingMarket x = market(3, 0);
        call(x, "image");
        for (int place : new int[] {4, 5, 6, 7, 8}) {
            call(x, "stall", 1, place);
        }
        due(FULL, x, "stall", 0, 11);
        call(x, "undo");
        due(3, x, "stall", 2, 4);
        due(20, x, "of", 3, 2);
        due(2, x, "of", 3, 0);
    }

    // ---- 47: tear

    static void p47OneIfSomethingWasElseZero() {
        MovingMarket x = new MovingMarket();
        due(0, x, "tear");
        call(x, "image");
        call(x, "image");
        due(1, x, "tear");
        due(0, x, "tear");
        due(0, x, "status", -1);
        due(NONE, x, "undo");
        call(x, "image");
        due(1, x, "tear");
    }

    static void p47NothingElseChanges() {
        MovingMarket x = row(6, 3, 4);
        call(x, "image");
        call(x, "hours", 2);
        due(1, x, "tear");
        due(8, x, "count", 0);
        due(6, x, "of", 0, 1);
    }

    static void p47UndoTearsNothing() {
        MovingMarket x = new MovingMarket();
        call(x, "image");
        call(x, "undo");
        due(1, x, "tear");
    }

    // ---- 48: count

    static void p48TheMostOfEach() {
        MovingMarket x = row(999, 20, 0, 1, 2, 3, 4, 5, 6, 7);
        for (int stall = 0; stall < 8; stall++) {
            call(x, "change", stall, 2, 99);
        }
        for (int k = 0; k < 30; k++) {
            call(x, "feed", 0, 4);
        }
        for (int spot = 0; spot < 10; spot++) {
            call(x, "hold", spot, spot % 8);
        }
        call(x, "seed", MAX);
        int[] counts = {999, 8, 792, 0, 240, 120, MAX, 10};
        for (int what = 0; what < 8; what++) {
            due(counts[what], x, "count", what);
        }
    }

    static void p48TheLeastOfEach() {
        MovingMarket x = row(0, 0);
        call(x, "seed", MIN);
        int[] counts = {0, 0, 0, 0, 0, 0, MIN, 0};
        for (int what = 0; what < 8; what++) {
            due(counts[what], x, "count", what);
        }
    }

    static void p48CoinOfAll() {
        MovingMarket x = row(0, 3, 0, 4, 8);
        call(x, "change", 1, 0, 2);
        call(x, "change", 2, 2, 1);
        call(x, "hours", 1);
        due(6 + 3 + 2, x, "count", 3);
    }

    static void p48BeyondAnotherWhat() {
        for (int what : new int[] {-1, 8, MIN, MAX}) {
            refused(BEYOND, of(3), "count", what);
        }
    }

    // ---- 49: status

    static void p49EachFindingIsCountedByItself() {
        MovingMarket x = new MovingMarket();
        for (int k = 0; k < 8; k++) {
            call(x, "stall", 0, k);
        }
        String[] acts = {"visits 12 0", "stall 0 8", "as 0 1", "undo", "stall 0 0", "load 0", "most 1"};
        call(x, "hold", 0, 0);
        for (int which = 0; which < 7; which++) {
            String[] words = acts[which].split(" ");
            int[] given = new int[words.length - 1];
            for (int i = 0; i < given.length; i++) {
                given[i] = Integer.parseInt(words[i + 1]);
            }
            for (int k = 0; k <= which; k++) {
                due(BEYOND - which, x, words[0], given);
                due(k + 1, x, "status", which);
            }
        }
        for (int which = 0; which < 7; which++) {
            due(which + 1, x, "status", which);
        }
        due(28, x, "status", -1);
    }

    static void p49UndoTakesNoneBack() {
        MovingMarket x = new MovingMarket();
        call(x, "image");
        call(x, "visits", 12, 0);
        call(x, "load", 0);
        call(x, "undo");
        due(1, x, "status", 0);
        due(1, x, "status", 5);
        due(2, x, "status", -1);
        call(x, "tear");
        call(x, "undo");
        due(3, x, "status", -1);
    }

    static void p49BeyondCountedFromThenOn() {
        MovingMarket x = new MovingMarket();
        int count = 0;
        for (int which : new int[] {-2, 7, MIN, MAX}) {
            due(BEYOND, x, "status", which);
            count++;
            due(count, x, "status", 0);
            due(count, x, "status", -1);
        }
        refused(BEYOND, of(3), "status", 7);
    }

    static void p49AnswersBelowZeroThatAreNoFindingsDontCount() {
        MovingMarket x = row(0, 0, 5);
        call(x, "visits", 5, 20);
        due(-40, x, "worth", 0, 6, 1);
        due(-1, x, "placeOf", 0, 2);
        due(-1, x, "text");
        call(x, "seed", -1000003);
        call(x, "count", 6);
        call(x, "seed", 1);
        due(0, x, "status", -1);
    }

    static void p49StatusIsZeroWithoutFindings() {
        MovingMarket x = market(8, 40);
        for (int which = -1; which < 7; which++) {
            due(0, x, "status", which);
        }
    }
}
