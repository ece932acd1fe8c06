/**
 * Every call that is refused: the number just outside, the numbers far off, which exception comes
 * first, and that nothing is changed by it. The number just inside is not refused.
 */
public final class RefusedTest {
    private static final String OUTSIDE = "throws.ArrayIndexOutOfBoundsException";
    private static final String WRONG = "throws.IllegalArgumentException";
    private static final String MISSING = "throws.NullPointerException";
    private static final String IN_NONE = "throws.IllegalStateException";

    private static final int LEAST = Integer.MIN_VALUE;
    private static final int MOST = Integer.MAX_VALUE;
    private static final int[] NO_POOL = {-1, 8, 9, 256, LEAST, MOST};
    private static final int[] NO_GATE = {-1, 7, 8, 256, LEAST, MOST};
    private static final int[] NO_BOAT = {-1, 10, 11, 256, LEAST, MOST};

    // Pool 4 is not dug, pool 2 is full, boats 7 to 9 lie in none, and something has failed before.
    private static final String BUSY = """
        dig(0, 1); dig(1, 2); dig(2, 3); dig(3, 1); dig(5, 4); dig(6, 9); dig(7, 1)
        pour(0, 20); pour(1, 31); pour(2, 50); pour(3, 7); pour(5, 40); pour(6, 9999); pour(7, 3)
        boat(0, 2, 0); boat(1, 3, 7); boat(2, 1, 2); boat(3, 1, 2); boat(4, 1, 2); boat(5, 99, 5)
        gate(2, 0); gate(5, 99); level(3) -> throws.NullPointerException
        pass(5, true) -> throws.ArithmeticException
        """;

    private static final Calls CALLS = new Calls();

    public static void main(String[] args) {
        noSuchPool();
        noSuchGate();
        noSuchBoat();
        noSuchGateThatWay();
        wrongArea();
        wrongUnits();
        wrongHeight();
        wrongDraught();
        wrongUses();
        wrongBoats();
        wrongOrder();
        missingWithoutAnyHold();
        liesInNone();
        justInside();
        CALLS.end();
    }

    private static void refused(String title, String call, String exception) {
        CALLS.changes(title, BUSY, call, exception, "");
        // On a new object the pool is missing, too, and no boat lies in one.
        if (!exception.equals(MISSING) && !exception.equals(IN_NONE)) {
            CALLS.changes(title + ", new object", "", call, exception, "");
        }
    }

    private static void noSuchPool() {
        String title = "ArrayIndexOutOfBoundsException: no such POOL, ahead of IllegalArgumentException";
        for (int pool : NO_POOL) {
            for (int number : new int[] {LEAST, -1, 0, 1, 5, 10, 10000, MOST}) {
                refused(title, "dig(" + pool + ", " + number + ")", OUTSIDE);
                refused(title, "pour(" + pool + ", " + number + ")", OUTSIDE);
                refused(title, "draw(" + pool + ", " + number + ")", OUTSIDE);
                refused(title, "boat(0, " + number + ", " + pool + ")", OUTSIDE);
                refused(title, "share(" + pool + ", " + number + ")", OUTSIDE);
                refused(title, "share(" + number + ", " + pool + ")", OUTSIDE);
                refused(title, "pool(" + pool + ", " + number + ")", OUTSIDE);
            }
            refused(title, "fill(" + pool + ")", OUTSIDE);
        }
        String ahead = "no such POOL, ahead of what a call FAILS with (boats 0, 2 and 5 lie in one, 9 in none)";
        for (int pool : NO_POOL) {
            for (int boat : new int[] {0, 2, 5, 9}) {
                refused(ahead, "flight(" + boat + ", " + pool + ")", OUTSIDE);
                refused(ahead, "trip(" + boat + ", " + pool + ")", OUTSIDE);
                refused(ahead, "boat(" + boat + ", 1, " + pool + ")", OUTSIDE);
            }
        }
    }

    private static void noSuchGate() {
        String title = "GATE g (0 to 6)";
        for (int gate : NO_GATE) {
            refused(title, "level(" + gate + ")", OUTSIDE);
            for (int uses : new int[] {LEAST, -1, 0, 99, 100, MOST}) {
                refused(title, "gate(" + gate + ", " + uses + ")", OUTSIDE);
            }
        }
    }

    private static void noSuchBoat() {
        String title = "BOATS 0 to 9";
        for (int boat : NO_BOAT) {
            refused(title, "where(" + boat + ")", OUTSIDE);
            refused(title, "pass(" + boat + ", true)", OUTSIDE);
            refused(title, "pass(" + boat + ", false)", OUTSIDE);
            for (int pool : new int[] {-1, 0, 4, 7, 8}) {
                refused(title, "flight(" + boat + ", " + pool + ")", OUTSIDE);
                refused(title, "trip(" + boat + ", " + pool + ")", OUTSIDE);
                refused(title, "boat(" + boat + ", 0, " + pool + ")", OUTSIDE);
                refused(title, "boat(" + boat + ", 1, " + pool + ")", OUTSIDE);
                refused(title, "boat(" + boat + ", 100, " + pool + ")", OUTSIDE);
            }
        }
    }

    private static void noSuchGateThatWay() {
        String title = "pass: also there is no GATE that way";
        CALLS.changes(title, BUSY, "pass(0, false)", OUTSIDE, "");
        CALLS.changes(title, BUSY, "pass(1, true)", OUTSIDE, "");
    }

    private static void wrongArea() {
        for (int area : new int[] {0, 10, -1, 256 + 5, LEAST, MOST}) {
            for (int pool = 0; pool < 8; pool++) {
                refused("dig: area is not 1 to 9, dug (0) or not (4)", "dig(" + pool + ", " + area + ")", WRONG);
            }
        }
    }

    private static void wrongUnits() {
        for (int units : new int[] {-1, 10000, 10001, 65536, LEAST, MOST}) {
            for (int pool = 0; pool < 8; pool++) {
                refused("pour: UNITS (0 to 9999), also ahead of MISSING (4)",
                    "pour(" + pool + ", " + units + ")", WRONG);
            }
        }
    }

    private static void wrongHeight() {
        for (int height : new int[] {-1, -2, LEAST}) {
            for (int pool = 0; pool < 8; pool++) {
                refused("draw: height is below 0, also ahead of MISSING (4)",
                    "draw(" + pool + ", " + height + ")", WRONG);
            }
        }
    }

    private static void wrongDraught() {
        for (int draught : new int[] {0, 100, -1, 101, LEAST, MOST}) {
            for (int boat : new int[] {0, 2, 9}) {
                for (int pool = 0; pool < 8; pool++) {
                    refused("boat: DRAUGHT (1 to 99), also ahead of MISSING (4) and of 3 others (2)",
                        "boat(" + boat + ", " + draught + ", " + pool + ")", WRONG);
                }
            }
        }
    }

    private static void wrongUses() {
        for (int uses : new int[] {-1, 100, 101, LEAST, MOST}) {
            for (int gate = 0; gate < 7; gate++) {
                refused("gate: USES become 0 to 99", "gate(" + gate + ", " + uses + ")", WRONG);
            }
        }
    }

    private static void wrongBoats() {
        for (int boats : new int[] {-1, 1024, 1025, 2047, 65536, LEAST, MOST}) {
            refused("convoy: by bits (0 to 1023)", "convoy(" + boats + ", true)", WRONG);
            refused("convoy: by bits (0 to 1023)", "convoy(" + boats + ", false)", WRONG);
        }
    }

    private static void wrongOrder() {
        for (int from = 1; from < 8; from++) {
            for (int to = 0; to < from; to++) {
                refused("share: from is above to, also ahead of MISSING (4)",
                    "share(" + from + ", " + to + ")", WRONG);
            }
        }
    }

    private static void missingWithoutAnyHold() {
        String title = "one that is not DUG can't be HELD: MISSING, ahead of any other HOLD";
        for (String call : new String[] {
            "fill(4)", "pour(4, 0)", "pour(4, 9999)", "draw(4, 0)", "draw(4, 2147483647)",
            "boat(0, 1, 4)", "boat(0, 99, 4)", "boat(9, 1, 4)", "level(4)", "share(4, 4)", "share(4, 7)",
            "pool(4, 0)", "pool(4, 1)", "pool(4, 2)", "pool(4, 3)", "pool(4, 4)", "pool(4, 5)", "pool(4, -1)"}) {
            refused(title, call, MISSING);
            CALLS.changes(title + ", new object", "", call, MISSING, "");
        }
    }

    private static void liesInNone() {
        for (int boat = 7; boat < 10; boat++) {
            String title = "ahead of all HOLDS, it lies in none";
            refused(title, "pass(" + boat + ", true)", IN_NONE);
            refused(title, "pass(" + boat + ", false)", IN_NONE);
            for (int to = 0; to < 8; to++) {
                refused(title, "flight(" + boat + ", " + to + ")", IN_NONE);
                CALLS.changes("WORN, or it lies in none", BUSY, "trip(" + boat + ", " + to + ")", "-20", "");
            }
        }
    }

    private static void justInside() {
        String title = "the number just inside";
        for (int pool : new int[] {0, 7}) {
            CALLS.run(title, "dig(" + pool + ", 1) -> 1; pour(" + pool + ", 0) -> 0; draw(" + pool + ", 0) -> 0"
                + "; share(" + pool + ", " + pool + ") -> 0; pool(" + pool + ", 0) -> 1"
                + "; boat(0, 1, " + pool + ") -> 1; boat(9, 99, " + pool + ") -> 2"
                + "; where(0) -> " + pool + "; where(9) -> " + pool
                + "; flight(0, " + pool + ") -> 0; trip(9, " + pool + ") -> 0; fill(" + pool + ") -> 2");
            CALLS.run(title, "dig(" + pool + ", 9) -> 1; pour(" + pool + ", 9999) -> 9999");
        }
        for (int gate : new int[] {0, 6}) {
            CALLS.run(title, "dig(" + gate + ", 1) -> 1; dig(" + (gate + 1) + ", 1) -> 1; level(" + gate + ") -> 0"
                + "; gate(" + gate + ", 0) -> 4; gate(" + gate + ", 99) -> 0; gate(" + gate + ", 0) -> 99");
        }
        CALLS.run(title,
            "convoy(0, true) -> 0; convoy(0, false) -> 0; convoy(1023, true) -> 0; convoy(1023, false) -> 0");
    }
}
