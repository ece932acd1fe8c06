/**
 * The boundary cases of the document's sentences, promise by promise: what just fits, what just does
 * not, and all that is changed by the call. Calls that are refused stand in RefusedTest.
 */
public final class BoundaryTest {
    private static final String MISSING = "throws.NullPointerException";
    private static final String WORN = "throws.IllegalStateException";
    private static final String STUCK = "throws.UnsupportedOperationException";
    private static final String SLOW = "throws.ArithmeticException";

    // Two pools of one area each, and something poured, so that one hold has been open.
    private static final String PAIR = "dig(3, 1); dig(4, 1); pour(3, 0); ";

    private static final Calls CALLS = new Calls();

    public static void main(String[] args) {
        newObject();
        dig();
        fill();
        pour();
        draw();
        boat();
        boatKeepsDraught();
        gate();
        levelCounts();
        levelFails();
        passFits();
        passFails();
        passOrder();
        flight();
        flightFails();
        trip();
        convoyWho();
        convoyFails();
        convoyInTurn();
        share();
        first();
        pool();
        where();
        told();
        clear();
        noneIsOpenBehind();
        manyCalls();
        CALLS.end();
    }

    /** Pools 0 to 7 with area 1 and that much water each. */
    private static String all(int water) {
        StringBuilder rows = new StringBuilder();
        for (int pool = 0; pool < 8; pool++) {
            rows.append("dig(" + pool + ", 1); pour(" + pool + ", " + water + ");");
        }
        return rows.toString();
    }

    private static void newObject() {
        // Another object, so that the ones below would show what objects share.
        CALLS.run("1 another object", all(9) + "boat(0, 1, 0); boat(9, 1, 7); gate(0, 0); gate(6, 0)");
        for (int i = 0; i < 10; i++) {
            CALLS.run("1 no BOAT lies in one", "where(" + i + ") -> -1");
        }
        for (int i = 0; i < 8; i++) {
            CALLS.run("1 no POOL is DUG", "pool(" + i + ", 0) -> " + MISSING);
        }
        for (int gate = 0; gate < 7; gate++) {
            String level = "level(" + gate + ") -> 0;";
            CALLS.run("1 all USES are 5: the sixth is WORN", "dig(" + gate + ", 1); dig(" + (gate + 1) + ", 1);"
                + level.repeat(5) + "level(" + gate + ") -> " + WORN);
        }
        CALLS.run("1 no HOLDS yet", "told(0) -> 0; told(1) -> 0; told(2) -> 0; told(3) -> 0; clear() -> 0");
    }

    private static void dig() {
        for (int pool = 0; pool < 8; pool++) {
            for (int area = 1; area <= 9; area++) {
                CALLS.changes("2 DUG with an AREA, not HELD", "", "dig(" + pool + ", " + area + ")", "1",
                    "dug+1 area" + pool + "+" + area);
            }
        }
        for (int area = 1; area <= 9; area++) {
            CALLS.changes("2 0 if it was (then nothing changes)",
                "dig(2, 5); pour(2, 9); boat(1, 1, 2); level(2) -> " + MISSING,
                "dig(2, " + area + ")", "0", "");
        }
        CALLS.changes("2 DUG again behind fill: WATER 0 at first, no LEFT, no BOATS",
            "dig(2, 5); pour(2, 9); boat(1, 1, 2); level(2) -> " + MISSING + "; fill(2)",
            "dig(2, 3)", "1", "dug+1 area2+3");
    }

    private static void fill() {
        CALLS.changes("3 no BOAT lay in it, no WATER", "dig(0, 9)", "fill(0)", "0",
            "holds+1 open+1 dug-1 area0-9");
        CALLS.changes("3 three BOATS lay in it, another one elsewhere",
            "dig(7, 1); dig(6, 2); pour(7, 9999); pour(6, 3); gate(6, 2); boat(0, 1, 7); boat(5, 1, 7)"
                + "; boat(9, 1, 7); boat(4, 1, 6)",
            "fill(7)", "3", "holds+1 dug-1 units-9999 area7-1 water7-9999 boats7-3 boat0=-1 boat5=-1 boat9=-1");
        CALLS.changes("3 LEFT goes with it", "dig(0, 1); level(0) -> " + MISSING, "fill(0)", "0",
            "holds+1 dug-1 area0-1 left0-1");
        CALLS.run("3 DUG no more", "dig(1, 1); fill(1) -> 0; fill(1) -> " + MISSING + "; pour(1, 1) -> " + MISSING
            + "; draw(1, 0) -> " + MISSING + "; boat(0, 1, 1) -> " + MISSING + "; pool(1, 0) -> " + MISSING
            + "; share(1, 1) -> " + MISSING + "; first(0) -> -1; told(0) -> 1");
        CALLS.run("3 they lie in none then", "dig(1, 1); dig(2, 1); boat(0, 1, 1); fill(1) -> 1; dig(1, 1)"
            + "; pass(0, true) -> " + WORN + "; flight(0, 1) -> " + WORN + "; trip(0, 1) -> -20"
            + "; convoy(1, true) -> 0; where(0) -> -1; fill(1) -> 0");
    }

    private static void pour() {
        String title = "4 UNITS, but only up to 9999 in all";
        CALLS.changes(title, "dig(0, 1)", "pour(0, 0)", "0", "holds+1 open+1");
        CALLS.changes(title, "dig(0, 1)", "pour(0, 1)", "1", "holds+1 open+1 units+1 water0+1");
        CALLS.changes(title, "dig(0, 1)", "pour(0, 9999)", "9999", "holds+1 open+1 units+9999 water0+9999");
        String almost = "dig(5, 9); pour(5, 9998)";
        CALLS.changes(title, almost, "pour(5, 0)", "9998", "holds+1");
        CALLS.changes(title, almost, "pour(5, 1)", "9999", "holds+1 units+1 water5+1");
        CALLS.changes(title, almost, "pour(5, 2)", "9999", "holds+1 units+1 water5+1");
        CALLS.changes(title, almost, "pour(5, 9999)", "9999", "holds+1 units+1 water5+1");
        for (String full : new String[] {"0", "1", "9999"}) {
            CALLS.changes(title, almost + "; pour(5, 1)", "pour(5, " + full + ")", "9999", "holds+1");
        }
        // Heights 1111 and 9999: far more than 200 units would have to go.
        String more = "dig(0, 9); dig(1, 1); pour(0, 9999); pour(1, 9999); level(0) -> " + SLOW;
        for (String units : new String[] {"0", "1", "9999"}) {
            CALLS.changes("4 more than that, by levelling, stays",
                more, "pour(0, " + units + ")", "10199", "holds+1");
        }
        CALLS.changes("4 less than that, by levelling, gets more", more, "pour(1, 201)", "9999",
            "holds+1 units+200 water1+200");
        String shared = "dig(0, 1); dig(1, 9); pour(0, 9999); share(0, 1);";
        CALLS.changes("4 what came by sharing counts, too",
            shared, "pour(1, 1001)", "9999", "holds+1 units+1000 water1+1000");
    }

    private static void draw() {
        // Area 4 and 18 units: height 4; 16 to 19 units have height 4, 12 to 15 height 3.
        String four = "dig(2, 4); pour(2, 18)";
        String title = "5 loses UNITS as long as its HEIGHT is above that one";
        CALLS.changes(title, four, "draw(2, 5)", "0", "holds+1");
        CALLS.changes(title, four, "draw(2, 4)", "0", "holds+1");
        CALLS.changes(title, four, "draw(2, 3)", "3", "holds+1 units-3 water2-3");
        CALLS.changes(title, four, "draw(2, 2)", "7", "holds+1 units-7 water2-7");
        CALLS.changes(title, four, "draw(2, 0)", "15", "holds+1 units-15 water2-15");
        CALLS.changes(title, four, "draw(2, 2147483647)", "0", "holds+1");
        CALLS.changes(title, four, "draw(2, 536870911)", "0", "holds+1");
        CALLS.changes(title, four, "draw(2, 536870912)", "0", "holds+1");
        CALLS.changes("5 of an empty one", "dig(2, 4)", "draw(2, 0)", "0", "holds+1 open+1");
        CALLS.changes("5 of AREA 1 to nothing",
            "dig(2, 1); pour(2, 1)", "draw(2, 0)", "1", "holds+1 units-1 water2-1");
        CALLS.changes("5 of AREA 1, one above",
            "dig(2, 1); pour(2, 9)", "draw(2, 8)", "1", "holds+1 units-1 water2-1");
        CALLS.changes("5 of AREA 9, full", "dig(2, 9); pour(2, 9999)", "draw(2, 0)", "9991",
            "holds+1 units-9991 water2-9991");
        CALLS.changes("5 HEIGHT 0 already", "dig(2, 9); pour(2, 8)", "draw(2, 0)", "0", "holds+1");
        CALLS.changes("5 HEIGHT just 1", "dig(2, 9); pour(2, 9)", "draw(2, 0)", "1", "holds+1 units-1 water2-1");
    }

    private static void boat() {
        String title = "6 BERTHS for 3 BOATS";
        CALLS.changes(title, "dig(0, 1)", "boat(0, 1, 0)", "1", "holds+1 open+1 boats0+1 boat0=0");
        String two = "dig(0, 1); dig(1, 1); boat(0, 1, 0); boat(1, 1, 0);";
        CALLS.changes(title, two, "boat(9, 99, 0)", "3", "holds+1 boats0+1 boat9=0");
        String full = two + "boat(2, 1, 0);";
        CALLS.changes("6 3 others lie there", full, "boat(3, 1, 0)", STUCK, "holds+1 left0+1");
        CALLS.changes("6 3 others lie there, and it elsewhere", full + "boat(3, 1, 1)", "boat(3, 1, 0)", STUCK,
            "holds+1 left0+1");
        for (int boat = 0; boat < 3; boat++) {
            CALLS.changes("6 only 2 others lie there", full, "boat(" + boat + ", 9, 0)", "3", "holds+1");
        }
        CALLS.changes("6 wherever it lay (which is not HELD)", full, "boat(1, 1, 1)", "1",
            "holds+1 boats0-1 boats1+1 boat1=1");
        CALLS.changes("6 a BERTH that was left", full + "boat(1, 1, 1)", "boat(3, 1, 0)", "3",
            "holds+1 boats0+1 boat3=0");
        CALLS.changes("6 MISSING, and it lies where it lay", full, "boat(1, 1, 2)", MISSING, "");
        CALLS.changes("6 no WATER is asked for",
            "dig(0, 9)", "boat(4, 99, 0)", "1", "holds+1 open+1 boats0+1 boat4=0");
    }

    private static void boatKeepsDraught() {
        String three = "dig(0, 1); dig(1, 1); dig(2, 1); pour(0, 5); pour(1, 5); pour(2, 5)"
            + "; boat(1, 1, 2); boat(2, 1, 2); boat(3, 1, 2);";
        for (String refused : new String[] {"boat(0, %d, 2) -> " + STUCK, "boat(0, %d, 3) -> " + MISSING,
            "boat(0, 0, 0) -> throws.IllegalArgumentException", "boat(0, 100, 0) -> throws.IllegalArgumentException",
            "boat(0, %d, 8) -> throws.ArrayIndexOutOfBoundsException"}) {
            String deeper = refused.formatted(6);
            CALLS.run("6 neither is so: not deeper", three + "boat(0, 5, 0);" + deeper + ";pass(0, true) -> 1");
            String flatter = refused.formatted(5);
            CALLS.run("6 neither is so: not flatter",
                three + "boat(0, 6, 0);" + flatter + ";pass(0, true) -> " + STUCK);
        }
        String deep = "dig(0, 1); dig(1, 1); pour(0, %d); pour(1, %d); boat(0, 99, 0); pass(0, true) -> %s";
        CALLS.run("6 DRAUGHT 99, HEIGHT 99", deep.formatted(99, 99, "1"));
        CALLS.run("6 DRAUGHT 99, HEIGHT 98", deep.formatted(98, 98, STUCK));
        CALLS.run("6 a new DRAUGHT in the same POOL", three + "boat(0, 6, 0); boat(0, 5, 0); pass(0, true) -> 1");
        CALLS.run("6 DRAUGHT 1, HEIGHT 1",
            "dig(0, 9); dig(1, 9); pour(0, 9); pour(1, 9); boat(0, 1, 0); pass(0, true) -> 1");
        CALLS.run("6 DRAUGHT 1, HEIGHT 0, cut",
            "dig(0, 9); dig(1, 9); pour(0, 8); pour(1, 8); boat(0, 1, 0); pass(0, true) -> " + STUCK);
    }

    private static void gate() {
        for (int gate = 0; gate < 7; gate++) {
            CALLS.changes("7 USES become 0, not HELD", "", "gate(" + gate + ", 0)", "5", "uses" + gate + "-5");
            CALLS.changes("7 USES become 99", "gate(" + gate + ", 0)", "gate(" + gate + ", 99)", "0",
                "uses" + gate + "+99");
            CALLS.changes("7 what they were", "gate(" + gate + ", 99)", "gate(" + gate + ", 99)", "99", "");
        }
        CALLS.changes("7 one less by a level", PAIR + "level(3) -> 0", "gate(3, 0)", "4", "uses3-4");
        CALLS.changes("7 none left", PAIR + "gate(3, 1); level(3) -> 0", "gate(3, 1)", "0", "uses3+1");
        CALLS.run("7 99 and no more", PAIR + "gate(3, 99);" + "level(3) -> 0;".repeat(99) + "level(3) -> " + WORN);
        CALLS.run("7 0: WORN at once", PAIR + "gate(3, 0); level(3) -> " + WORN);
    }

    private static void levelCounts() {
        String title = "8 how many UNITS went";
        CALLS.changes(title, PAIR, "level(3)", "0", "holds+2 open+1 uses3-1");
        CALLS.changes(title, PAIR + "pour(3, 2)", "level(3)", "1", "holds+2 open+1 uses3-1 water3-1 water4+1");
        CALLS.changes(title, PAIR + "pour(4, 2)", "level(3)", "1", "holds+2 open+1 uses3-1 water3+1 water4-1");
        CALLS.changes(title,
            PAIR + "pour(3, 398)", "level(3)", "199", "holds+2 open+1 uses3-1 water3-199 water4+199");
        CALLS.changes("8 200 went, and they do not differ", PAIR + "pour(3, 400)", "level(3)", "200",
            "holds+2 open+1 uses3-1 water3-200 water4+200");
        CALLS.changes("8 200 went, and they do not differ", PAIR + "pour(4, 400)", "level(3)", "200",
            "holds+2 open+1 uses3-1 water3+200 water4-200");
        CALLS.changes("8 200 went, and they differ", PAIR + "pour(3, 401)", "level(3)", SLOW,
            "holds+2 open+1 uses3-1 water3-200 water4+200 left3+1 left4+1");
        CALLS.changes("8 200 went, and they differ", PAIR + "pour(4, 402)", "level(3)", SLOW,
            "holds+2 open+1 uses3-1 water3+200 water4-200 left3+1 left4+1");
        CALLS.changes("8 to and fro: the last of 200 goes back", PAIR + "pour(3, 1)", "level(3)", SLOW,
            "holds+2 open+1 uses3-1 left3+1 left4+1");
        CALLS.changes("8 to and fro behind 2 that went", PAIR + "pour(3, 5)", "level(3)", SLOW,
            "holds+2 open+1 uses3-1 water3-2 water4+2 left3+1 left4+1");
        CALLS.changes("8 HEIGHT is WATER / AREA, cut: 8 and 0 of AREA 9 are as high",
            "dig(0, 9); dig(1, 1); pour(0, 8)", "level(0)", "0", "holds+2 open+1 uses0-1");
        CALLS.changes("8 HEIGHT is WATER / AREA, cut: 9 and 0 are not",
            "dig(0, 9); dig(1, 1); pour(0, 9)", "level(0)", SLOW, "holds+2 open+1 uses0-1 left0+1 left1+1");
        CALLS.changes("8 one UNIT less, and both are 0 high",
            "dig(0, 9); dig(1, 2); pour(0, 9)", "level(0)", "1", "holds+2 open+1 uses0-1 water0-1 water1+1");
        CALLS.changes("8 GATE 6", "dig(6, 1); dig(7, 2); pour(7, 6)", "level(6)", "2",
            "holds+2 open+1 uses6-1 water6+2 water7-2");
    }

    private static void levelFails() {
        CALLS.changes("8 POOL g is HELD: MISSING", "dig(4, 1)", "level(3)", MISSING, "");
        CALLS.changes("8 within that POOL g + 1: MISSING",
            "dig(3, 1)", "level(3)", MISSING, "holds+1 open+1 left3+1");
        CALLS.changes("8 MISSING ahead of WORN",
            "dig(3, 1); gate(3, 0)", "level(3)", MISSING, "holds+1 open+1 left3+1");
        CALLS.changes("8 within both: WORN", PAIR + "gate(3, 0); pour(3, 8)", "level(3)", WORN,
            "holds+2 open+1 left3+1 left4+1");
        CALLS.changes("8 WORN, though nothing would go", PAIR + "gate(3, 0)", "level(3)", WORN,
            "holds+2 open+1 left3+1 left4+1");
        CALLS.changes("8 WORN ahead of SLOW", PAIR + "gate(3, 0); pour(3, 999)", "level(3)", WORN,
            "holds+2 open+1 left3+1 left4+1");
        CALLS.changes("8 the last USE", PAIR + "gate(3, 1); pour(3, 8)", "level(3)", "4",
            "holds+2 open+1 uses3-1 water3-4 water4+4");
        CALLS.changes("8 the last USE is gone if it is SLOW", PAIR + "gate(3, 1); pour(3, 402)", "level(3)", SLOW,
            "holds+2 open+1 uses3-1 water3-200 water4+200 left3+1 left4+1");
        CALLS.changes("8 SLOW before, now what is left", PAIR + "pour(3, 402); level(3) -> " + SLOW, "level(3)", "1",
            "holds+2 uses3-1 water3-1 water4+1");
        CALLS.changes("8 behind a call none is open",
            "dig(3, 1); level(3) -> " + MISSING + "; level(3) -> " + MISSING,
            "pour(3, 1)", "1", "holds+1 units+1 water3+1");
        CALLS.changes("8 behind a call none is open", PAIR + "gate(3, 0); level(3) -> " + WORN, "level(3)", WORN,
            "holds+2 left3+1 left4+1");
    }

    private static void passFits() {
        String up = PAIR + "pour(3, 8); boat(0, %d, 3)";
        CALLS.changes("9 its HEIGHT is the BOAT's DRAUGHT", up.formatted(4), "pass(0, true)", "4",
            "holds+4 open+2 uses3-1 water3-4 water4+4 boats3-1 boats4+1 boat0=4");
        CALLS.changes("9 its HEIGHT is below the BOAT's DRAUGHT", up.formatted(5), "pass(0, true)", STUCK,
            "holds+4 open+2 uses3-1 water3-4 water4+4 left3+1 left4+1");
        String down = PAIR + "pour(3, 8); boat(0, %d, 4)";
        CALLS.changes("9 down: its HEIGHT is the DRAUGHT", down.formatted(4), "pass(0, false)", "3",
            "holds+4 open+2 uses3-1 water3-4 water4+4 boats3+1 boats4-1 boat0=3");
        CALLS.changes("9 down: its HEIGHT is below the DRAUGHT", down.formatted(5), "pass(0, false)", STUCK,
            "holds+4 open+2 uses3-1 water3-4 water4+4 left3+1 left4+1");
        String berths = PAIR + "pour(3, 4); pour(4, 4); boat(0, 1, 3); boat(1, 1, 4); boat(2, 1, 4);";
        CALLS.changes("9 2 BOATS lie there", berths, "pass(0, true)", "4",
            "holds+4 open+2 uses3-1 boats3-1 boats4+1 boat0=4");
        CALLS.changes("9 3 BOATS lie there", berths + "boat(3, 1, 4)", "pass(0, true)", STUCK,
            "holds+4 open+2 uses3-1 left3+1 left4+1");
        CALLS.changes("9 one of 3 passes", berths + "boat(3, 1, 4)", "pass(2, false)", "3",
            "holds+4 open+2 uses3-1 boats3+1 boats4-1 boat2=3");
        for (int pool = 0; pool < 8; pool++) {
            String lies = all(9) + "boat(0, 9, " + pool + ")";
            if (pool < 7) {
                CALLS.run("9 a GATE above",
                    lies + "; pass(0, true) -> " + (pool + 1) + "; gate(" + pool + ", 0) -> 4");
            }
            if (pool > 0) {
                CALLS.run("9 a GATE below",
                    lies + "; pass(0, false) -> " + (pool - 1) + "; gate(" + (pool - 1) + ", 0) -> 4");
            }
        }
    }

    private static void passFails() {
        String lies = PAIR + "boat(0, 1, 3); boat(1, 1, 4);";
        CALLS.changes("9 up, WORN: POOLS 3, 3, 4 are open", lies + "gate(3, 0)", "pass(0, true)", WORN,
            "holds+3 open+2 left3+2 left4+1");
        CALLS.changes("9 down, WORN: POOLS 4, 3, 4 are open", lies + "gate(3, 0)", "pass(1, false)", WORN,
            "holds+3 open+2 left3+1 left4+2");
        CALLS.changes("9 up, SLOW", lies + "pour(3, 402)", "pass(0, true)", SLOW,
            "holds+3 open+2 uses3-1 water3-200 water4+200 left3+2 left4+1");
        CALLS.changes("9 down, SLOW", lies + "pour(3, 402)", "pass(1, false)", SLOW,
            "holds+3 open+2 uses3-1 water3-200 water4+200 left3+1 left4+2");
        CALLS.changes("9 up, MISSING: POOLS 4, 4 are open", lies, "pass(1, true)", MISSING, "holds+2 open+1 left4+2");
        CALLS.changes("9 down, MISSING: POOL 3 is open", lies, "pass(0, false)", MISSING, "holds+1 left3+1");
        CALLS.changes("9 exactly 200 go", lies + "pour(3, 400)", "pass(0, true)", "4",
            "holds+4 open+2 uses3-1 water3-200 water4+200 boats3-1 boats4+1 boat0=4");
        CALLS.changes("9 the last USE", lies + "pour(3, 2); gate(3, 1)", "pass(0, true)", "4",
            "holds+4 open+2 uses3-1 water3-1 water4+1 boats3-1 boats4+1 boat0=4");
    }

    private static void passOrder() {
        String full = PAIR + "boat(0, 9, 3); boat(1, 1, 4); boat(2, 1, 4); boat(3, 1, 4);";
        CALLS.changes("9 MISSING ahead of WORN", "dig(3, 1); boat(0, 9, 3); gate(3, 0)", "pass(0, true)", MISSING,
            "holds+2 open+1 left3+2");
        CALLS.changes("9 WORN ahead of STUCK", full + "gate(3, 0)", "pass(0, true)", WORN,
            "holds+3 open+2 left3+2 left4+1");
        CALLS.changes("9 SLOW ahead of STUCK", full + "pour(3, 1)", "pass(0, true)", SLOW,
            "holds+3 open+2 uses3-1 left3+2 left4+1");
        CALLS.changes("9 HEIGHT behind levelling: no more too low",
            PAIR + "pour(3, 8); boat(0, 4, 3)", "pass(0, true)", "4",
            "holds+4 open+2 uses3-1 water3-4 water4+4 boats3-1 boats4+1 boat0=4");
        CALLS.changes("9 HEIGHT behind levelling: no more high enough",
            PAIR + "pour(4, 8); boat(0, 5, 3)", "pass(0, true)",
            STUCK, "holds+4 open+2 uses3-1 water3+4 water4-4 left3+1 left4+1");
    }

    private static void flight() {
        CALLS.changes("10 if that is its own, there is nothing more to do",
            PAIR + "gate(3, 0); gate(2, 0); boat(0, 99, 3)",
            "flight(0, 3)", "0", "holds+1");
        CALLS.changes("10 one GATE", PAIR + "pour(3, 8); boat(0, 4, 3)", "flight(0, 4)", "1",
            "holds+6 open+4 uses3-1 water3-4 water4+4 boats3-1 boats4+1 boat0=4");
        CALLS.changes("10 one GATE down", PAIR + "pour(3, 8); boat(0, 4, 4)", "flight(0, 3)", "1",
            "holds+6 open+4 uses3-1 water3-4 water4+4 boats3+1 boats4-1 boat0=3");
        CALLS.changes("10 from the first POOL to the last", all(9) + "boat(0, 9, 0)", "flight(0, 7)", "7",
            "holds+36 open+10 uses0-1 uses1-1 uses2-1 uses3-1 uses4-1 uses5-1 uses6-1 boats0-1 boats7+1 boat0=7");
        CALLS.changes("10 from the last POOL to the first", all(9) + "boat(0, 9, 7)", "flight(0, 0)", "7",
            "holds+36 open+10 uses0-1 uses1-1 uses2-1 uses3-1 uses4-1 uses5-1 uses6-1 boats0+1 boats7-1 boat0=0");
        CALLS.changes("10 other POOLS are not asked for",
            "dig(2, 1); dig(3, 1); pour(2, 4); pour(3, 4); boat(0, 4, 2)",
            "flight(0, 3)", "1", "holds+6 open+4 uses2-1 boats2-1 boats3+1 boat0=3");
    }

    private static void flightFails() {
        for (int hole = 1; hole < 8; hole++) {
            StringBuilder left = new StringBuilder();
            for (int pool = 0; pool < hole; pool++) {
                left.append(" left" + pool + "+1");
            }
            String open = hole > 1 ? " open+" + (hole - 1) : "";
            CALLS.changes("10 all POOLS are HELD: MISSING ahead of the first PASS, and of WORN",
                all(9) + "gate(0, 0); boat(0, 1, 0); fill(" + hole + ")", "flight(0, 7)", MISSING,
                "holds+" + hole + open + left);
        }
        CALLS.changes("10 MISSING on the way down",
            "dig(0, 1); dig(2, 1); dig(3, 1); boat(0, 1, 3)", "flight(0, 0)", MISSING,
            "holds+2 open+1 left3+1 left2+1");
        String three = "dig(0, 1); dig(1, 1); dig(2, 1); pour(0, 8); pour(1, 8);";
        CALLS.changes("10 what was done ahead of it stays: WORN at the second GATE",
            three + "boat(0, 1, 0); gate(1, 0)", "flight(0, 2)", WORN,
            "holds+10 open+5 uses0-1 boats0-1 boats1+1 boat0=1 left0+1 left1+3 left2+2");
        CALLS.changes("10 WORN at the first GATE", three + "boat(0, 1, 0); gate(0, 0)", "flight(0, 2)", WORN,
            "holds+6 open+5 left0+3 left1+2 left2+1");
        CALLS.changes("10 SLOW at the second GATE", three + "boat(0, 1, 0); pour(2, 1)", "flight(0, 2)", SLOW,
            "holds+10 open+5 uses0-1 uses1-1 boats0-1 boats1+1 boat0=1 left0+1 left1+3 left2+2 water1-4 water2+4");
        CALLS.changes("10 STUCK at the second GATE", three + "boat(0, 5, 0)", "flight(0, 2)", STUCK,
            "holds+11 open+5 uses0-1 uses1-1 boats0-1 boats1+1 boat0=1 left0+1 left1+2 left2+2 water1-4 water2+4");
        CALLS.changes("10 STUCK on the way, though there are BERTHS at its end",
            three + "pour(2, 8); boat(0, 1, 0); boat(1, 1, 1); boat(2, 1, 1); boat(3, 1, 1)", "flight(0, 2)", STUCK,
            "holds+7 open+5 uses0-1 left0+2 left1+2 left2+1");
        CALLS.changes("10 STUCK at its end: 3 BOATS lie there",
            three + "pour(2, 8); boat(0, 1, 0); boat(1, 1, 2); boat(2, 1, 2); boat(3, 1, 2)", "flight(0, 2)", STUCK,
            "holds+11 open+5 uses0-1 uses1-1 boats0-1 boats1+1 boat0=1 left0+1 left1+2 left2+2");
        CALLS.changes("10 its own, with 3 BOATS in it",
            three + "boat(0, 1, 2); boat(1, 1, 2); boat(2, 1, 2)", "flight(1, 2)", "0", "holds+1");
    }

    private static void trip() {
        for (int gate = 0; gate < 7; gate++) {
            int down = 6 - gate;
            CALLS.run("11 WORN", all(9) + "boat(0, 1, 0); boat(1, 1, 7); gate(" + gate + ", 0); trip(0, 7) -> "
                + (-20 - gate) + "; where(0) -> " + gate + "; trip(1, 0) -> " + (-20 - down) + "; where(1) -> "
                + (gate + 1));
            String fleet = all(9) + "boat(7, 1, %d); boat(8, 1, %d); boat(9, 1, %d);".replace("%d", "" + (gate + 1));
            CALLS.run("11 STUCK", fleet + "boat(0, 1, 0); trip(0, 7) -> " + (-30 - gate) + "; where(0) -> " + gate);
            String fleetBelow = all(9) + "boat(7, 1, %d); boat(8, 1, %d); boat(9, 1, %d);".replace("%d", "" + gate);
            CALLS.run("11 STUCK on the way down",
                fleetBelow + "boat(0, 1, 7); trip(0, 0) -> " + (-30 - down) + "; where(0) -> " + (gate + 1));
            CALLS.run("11 SLOW", all(9) + "pour(" + (gate + 1) + ", 1); boat(0, 1, 0); trip(0, 7) -> " + (-40 - gate)
                + "; where(0) -> " + gate);
            CALLS.run("11 SLOW on the way down", all(9) + "pour(" + gate + ", 1); boat(0, 1, 7); trip(0, 0) -> "
                + (-40 - down) + "; where(0) -> " + (gate + 1));
            CALLS.run("11 MISSING",
                all(9) + "boat(0, 1, 0); fill(" + (gate + 1) + "); trip(0, 7) -> -10; where(0) -> 0");
        }
        CALLS.changes("11 as flight(): its own", PAIR + "boat(0, 9, 3)", "trip(0, 3)", "0", "holds+1");
        CALLS.changes("11 as flight(): HOLDS and LEFT of what FAILS",
            "dig(0, 1); dig(1, 1); dig(2, 1); pour(0, 8); pour(1, 8); boat(0, 5, 0)", "trip(0, 2)", "-31",
            "holds+11 open+5 uses0-1 uses1-1 boats0-1 boats1+1 boat0=1 left0+1 left1+2 left2+2 water1-4 water2+4");
        CALLS.changes("11 behind a call none is open",
            PAIR + "boat(0, 9, 3); gate(3, 0); trip(0, 4) -> -20", "trip(0, 4)",
            "-20", "holds+5 left3+3 left4+2");
        CALLS.changes("11 MISSING", PAIR + "boat(0, 9, 3)", "trip(0, 5)", "-10", "holds+2 open+1 left3+1 left4+1");
        CALLS.run("11 all the way and back",
            all(9) + "boat(9, 9, 0); trip(9, 7) -> 7; trip(9, 0) -> 7; trip(9, 0) -> 0");
    }

    private static void convoyWho() {
        String one = all(9) + "boat(%d, 1, 3);";
        for (int boat = 0; boat < 10; boat++) {
            String lies = one.formatted(boat);
            CALLS.changes("12 BOATS by bits", lies, "convoy(" + (1 << boat) + ", true)", "1",
                "holds+4 open+2 uses3-1 boats3-1 boats4+1 boat" + boat + "=4");
            CALLS.changes("12 BOATS by bits: all", lies, "convoy(1023, false)", "1",
                "holds+4 open+2 uses2-1 boats3-1 boats2+1 boat" + boat + "=2");
            CALLS.changes("12 BOATS by bits: all others", lies, "convoy(" + (1023 ^ 1 << boat) + ", true)", "0", "");
        }
        CALLS.changes("12 none is called", one.formatted(0), "convoy(0, true)", "0", "");
        CALLS.changes("12 without a GATE that way: above",
            all(9) + "boat(0, 1, 7); boat(1, 1, 6)", "convoy(3, true)", "1",
            "holds+4 open+2 uses6-1 boats6-1 boats7+1 boat1=7");
        CALLS.changes("12 without a GATE that way: below",
            all(9) + "boat(0, 1, 0); boat(1, 1, 1)", "convoy(3, false)", "1",
            "holds+4 open+2 uses0-1 boats1-1 boats0+1 boat1=0");
        CALLS.changes("12 one that lies in none ends nothing", all(9) + "boat(3, 1, 1)", "convoy(1023, true)", "1",
            "holds+4 open+2 uses1-1 boats1-1 boats2+1 boat3=2");
    }

    private static void convoyFails() {
        String two = PAIR + "boat(0, 1, 3); boat(1, 1, 3);";
        CALLS.changes("12 SLOW, then done", two + "pour(3, 402)", "convoy(1, true)", "1",
            "holds+7 open+2 uses3-2 water3-201 water4+201 left3+2 left4+1 boats3-1 boats4+1 boat0=4");
        CALLS.changes("12 the second try with just 200", two + "pour(3, 800)", "convoy(1, true)", "1",
            "holds+7 open+2 uses3-2 water3-400 water4+400 left3+2 left4+1 boats3-1 boats4+1 boat0=4");
        CALLS.changes("12 SLOW again: let be, and not tried a third time",
            two + "pour(3, 802)", "convoy(1, true)", "0",
            "holds+6 open+2 uses3-2 water3-400 water4+400 left3+4 left4+2");
        CALLS.changes("12 SLOW again: the next one goes on", two + "pour(3, 802)", "convoy(3, true)", "1",
            "holds+10 open+2 uses3-3 water3-401 water4+401 left3+4 left4+2 boats3-1 boats4+1 boat1=4");
        CALLS.changes("12 SLOW, then WORN: the convoy ends",
            two + "pour(3, 802); gate(3, 1); dig(5, 1); boat(2, 1, 4)",
            "convoy(7, true)", "0", "holds+6 open+2 uses3-1 water3-200 water4+200 left3+4 left4+2");
        CALLS.changes("12 SLOW twice with 2 USES, then WORN for the next", two + "pour(3, 802); gate(3, 2)",
            "convoy(3, true)", "0", "holds+9 open+2 uses3-2 water3-400 water4+400 left3+6 left4+3");
        CALLS.changes("12 SLOW, then STUCK: let be, the next goes on",
            all(9) + "pour(3, 402); boat(0, 1, 3); boat(1, 1, 4)"
            + "; boat(2, 1, 4); boat(3, 1, 4); boat(4, 1, 5)", "convoy(17, true)", "1",
            "holds+11 open+2 uses3-2 uses5-1 water3-201 water4+201 left3+3 left4+2 boats5-1 boats6+1 boat4=6");
        CALLS.changes("12 MISSING: let be, the next goes on", all(9) + "fill(1); boat(0, 1, 0); boat(1, 1, 3)",
            "convoy(3, true)", "1", "holds+6 open+2 left0+2 uses3-1 boats3-1 boats4+1 boat1=4");
        CALLS.changes("12 STUCK: let be, not tried again, the next goes on", all(9) + "boat(0, 10, 0); boat(1, 9, 3)",
            "convoy(3, true)", "1", "holds+8 open+2 left0+1 left1+1 uses0-1 uses3-1 boats3-1 boats4+1 boat1=4");
        CALLS.changes("12 WORN: the convoy ends", all(9) + "boat(0, 1, 2); boat(1, 1, 0); boat(2, 1, 4); gate(0, 0)",
            "convoy(7, true)", "1", "holds+7 open+2 left0+2 left1+1 uses2-1 boats2-1 boats3+1 boat0=3");
        CALLS.changes("12 WORN for the first: none", all(9) + "boat(0, 1, 0); boat(2, 1, 4); gate(0, 0)",
            "convoy(7, true)", "0", "holds+3 open+2 left0+2 left1+1");
        CALLS.changes("12 WORN for one that is not called ends nothing",
            all(9) + "boat(0, 1, 0); boat(2, 1, 4); gate(0, 0)",
            "convoy(6, true)", "1", "holds+4 open+2 uses4-1 boats4-1 boats5+1 boat2=5");
    }

    private static void convoyInTurn() {
        CALLS.changes("12 from BOAT 0 on: the last USE is for the first",
            all(9) + "boat(4, 1, 0); boat(7, 1, 0); gate(0, 1)",
            "convoy(1023, true)", "1", "holds+7 open+2 uses0-1 left0+2 left1+1 boats0-1 boats1+1 boat4=1");
        CALLS.changes("12 from BOAT 0 on: the last BERTH is for the first",
            all(9) + "boat(4, 1, 0); boat(7, 1, 0); boat(8, 1, 1); boat(9, 1, 1)", "convoy(255, true)", "1",
            "holds+8 open+2 uses0-2 left0+1 left1+1 boats0-1 boats1+1 boat4=1");
        CALLS.changes("12 a BERTH that one leaves is for the next",
            all(9) + "boat(0, 1, 1); boat(1, 1, 1); boat(2, 1, 1); boat(3, 1, 0)", "convoy(9, true)", "2",
            "holds+8 open+2 uses0-1 uses1-1 boats0-1 boats2+1 boat0=2 boat3=1");
        CALLS.changes("12 a BERTH that the next one leaves comes too late",
            all(9) + "boat(3, 1, 1); boat(1, 1, 1); boat(2, 1, 1); boat(0, 1, 0)", "convoy(9, true)", "1",
            "holds+8 open+2 uses0-1 uses1-1 left0+1 left1+1 boats1-1 boats2+1 boat3=2");
        StringBuilder fleet = new StringBuilder(all(9));
        for (int boat = 0; boat < 10; boat++) {
            fleet.append("boat(" + boat + ", 1, " + boat / 2 + ");");
        }
        // Down, pool 0 has one berth more, then none, and so on; boats 0 and 1 have no gate.
        CALLS.run("12 all ten", fleet + "convoy(1023, false) -> 7; where(2) -> 0; where(3) -> 1; where(9) -> 3"
            + "; convoy(1023, false) -> 1; where(8) -> 2; where(9) -> 3");
    }

    private static void share() {
        CALLS.changes("13 one POOL alone", "dig(3, 7); pour(3, 5)", "share(3, 3)", "5", "holds+1");
        CALLS.changes("13 no WATER", "dig(0, 2); dig(1, 3)", "share(0, 1)", "0", "holds+2 open+2");
        CALLS.changes("13 its AREA times all WATER / all AREAS, cut",
            "dig(0, 2); dig(1, 3); pour(1, 4)", "share(0, 1)", "2",
            "holds+2 open+1 water0+2 water1-2");
        CALLS.changes("13 nothing is left over", "dig(0, 2); dig(1, 3); pour(0, 5)", "share(0, 1)", "2",
            "holds+2 open+1 water0-3 water1+3");
        CALLS.changes("13 one UNIT: what is left over is the first one's",
            "dig(2, 1); dig(3, 9); pour(3, 1)", "share(2, 3)",
            "1", "holds+2 open+1 water2+1 water3-1");
        CALLS.changes("13 7 are left over",
            all(0) + "pour(7, 7)", "share(0, 7)", "7", "holds+8 open+7 water0+7 water7-7");
        CALLS.changes("13 none of 8 is left over", all(0) + "pour(7, 8)", "share(0, 7)", "1",
            "holds+8 open+7 water0+1 water1+1 water2+1 water3+1 water4+1 water5+1 water6+1 water7-7");
        // 14 units for 3 pools: 4 each, and 2 are left over.
        CALLS.changes("13 POOLS outside of them keep theirs", all(4) + "pour(3, 2)", "share(2, 4)", "6",
            "holds+3 open+2 water2+2 water3-2");
        CALLS.changes("13 all that can be poured", full(), "share(0, 7)", "9999", "holds+8 open+7");
        CALLS.changes("13 above 9999", "dig(0, 9); dig(1, 1); pour(0, 9999); pour(1, 9999)", "share(0, 1)", "17999",
            "holds+2 open+1 water0+8000 water1-8000");
        CALLS.changes("13 the first is MISSING", "dig(1, 1); pour(1, 4)", "share(0, 1)", MISSING, "");
        CALLS.changes("13 the last is MISSING", "dig(0, 1); dig(1, 1); pour(1, 4)", "share(0, 2)", MISSING,
            "holds+2 open+1 left0+1 left1+1");
        CALLS.changes("13 one between is MISSING", "dig(5, 1); dig(7, 1); pour(7, 4)", "share(5, 7)", MISSING,
            "holds+1 left5+1");
    }

    private static void first() {
        String heap = "dig(1, 1); dig(4, 2); dig(7, 3); pour(1, 3); pour(4, 9); pour(7, 17);";
        CALLS.changes("14 that at least: just that", heap, "first(3)", "1", "holds+1");
        CALLS.changes("14 that at least: one more", heap, "first(4)", "4", "holds+2");
        CALLS.changes("14 HEIGHT is cut: 17 / 3", heap, "first(5)", "7", "holds+3");
        CALLS.changes("14 NONE", heap, "first(6)", "-1", "holds+3");
        CALLS.changes("14 0", heap, "first(0)", "1", "holds+1");
        CALLS.changes("14 below 0", heap, "first(-1)", "1", "holds+1");
        CALLS.changes("14 far below", heap, "first(-2147483648)", "1", "holds+1");
        CALLS.changes("14 far above", heap, "first(2147483647)", "-1", "holds+3");
        CALLS.changes("14 HEIGHT 0", "dig(6, 9); dig(7, 1); pour(6, 8)", "first(0)", "6", "holds+1");
        CALLS.changes("14 HEIGHT 0 is not 1", "dig(6, 9); dig(7, 1); pour(6, 8)", "first(1)", "-1", "holds+2");
        CALLS.changes("14 none is DUG", "", "first(0)", "-1", "");
        CALLS.changes("14 none is DUG", "", "first(-2147483648)", "-1", "");
        CALLS.changes("14 each alone", all(0).replaceAll("pour[^;]*;", ""), "first(1)", "-1", "holds+8 open+1");
        CALLS.changes("14 the last", all(0) + "pour(7, 9999)", "first(9999)", "7", "holds+8");
        CALLS.changes("14 the last, and one more", all(0) + "pour(7, 9999)", "first(10000)", "-1", "holds+8");
    }

    private static void pool() {
        String lies =
            "dig(6, 4); pour(6, 11); boat(0, 1, 6); boat(1, 1, 6); boat(2, 1, 6); boat(3, 1, 6) -> " + STUCK + ";";
        String[] answers = {"4", "11", "2", "3", "1"};
        for (int what = 0; what < answers.length; what++) {
            CALLS.changes("15 of a POOL (not HELD for that)", lies, "pool(6, " + what + ")", answers[what], "");
        }
        for (String what : new String[] {"-1", "5", "-2147483648", "2147483647"}) {
            CALLS.changes("15 NONE for another what", lies, "pool(6, " + what + ")", "-1", "");
        }
        CALLS.run("15 of one that is just DUG",
            "dig(0, 9); pool(0, 0) -> 9; pool(0, 1) -> 0; pool(0, 2) -> 0; pool(0, 3) -> 0"
            + "; pool(0, 4) -> 0; pool(0, 5) -> -1");
        for (int area = 1; area <= 9; area++) {
            for (int water : new int[] {area - 1, area, area + 1, 9998, 9999}) {
                CALLS.run("15 HEIGHT is WATER / AREA, cut",
                    "dig(0, " + area + "); pour(0, " + water + "); pool(0, 2) -> "
                    + (water - water % area) / area);
            }
        }
        CALLS.run("15 LEFT since it was DUG", lies + "fill(6); dig(6, 4); pool(6, 4) -> 0; level(6) -> " + MISSING
            + "; pool(6, 4) -> 1; dig(6, 5) -> 0; pool(6, 4) -> 1");
    }

    private static void where() {
        for (int boat = 0; boat < 10; boat++) {
            for (int pool = 0; pool < 8; pool++) {
                CALLS.run("16 the POOL in which a BOAT lies",
                    "where(" + boat + ") -> -1; dig(" + pool + ", 1); boat(" + boat
                    + ", 1, " + pool + "); where(" + boat + ") -> " + pool + "; told(0) -> 1; fill(" + pool
                    + "); where("
                    + boat + ") -> -1");
            }
        }
        CALLS.run("16 where it went",
            all(9) + "boat(3, 1, 0); pass(3, true); where(3) -> 1; trip(3, 5); where(3) -> 5"
            + "; convoy(8, false); where(3) -> 4; boat(3, 1, 0); where(3) -> 0");
    }

    private static void told() {
        for (String what : new String[] {"-1", "4", "5", "-2147483648", "2147483647"}) {
            CALLS.changes("17 NONE for another what", full(), "told(" + what + ")", "-1", "");
        }
        CALLS.run("17 all that can be poured", full() + "told(0) -> 8; told(1) -> 1; told(2) -> 8; told(3) -> 79992");
        CALLS.run("17 nothing", "told(0) -> 0; told(1) -> 0; told(2) -> 0; told(3) -> 0");
        CALLS.run("17 open at a time, at most: it stays the most",
            "dig(0, 1); told(1) -> 0; pour(0, 1); told(1) -> 1; dig(1, 1)"
            + "; share(0, 1); told(1) -> 2; pour(0, 1); told(1) -> 2; share(0, 0); told(1) -> 2"
            + "; boat(0, 9, 0); gate(0, 0)"
            + "; pass(0, true) -> " + WORN
            + "; told(1) -> 3; trip(0, 1) -> -20; told(1) -> 5; first(9); told(1) -> 5");
        CALLS.run("17 HOLDS of what FAILS are counted, too",
            "dig(0, 1); level(0) -> " + MISSING + "; told(0) -> 1; told(1) -> 1"
            + "; share(0, 1) -> " + MISSING + "; told(0) -> 2; fill(0); told(0) -> 3; told(1) -> 1");
        CALLS.run("17 POOLS that are DUG",
            "dig(0, 1); dig(7, 1); told(2) -> 2; dig(7, 2); told(2) -> 2; fill(0); told(2) -> 1"
            + "; fill(7); told(2) -> 0");
    }

    private static void clear() {
        CALLS.changes("18 nothing to clear", "", "clear()", "0", "");
        CALLS.changes("18 all POOLS were DUG",
            full(), "clear()", "8", "holds-8 open-1 dug-8 units-79992 area0-9 area1-9 area2-9"
            + " area3-9 area4-9 area5-9 area6-9 area7-9 water0-9999 water1-9999 water2-9999 water3-9999 water4-9999"
            + " water5-9999 water6-9999 water7-9999");
        CALLS.changes("18 all is as at first",
            "dig(0, 2); boat(9, 99, 0); level(0) -> " + MISSING + "; gate(0, 0); gate(6, 99)",
            "clear()", "1", "holds-2 open-1 dug-1 area0-2 boats0-1 left0-1 boat9=-1 uses0+5 uses6-94");
        CALLS.changes("18 a second time", "dig(0, 2); pour(0, 2); clear()", "clear()", "0", "");
        CALLS.changes("18 DUG anew",
            "dig(0, 2); pour(0, 9); boat(0, 1, 0); level(0) -> " + MISSING + "; clear()", "dig(0, 3)", "1",
            "dug+1 area0+3");
        CALLS.changes("18 none is open behind it",
            PAIR + "gate(3, 0); level(3) -> " + WORN + "; clear(); dig(3, 1); dig(4, 1)",
            "level(3)", "0", "holds+2 open+2 uses3-1");
    }

    /** A hold that a call had not left would be one of those that the next failure leaves. */
    private static void noneIsOpenBehind() {
        // Pool 5 is not dug, and sharing has had 5 holds open.
        String rows = all(9) + "fill(5); share(0, 4); boat(0, 1, 1); boat(1, 99, 4); boat(2, 1, 7); gate(6, 0);";
        for (String call : new String[] {
            "dig(0, 2) -> 0", "fill(0) -> 0", "fill(5) -> " + MISSING, "pour(0, 1) -> 10",
            "pour(5, 1) -> " + MISSING, "draw(0, 3) -> 6", "draw(0, 9) -> 0", "draw(5, 3) -> " + MISSING,
            "boat(3, 1, 2) -> 1", "boat(3, 1, 5) -> " + MISSING, "gate(0, 1) -> 5", "level(0) -> 0",
            "level(4) -> " + MISSING, "level(6) -> " + WORN, "pass(0, true) -> 2", "pass(0, false) -> 0",
            "pass(1, true) -> " + MISSING, "pass(1, false) -> " + STUCK, "pass(2, false) -> " + WORN,
            "flight(0, 4) -> 3", "flight(0, 1) -> 0", "flight(0, 5) -> " + MISSING, "flight(1, 3) -> " + STUCK,
            "flight(2, 6) -> " + WORN, "trip(0, 0) -> 1", "trip(0, 6) -> -10", "trip(2, 6) -> -20",
            "trip(1, 0) -> -30",
            "convoy(1, true) -> 1", "convoy(7, false) -> 1", "convoy(2, true) -> 0", "share(0, 4) -> 9",
            "share(3, 3) -> 9",
            "share(2, 6) -> " + MISSING, "first(9) -> 0", "first(10) -> -1", "pool(0, 4) -> 0", "where(0) -> 1",
            "told(1) -> 5"}) {
            CALLS.changes("behind a call none is open: " + call, rows + call, "share(4, 5)", MISSING,
                "holds+1 left4+1");
        }
        CALLS.changes("behind SLOW none is open", PAIR + "pour(3, 1); level(3) -> " + SLOW, "share(3, 5)", MISSING,
            "holds+2 left3+1 left4+1");
        CALLS.changes("behind SLOW twice none is open",
            PAIR + "pour(3, 1); boat(0, 1, 3); convoy(1, true) -> 0", "share(3, 5)",
            MISSING, "holds+2 left3+1 left4+1");
        CALLS.changes("behind 3 others none is open",
            PAIR + "boat(0, 1, 3); boat(1, 1, 3); boat(2, 1, 3); boat(3, 1, 3) -> " + STUCK, "share(3, 5)", MISSING,
            "holds+2 open+1 left3+1 left4+1");
    }

    /** An object is used for 512 calls: the dearest ones go on as the first did. */
    private static void manyCalls() {
        CanalStairs stairs = new CanalStairs();
        for (int pool = 0; pool < 8; pool++) {
            stairs.dig(pool, 1);
            stairs.pour(pool, 9);
        }
        stairs.boat(0, 9, 0);
        int calls = 17;
        int holds = 9;
        while (calls + 9 <= 510) {
            for (int gate = 0; gate < 7; gate++) {
                stairs.gate(gate, 99);
            }
            CALLS.due("a flight up", "" + stairs.flight(0, 7), "7");
            CALLS.due("a flight down", "" + stairs.trip(0, 0), "7");
            holds += 72;
            calls += 9;
        }
        CALLS.due("HOLDS in all", "" + stairs.told(0), "" + holds);
        CALLS.due("open at a time", "" + stairs.told(1), "11");
    }

    private static String full() {
        StringBuilder rows = new StringBuilder();
        for (int pool = 0; pool < 8; pool++) {
            rows.append("dig(" + pool + ", 9); pour(" + pool + ", 9999);");
        }
        return rows.toString();
    }
}
