/** Every promise by itself: ordinary inputs, the edges that the document names, wrong inputs. */
public final class PromisesTest {
    private static final String OUTSIDE = "throws.ArrayIndexOutOfBoundsException";
    private static final String WRONG = "throws.IllegalArgumentException";

    private static final Calls CALLS = new Calls();

    public static void main(String[] args) {
        newObject();
        dig();
        fill();
        pour();
        draw();
        boat();
        gate();
        level();
        pass();
        passFails();
        flight();
        trip();
        convoy();
        convoyFails();
        share();
        first();
        pool();
        where();
        told();
        clear();
        thrownFirst();
        CALLS.end();
    }

    private static void newObject() {
        for (int pool = 0; pool < 8; pool++) {
            CALLS.run("1 pools", "pool(" + pool + ", 0) -> throws.NullPointerException");
        }
        for (int boat = 0; boat < 10; boat++) {
            CALLS.run("1 boats", "where(" + boat + ") -> -1");
        }
        for (int gate = 0; gate < 7; gate++) {
            CALLS.run("1 gates", "gate(" + gate + ", 0) -> 5");
        }
        CALLS.run("1 told", "told(0) -> 0; told(1) -> 0; told(2) -> 0; told(3) -> 0");
    }

    private static void dig() {
        CALLS.run("2 areas", """
            dig(0, 1) -> 1; pool(0, 0) -> 1; pool(0, 1) -> 0; pool(0, 4) -> 0
            dig(7, 9) -> 1; pool(7, 0) -> 9
            told(2) -> 2; told(0) -> 0; told(1) -> 0
            """);
        CALLS.run("2 dug already", """
            dig(3, 4) -> 1; pour(3, 9) -> 9; boat(1, 1, 3) -> 1
            dig(3, 5) -> 0; pool(3, 0) -> 4; pool(3, 1) -> 9; pool(3, 3) -> 1
            dig(3, 0) -> throws.IllegalArgumentException
            """);
        CALLS.run("2 wrong", "dig(-1, 1) -> " + OUTSIDE + "; dig(8, 1) -> " + OUTSIDE
            + "; dig(0, 0) -> " + WRONG + "; dig(0, 10) -> " + WRONG + "; dig(0, -1) -> " + WRONG
            + "; told(2) -> 0");
    }

    private static void fill() {
        CALLS.run("3 boats lie in none", """
            dig(2, 3) -> 1; dig(3, 1) -> 1; pour(2, 7) -> 7; pour(3, 1) -> 1
            boat(0, 1, 2) -> 1; boat(9, 1, 2) -> 2; boat(4, 1, 3) -> 1
            told(0) -> 5; fill(2) -> 2; told(0) -> 6
            where(0) -> -1; where(9) -> -1; where(4) -> 3
            told(2) -> 1; told(3) -> 1; fill(3) -> 1; fill(3) -> throws.NullPointerException
            told(0) -> 7
            """);
        CALLS.run("3 dug anew", """
            dig(0, 2) -> 1; pour(0, 8) -> 8; level(0) -> throws.NullPointerException
            pool(0, 4) -> 1; fill(0) -> 0; dig(0, 5) -> 1
            pool(0, 0) -> 5; pool(0, 1) -> 0; pool(0, 3) -> 0; pool(0, 4) -> 0
            """);
        CALLS.run("3 wrong", "fill(-1) -> " + OUTSIDE + "; fill(8) -> " + OUTSIDE + "; told(0) -> 0");
    }

    private static void pour() {
        CALLS.run("4 up to 9999", """
            dig(0, 4) -> 1; pour(0, 0) -> 0; pour(0, 7) -> 7; pour(0, 9991) -> 9998
            pour(0, 1) -> 9999; pour(0, 9999) -> 9999; told(0) -> 5; told(1) -> 1
            dig(1, 4) -> 1; pour(1, 9999) -> 9999
            """);
        CALLS.run("4 more by levelling stays", """
            dig(0, 9) -> 1; dig(1, 8) -> 1; pour(0, 9999) -> 9999; pour(1, 9999) -> 9999
            level(0) -> throws.ArithmeticException; pool(0, 1) -> 10199
            pour(0, 5) -> 10199; pool(0, 1) -> 10199; pour(0, 0) -> 10199
            pour(1, 300) -> 9999
            """);
        CALLS.run("4 wrong", "pour(0, 1) -> throws.NullPointerException; told(0) -> 0; dig(0, 1) -> 1"
            + "; pour(0, -1) -> " + WRONG + "; pour(0, 10000) -> " + WRONG
            + "; pour(-1, 10000) -> " + OUTSIDE + "; pour(8, 1) -> " + OUTSIDE
            + "; pour(1, -1) -> " + WRONG + "; pool(0, 1) -> 0; told(0) -> 0");
    }

    private static void draw() {
        CALLS.run("5 one by one", """
            dig(0, 4) -> 1; pour(0, 18) -> 18; draw(0, 4) -> 0; pool(0, 1) -> 18
            draw(0, 5) -> 0; draw(0, 3) -> 3; pool(0, 1) -> 15; pool(0, 2) -> 3
            draw(0, 0) -> 12; pool(0, 1) -> 3; draw(0, 0) -> 0
            draw(0, 2147483647) -> 0; draw(0, 2147483646) -> 0; draw(0, 600000000) -> 0
            pool(0, 1) -> 3; told(0) -> 9; told(1) -> 1
            """);
        CALLS.run("5 wrong", "draw(0, 1) -> throws.NullPointerException; dig(0, 1) -> 1"
            + "; pour(0, 5) -> 5; draw(0, -1) -> " + WRONG + "; draw(0, -2147483648) -> " + WRONG
            + "; draw(8, -1) -> " + OUTSIDE + "; draw(-1, 0) -> " + OUTSIDE
            + "; draw(1, -1) -> " + WRONG + "; pool(0, 1) -> 5; told(0) -> 1");
    }

    private static void boat() {
        CALLS.run("6 wherever it lay", """
            dig(0, 1) -> 1; dig(5, 1) -> 1
            boat(0, 1, 0) -> 1; boat(1, 99, 0) -> 2; boat(9, 1, 0) -> 3
            boat(1, 1, 0) -> 3; boat(1, 1, 5) -> 1; where(1) -> 5; pool(0, 3) -> 2
            boat(1, 1, 0) -> 3; pool(5, 3) -> 0; told(0) -> 6; told(1) -> 1
            """);
        CALLS.run("6 three others", """
            dig(0, 1) -> 1; dig(1, 1) -> 1; pour(0, 9) -> 9; pour(1, 9) -> 9
            boat(0, 1, 0) -> 1; boat(1, 1, 0) -> 2; boat(2, 1, 0) -> 3; boat(3, 4, 1) -> 1
            boat(3, 99, 0) -> throws.UnsupportedOperationException
            where(3) -> 1; pool(0, 4) -> 1; pool(1, 4) -> 0; told(0) -> 7
            boat(2, 1, 1) -> 2; pass(3, false) -> 0
            """);
        CALLS.run("6 draught is kept", """
            dig(0, 1) -> 1; dig(1, 1) -> 1; pour(0, 3) -> 3; pour(1, 3) -> 3
            boat(0, 4, 0) -> 1; pass(0, true) -> throws.UnsupportedOperationException
            boat(0, 3, 0) -> 1; pass(0, true) -> 1
            """);
        CALLS.run("6 wrong", "boat(0, 1, 0) -> throws.NullPointerException; told(0) -> 0; dig(0, 1) -> 1"
            + "; boat(0, 0, 0) -> " + WRONG + "; boat(0, 100, 0) -> " + WRONG
            + "; boat(0, 0, 1) -> " + WRONG + "; boat(-1, 1, 0) -> " + OUTSIDE
            + "; boat(10, 0, 0) -> " + OUTSIDE + "; boat(0, 0, 8) -> " + OUTSIDE
            + "; boat(0, 1, -1) -> " + OUTSIDE + "; where(0) -> -1; told(0) -> 0");
        CALLS.run("6 missing changes nothing", """
            dig(0, 1) -> 1; boat(0, 1, 0) -> 1; boat(0, 1, 1) -> throws.NullPointerException
            where(0) -> 0; pool(0, 4) -> 0; told(0) -> 1
            """);
    }

    private static void gate() {
        CALLS.run("7 uses", """
            gate(0, 0) -> 5; gate(0, 99) -> 0; gate(0, 1) -> 99; gate(6, 2) -> 5; gate(6, 2) -> 2
            gate(1, 3) -> 5; told(0) -> 0
            """);
        CALLS.run("7 wrong", "gate(7, 1) -> " + OUTSIDE + "; gate(-1, 100) -> " + OUTSIDE
            + "; gate(3, -1) -> " + WRONG + "; gate(3, 100) -> " + WRONG + "; gate(3, 4) -> 5");
    }

    private static void level() {
        CALLS.run("8 both ways", """
            dig(0, 1) -> 1; dig(1, 2) -> 1; pour(0, 9) -> 9
            level(0) -> 6; pool(0, 1) -> 3; pool(1, 1) -> 6
            level(0) -> 0; gate(0, 5) -> 3
            pour(1, 10) -> 16; level(0) -> 3; pool(0, 1) -> 6; pool(1, 1) -> 13
            told(0) -> 8; told(1) -> 2; pool(0, 4) -> 0; pool(1, 4) -> 0
            """);
        CALLS.run("8 exactly 200", """
            dig(6, 1) -> 1; dig(7, 1) -> 1; pour(7, 400) -> 400
            level(6) -> 200; pool(6, 1) -> 200; pool(7, 1) -> 200
            """);
        CALLS.run("8 slow stays done", """
            dig(6, 1) -> 1; dig(7, 1) -> 1; pour(7, 402) -> 402
            level(6) -> throws.ArithmeticException; pool(6, 1) -> 200; pool(7, 1) -> 202
            pool(6, 4) -> 1; pool(7, 4) -> 1; gate(6, 5) -> 4; level(6) -> 1
            """);
        CALLS.run("8 never even", """
            dig(0, 1) -> 1; dig(1, 1) -> 1; pour(0, 1) -> 1
            level(0) -> throws.ArithmeticException; pool(0, 1) -> 1; pool(1, 1) -> 0
            """);
        CALLS.run("8 worn", """
            dig(0, 1) -> 1; dig(1, 1) -> 1; pour(0, 4) -> 4; gate(0, 1) -> 5
            level(0) -> 2; pour(0, 2) -> 4; level(0) -> throws.IllegalStateException
            pool(0, 1) -> 4; pool(0, 4) -> 1; pool(1, 4) -> 1; gate(0, 1) -> 0; told(0) -> 6
            """);
        CALLS.run("8 missing", """
            dig(1, 1) -> 1; gate(0, 0) -> 5; gate(1, 0) -> 5
            level(0) -> throws.NullPointerException; pool(1, 4) -> 0; told(0) -> 0; told(1) -> 0
            level(1) -> throws.NullPointerException; pool(1, 4) -> 1; told(0) -> 1; told(1) -> 1
            gate(0, 1) -> 0; level(0) -> throws.NullPointerException; gate(0, 1) -> 1
            """);
        CALLS.run("8 wrong", "level(-1) -> " + OUTSIDE + "; level(7) -> " + OUTSIDE + "; told(0) -> 0");
    }

    private static void pass() {
        CALLS.run("9 up and down", """
            dig(0, 1) -> 1; dig(1, 1) -> 1; pour(0, 8) -> 8; boat(3, 4, 0) -> 1
            told(0) -> 2; pass(3, true) -> 1; where(3) -> 1; told(0) -> 6; told(1) -> 3
            pool(0, 3) -> 0; pool(1, 3) -> 1; pool(0, 1) -> 4; gate(0, 5) -> 4
            pour(0, 2) -> 6; pass(3, false) -> 0; where(3) -> 0; pool(1, 1) -> 5
            pool(0, 4) -> 0; pool(1, 4) -> 0
            """);
        CALLS.run("9 no gate", "dig(0, 1) -> 1; dig(7, 1) -> 1; boat(0, 1, 0) -> 1; boat(1, 1, 7) -> 1"
            + "; pass(0, false) -> " + OUTSIDE + "; pass(1, true) -> " + OUTSIDE
            + "; told(0) -> 2; pool(0, 4) -> 0; pool(7, 4) -> 0; where(0) -> 0; where(1) -> 7");
        CALLS.run("9 wrong", "pass(-1, true) -> " + OUTSIDE + "; pass(10, false) -> " + OUTSIDE
            + "; pass(0, true) -> throws.IllegalStateException"
            + "; pass(0, false) -> throws.IllegalStateException; told(0) -> 0");
    }

    private static void passFails() {
        CALLS.run("9 stuck by draught", """
            dig(0, 1) -> 1; dig(1, 1) -> 1; pour(0, 8) -> 8; boat(0, 5, 0) -> 1
            pass(0, true) -> throws.UnsupportedOperationException; where(0) -> 0
            pool(0, 1) -> 4; pool(1, 1) -> 4; gate(0, 5) -> 4
            pool(0, 4) -> 1; pool(1, 4) -> 1; told(0) -> 6; told(1) -> 3
            """);
        CALLS.run("9 stuck by berths", """
            dig(1, 1) -> 1; dig(2, 1) -> 1; pour(1, 9) -> 9; pour(2, 9) -> 9
            boat(0, 1, 1) -> 1; boat(1, 1, 1) -> 2; boat(2, 1, 1) -> 3; boat(3, 1, 2) -> 1
            pass(3, false) -> throws.UnsupportedOperationException; where(3) -> 2
            pool(1, 4) -> 1; pool(2, 4) -> 1; pass(0, true) -> 2; pass(3, false) -> 1
            """);
        CALLS.run("9 missing", """
            dig(1, 1) -> 1; boat(0, 1, 1) -> 1
            pass(0, true) -> throws.NullPointerException; pool(1, 4) -> 2; told(0) -> 3; told(1) -> 2
            pass(0, false) -> throws.NullPointerException; pool(1, 4) -> 3; told(0) -> 4
            gate(0, 5) -> 5; gate(1, 5) -> 5
            """);
        CALLS.run("9 worn", """
            dig(0, 1) -> 1; dig(1, 1) -> 1; pour(0, 8) -> 8; boat(0, 1, 0) -> 1; gate(0, 0) -> 5
            pass(0, true) -> throws.IllegalStateException; where(0) -> 0
            pool(0, 4) -> 2; pool(1, 4) -> 1; pool(0, 1) -> 8; told(0) -> 5
            """);
        CALLS.run("9 slow", """
            dig(0, 1) -> 1; dig(1, 1) -> 1; pour(0, 500) -> 500; boat(0, 1, 0) -> 1
            pass(0, true) -> throws.ArithmeticException; where(0) -> 0; pool(1, 1) -> 200
            pool(0, 4) -> 2; pool(1, 4) -> 1; gate(0, 5) -> 4; pass(0, true) -> 1
            """);
    }

    private static void flight() {
        CALLS.run("10 up and down", """
            dig(2, 1) -> 1; dig(3, 1) -> 1; dig(4, 1) -> 1
            pour(2, 8) -> 8; pour(3, 8) -> 8; pour(4, 8) -> 8; boat(0, 8, 2) -> 1
            flight(0, 4) -> 2; where(0) -> 4; told(0) -> 15; told(1) -> 6
            flight(0, 2) -> 2; where(0) -> 2; told(0) -> 26; flight(0, 3) -> 1
            gate(2, 5) -> 2; gate(3, 5) -> 3
            pool(2, 4) -> 0; pool(3, 4) -> 0; pool(4, 4) -> 0
            """);
        CALLS.run("10 its own pool", """
            dig(2, 1) -> 1; boat(0, 9, 2) -> 1; flight(0, 2) -> 0; told(0) -> 2; told(1) -> 1
            gate(2, 0) -> 5; pool(2, 4) -> 0
            """);
        CALLS.run("10 missing ahead of all", """
            dig(2, 1) -> 1; dig(3, 1) -> 1; dig(5, 1) -> 1; pour(2, 9) -> 9; boat(0, 1, 2) -> 1
            flight(0, 5) -> throws.NullPointerException; where(0) -> 2; pool(2, 1) -> 9
            pool(2, 4) -> 1; pool(3, 4) -> 1; pool(5, 4) -> 0; told(0) -> 4; told(1) -> 2
            boat(1, 1, 5) -> 1; flight(1, 2) -> throws.NullPointerException
            pool(5, 4) -> 1; pool(3, 4) -> 1; told(0) -> 6
            """);
        CALLS.run("10 stuck on the way", """
            dig(0, 1) -> 1; dig(1, 1) -> 1; dig(2, 1) -> 1
            pour(0, 8) -> 8; pour(1, 8) -> 8; pour(2, 2) -> 2; boat(0, 6, 0) -> 1
            flight(0, 2) -> throws.UnsupportedOperationException; where(0) -> 1
            pool(1, 1) -> 5; pool(2, 1) -> 5; gate(0, 5) -> 4; gate(1, 5) -> 4
            pool(0, 4) -> 1; pool(1, 4) -> 2; pool(2, 4) -> 2
            """);
        CALLS.run("10 worn on the way", """
            dig(0, 1) -> 1; dig(1, 1) -> 1; dig(2, 1) -> 1; gate(1, 0) -> 5
            pour(0, 8) -> 8; pour(1, 8) -> 8; pour(2, 2) -> 2; boat(0, 6, 0) -> 1
            flight(0, 2) -> throws.IllegalStateException; where(0) -> 1
            pool(0, 4) -> 1; pool(1, 4) -> 3; pool(2, 4) -> 2
            """);
        CALLS.run("10 slow on the way", """
            dig(0, 1) -> 1; dig(1, 1) -> 1; dig(2, 1) -> 1
            pour(0, 8) -> 8; pour(1, 8) -> 8; pour(2, 1) -> 1; boat(0, 6, 0) -> 1
            flight(0, 2) -> throws.ArithmeticException; where(0) -> 1
            """);
        CALLS.run("10 wrong", "flight(-1, 0) -> " + OUTSIDE + "; flight(10, 0) -> " + OUTSIDE
            + "; flight(0, 8) -> " + OUTSIDE + "; flight(0, -1) -> " + OUTSIDE
            + "; flight(0, 3) -> throws.IllegalStateException; told(0) -> 0");
    }

    private static void trip() {
        String three = """
            dig(0, 1) -> 1; dig(1, 1) -> 1; dig(2, 1) -> 1
            pour(0, 8) -> 8; pour(1, 8) -> 8
            """;
        CALLS.run("11 as flight", three + """
            pour(2, 8) -> 8; boat(0, 8, 0) -> 1; trip(0, 2) -> 2; where(0) -> 2
            trip(0, 2) -> 0; trip(0, 0) -> 2; where(0) -> 0
            """);
        CALLS.run("11 missing", three + "boat(0, 1, 0) -> 1; trip(0, 3) -> -10; where(0) -> 0"
            + "; pool(0, 4) -> 1; pool(2, 4) -> 1; told(0) -> 6; told(1) -> 3");
        CALLS.run("11 worn", three + "pour(2, 8) -> 8; boat(0, 1, 0) -> 1; gate(1, 0) -> 5"
            + "; trip(0, 2) -> -21; where(0) -> 1; trip(0, 2) -> -20; pool(1, 4) -> 6");
        CALLS.run("11 stuck", three + "pour(2, 2) -> 2; boat(0, 6, 0) -> 1"
            + "; trip(0, 2) -> -31; where(0) -> 1; trip(0, 2) -> -30; trip(0, 0) -> -40");
        CALLS.run("11 slow", three + "pour(2, 1) -> 1; boat(0, 1, 0) -> 1; trip(0, 2) -> -41"
            + "; where(0) -> 1; trip(0, 2) -> -40; pool(0, 4) -> 1; pool(1, 4) -> 6; pool(2, 4) -> 4");
        CALLS.run("11 lies in none", "trip(0, 0) -> -20; trip(0, 7) -> -20; told(0) -> 0");
        CALLS.run("11 the longest", all(9) + "boat(0, 9, 0) -> 1; gate(6, 0) -> 5; trip(0, 7) -> -26"
            + "; where(0) -> 6; gate(6, 1) -> 0; trip(0, 7) -> 1; trip(0, 0) -> -20"
            + "; gate(6, 1) -> 0; trip(0, 0) -> 7; told(1) -> 11");
        CALLS.run("11 wrong", "trip(-1, 0) -> " + OUTSIDE + "; trip(10, 0) -> " + OUTSIDE
            + "; trip(0, 8) -> " + OUTSIDE + "; trip(0, -1) -> " + OUTSIDE);
    }

    private static String all(int height) {
        StringBuilder rows = new StringBuilder();
        for (int pool = 0; pool < 8; pool++) {
            rows.append("dig(" + pool + ", 1) -> 1; pour(" + pool + ", " + height + ") -> " + height + ";");
        }
        return rows.toString();
    }

    private static void convoy() {
        CALLS.run("12 by bits", all(9) + """
            boat(0, 1, 0) -> 1; boat(1, 1, 0) -> 2; boat(9, 1, 0) -> 3; boat(5, 1, 3) -> 1
            convoy(0, true) -> 0; told(0) -> 12; convoy(513, true) -> 2
            where(0) -> 1; where(1) -> 0; where(9) -> 1; where(5) -> 3
            told(0) -> 20; told(1) -> 3; convoy(1023, true) -> 4
            where(0) -> 2; where(1) -> 1; where(9) -> 2; where(5) -> 4
            convoy(1023, false) -> 4; where(1) -> 0
            """);
        CALLS.run("12 no gate that way", all(9) + """
            boat(0, 1, 0) -> 1; boat(1, 1, 7) -> 1; boat(2, 1, 7) -> 2; told(0) -> 11
            convoy(7, false) -> 2; where(0) -> 0; where(1) -> 6; where(2) -> 6
            told(0) -> 19; boat(1, 1, 7) -> 1; convoy(3, true) -> 1; where(0) -> 1; where(1) -> 7
            told(0) -> 24; pool(7, 4) -> 0
            """);
        CALLS.run("12 wrong", "convoy(-1, true) -> " + WRONG + "; convoy(1024, false) -> " + WRONG
            + "; convoy(1023, false) -> 0; told(0) -> 0");
    }

    private static void convoyFails() {
        CALLS.run("12 slow, then done", """
            dig(0, 1) -> 1; dig(1, 1) -> 1; pour(0, 500) -> 500; boat(0, 1, 0) -> 1
            convoy(1, true) -> 1; where(0) -> 1; gate(0, 5) -> 3; told(0) -> 9
            pool(0, 4) -> 2; pool(1, 4) -> 1
            """);
        CALLS.run("12 slow twice is let be", """
            dig(0, 1) -> 1; dig(1, 1) -> 1; pour(0, 1200) -> 1200
            boat(0, 1, 0) -> 1; boat(1, 1, 0) -> 2
            convoy(3, true) -> 1; where(0) -> 0; where(1) -> 1; gate(0, 5) -> 2; pool(0, 4) -> 4
            """);
        CALLS.run("12 slow, then worn", """
            dig(0, 1) -> 1; dig(1, 1) -> 1; dig(2, 1) -> 1; pour(0, 500) -> 500
            boat(0, 1, 0) -> 1; boat(1, 1, 1) -> 1; gate(0, 1) -> 5
            convoy(3, true) -> 0; where(1) -> 1; gate(1, 5) -> 5; gate(0, 5) -> 0; pool(0, 4) -> 4
            """);
        CALLS.run("12 slow, then stuck", """
            dig(0, 1) -> 1; dig(1, 1) -> 1; dig(2, 1) -> 1; pour(0, 500) -> 500
            boat(0, 1, 1) -> 1; boat(1, 1, 1) -> 2; boat(2, 1, 1) -> 3
            boat(3, 1, 0) -> 1; boat(4, 1, 2) -> 1
            convoy(8, true) -> 0; where(3) -> 0; gate(0, 5) -> 3; pool(0, 4) -> 3; pool(1, 4) -> 2
            """);
        CALLS.run("12 missing and stuck are let be", all(9) + """
            fill(1) -> 0; boat(0, 1, 0) -> 1; boat(1, 50, 3) -> 1; boat(2, 9, 5) -> 1
            convoy(7, true) -> 1; where(0) -> 0; where(1) -> 3; where(2) -> 6
            pool(0, 4) -> 2; pool(3, 4) -> 1; pool(4, 4) -> 1; pool(5, 4) -> 0; pool(6, 4) -> 0
            """);
        CALLS.run("12 worn ends it", all(9) + """
            boat(0, 1, 0) -> 1; boat(1, 1, 3) -> 1; boat(2, 1, 5) -> 1; gate(3, 0) -> 5
            convoy(7, true) -> 1; where(0) -> 1; where(1) -> 3; where(2) -> 5; gate(5, 5) -> 5
            pool(3, 4) -> 2; pool(4, 4) -> 1
            """);
    }

    private static void share() {
        CALLS.run("13 by areas", """
            dig(1, 2) -> 1; dig(2, 3) -> 1; dig(3, 4) -> 1; pour(2, 17) -> 17
            share(1, 3) -> 5; pool(1, 1) -> 5; pool(2, 1) -> 5; pool(3, 1) -> 7; told(3) -> 17
            told(0) -> 4; told(1) -> 3; share(2, 2) -> 5; told(0) -> 5
            share(2, 3) -> 6; pool(3, 1) -> 6; pool(1, 1) -> 5; pool(1, 4) -> 0
            """);
        CALLS.run("13 more than 9999 stays", """
            dig(0, 1) -> 1; dig(1, 9) -> 1; pour(0, 9999) -> 9999; pour(1, 9999) -> 9999
            share(0, 1) -> 2000; pool(1, 1) -> 17998; pour(1, 1) -> 17998
            """);
        CALLS.run("13 missing", """
            dig(0, 1) -> 1; dig(1, 9) -> 1; dig(3, 1) -> 1; pour(0, 9) -> 9
            share(0, 3) -> throws.NullPointerException; pool(0, 1) -> 9
            pool(0, 4) -> 1; pool(1, 4) -> 1; pool(3, 4) -> 0; told(0) -> 3; told(1) -> 2
            """);
        CALLS.run("13 wrong", "share(1, 0) -> " + WRONG + "; share(-1, 0) -> " + OUTSIDE
            + "; share(0, 8) -> " + OUTSIDE + "; share(8, 0) -> " + OUTSIDE
            + "; share(0, -1) -> " + OUTSIDE + "; told(0) -> 0");
    }

    private static void first() {
        CALLS.run("14 each alone", """
            dig(1, 1) -> 1; dig(4, 2) -> 1; dig(7, 1) -> 1
            pour(1, 3) -> 3; pour(4, 9) -> 9; pour(7, 20) -> 20
            first(0) -> 1; told(0) -> 4; first(3) -> 1; told(0) -> 5
            first(4) -> 4; told(0) -> 7; first(5) -> 7; told(0) -> 10; first(20) -> 7; told(0) -> 13
            first(21) -> -1; told(0) -> 16; told(1) -> 1; first(-2147483648) -> 1
            first(2147483647) -> -1; pool(1, 4) -> 0; pool(7, 4) -> 0
            dig(0, 9) -> 1; first(0) -> 0; first(1) -> 1; pour(0, 9) -> 9; first(1) -> 0
            """);
        CALLS.run("14 none is dug", "first(0) -> -1; first(-5) -> -1; told(0) -> 0; told(1) -> 0");
    }

    private static void pool() {
        CALLS.run("15 what", """
            dig(6, 4) -> 1; pour(6, 11) -> 11; boat(0, 1, 6) -> 1; boat(1, 1, 6) -> 2
            pass(0, true) -> throws.NullPointerException
            pool(6, 0) -> 4; pool(6, 1) -> 11; pool(6, 2) -> 2; pool(6, 3) -> 2; pool(6, 4) -> 2
            pool(6, 5) -> -1; pool(6, -1) -> -1; told(0) -> 5
            """);
        CALLS.run("15 wrong", "pool(-1, 0) -> " + OUTSIDE + "; pool(8, 9) -> " + OUTSIDE
            + "; pool(0, 0) -> throws.NullPointerException; pool(0, 9) -> throws.NullPointerException");
    }

    private static void where() {
        CALLS.run("16", "dig(7, 1) -> 1; boat(9, 1, 7) -> 1; where(9) -> 7; where(8) -> -1"
            + "; told(0) -> 1; where(-1) -> " + OUTSIDE + "; where(10) -> " + OUTSIDE);
    }

    private static void told() {
        CALLS.run("17", """
            told(-1) -> -1; told(4) -> -1; told(2147483647) -> -1
            dig(0, 1) -> 1; dig(7, 2) -> 1; pour(0, 4) -> 4; pour(7, 5) -> 5
            told(0) -> 2; told(1) -> 1; told(2) -> 2; told(3) -> 9
            share(0, 0) -> 4; told(1) -> 1; fill(7) -> 0; told(2) -> 1; told(3) -> 4
            level(0) -> throws.NullPointerException; told(0) -> 5; told(1) -> 1
            """);
    }

    private static void clear() {
        CALLS.run("18", """
            dig(0, 1) -> 1; dig(1, 1) -> 1; pour(0, 4) -> 4; boat(2, 2, 0) -> 1; pass(2, true) -> 1
            gate(3, 99) -> 5; boat(2, 99, 1) -> 1; level(1) -> throws.NullPointerException
            clear() -> 2; clear() -> 0; where(2) -> -1; gate(0, 1) -> 5; gate(3, 1) -> 5
            told(0) -> 0; told(1) -> 0; told(2) -> 0; told(3) -> 0; first(0) -> -1
            pool(1, 4) -> throws.NullPointerException
            dig(1, 3) -> 1; pool(1, 0) -> 3; pool(1, 1) -> 0; pool(1, 3) -> 0; pool(1, 4) -> 0
            pour(1, 1) -> 1; told(0) -> 1; told(1) -> 1
            """);
    }

    private static void thrownFirst() {
        CALLS.run("what is wrong changes nothing", all(9) + "boat(0, 1, 0) -> 1; told(0) -> 9"
            + "; boat(0, 0, 1) -> " + WRONG + "; boat(0, 1, 8) -> " + OUTSIDE + "; where(0) -> 0"
            + "; gate(0, 100) -> " + WRONG + "; gate(0, 5) -> 5; dig(0, 99) -> " + WRONG
            + "; share(3, 2) -> " + WRONG + "; convoy(1024, true) -> " + WRONG
            + "; flight(0, 8) -> " + OUTSIDE + "; trip(0, 8) -> " + OUTSIDE
            + "; told(0) -> 9; told(1) -> 1; pool(0, 4) -> 0; told(3) -> 72");
    }
}
