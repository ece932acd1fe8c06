import java.util.ArrayList;
import java.util.HashSet;
import java.util.List;
import java.util.Random;
import java.util.Set;

/** Runs of 512 calls, chosen by fixed seeds, must answer as the model of the document does. */
public final class ModelTest {
    private static final int RUNS = 200;
    private static final int CALLS_A_RUN = 512;

    private static final Calls CALLS = new Calls();
    private static final Set<String> SEEN = new HashSet<>();

    public static void main(String[] args) {
        for (int seed = 0; seed < RUNS; seed++) {
            compare(seed);
        }
        for (String answer : List.of(
                "level throws.NullPointerException", "level throws.IllegalStateException",
                "level throws.ArithmeticException", "pass throws.ArrayIndexOutOfBoundsException",
                "pass throws.UnsupportedOperationException", "flight throws.NullPointerException",
                "flight throws.IllegalStateException", "flight throws.UnsupportedOperationException",
                "flight throws.ArithmeticException", "boat throws.UnsupportedOperationException",
                "trip -10", "trip -21", "trip -31", "trip -41", "trip 7", "convoy 5")) {
            CALLS.due("the runs reach: " + answer, "" + SEEN.contains(answer), "true");
        }
        CALLS.end();
    }

    private static void compare(int seed) {
        Random random = new Random(seed);
        CanalStairs stairs = new CanalStairs();
        StairsModel model = new StairsModel();
        List<String> done = new ArrayList<>();
        for (int i = 0; i < CALLS_A_RUN; i++) {
            String call = i < 16 && seed % 2 == 0 ? opening(random, i) : choose(random);
            done.add(call);
            String want = Calls.answer(model, call);
            String got = Calls.answer(stairs, call);
            SEEN.add(call.substring(0, call.indexOf('(')) + " " + got);
            CALLS.due("seed " + seed + ", call " + i + ", " + call, got, want);
            if (!got.equals(want) || !sameState(seed, i, call, stairs, model)) {
                System.out.println(done);
                return;
            }
        }
    }

    private static boolean sameState(int seed, int i, String call, CanalStairs stairs, StairsModel model) {
        String want = state(model);
        String got = state(stairs);
        CALLS.due("seed " + seed + ", state behind call " + i + ", " + call, got, want);
        return got.equals(want);
    }

    private static String state(Object target) {
        StringBuilder text = new StringBuilder();
        for (int what = 0; what < 4; what++) {
            text.append(Calls.answer(target, "told(" + what + ")")).append(' ');
        }
        for (int pool = 0; pool < 8; pool++) {
            for (int what = 0; what < 5; what++) {
                text.append(Calls.answer(target, "pool(" + pool + ", " + what + ")")).append(' ');
            }
        }
        for (int boat = 0; boat < 10; boat++) {
            text.append(Calls.answer(target, "where(" + boat + ")")).append(' ');
        }
        return text.toString();
    }

    private static String opening(Random random, int i) {
        int pool = i / 2;
        return i % 2 == 0
            ? "dig(" + pool + ", " + (1 + random.nextInt(9)) + ")"
            : "pour(" + pool + ", " + random.nextInt(300) + ")";
    }

    private static String choose(Random random) {
        int boat = number(random, 10);
        int pool = number(random, 8);
        int gate = number(random, 7);
        boolean up = random.nextBoolean();
        switch (random.nextInt(40)) {
            case 0: case 1: case 2:
                return "dig(" + pool + ", " + (1 + number(random, 9)) + ")";
            case 3:
                return random.nextInt(3) == 0 ? "fill(" + pool + ")" : "told(" + number(random, 4) + ")";
            case 4: case 5: case 6:
                return "pour(" + pool + ", " + number(random, random.nextInt(4) == 0 ? 10000 : 120) + ")";
            case 7: case 8:
                return "draw(" + pool + ", " + number(random, 60) + ")";
            case 9: case 10: case 11: case 12: case 13: case 14:
                return "boat(" + boat + ", " + draught(random) + ", " + pool + ")";
            case 15: case 16: case 17: case 18:
                return "gate(" + gate + ", " + number(random, random.nextInt(4) == 0 ? 100 : 6) + ")";
            case 19: case 20: case 21:
                return "level(" + gate + ")";
            case 22: case 23: case 24:
                return "pass(" + boat + ", " + up + ")";
            case 25: case 26: case 27:
                return "flight(" + boat + ", " + pool + ")";
            case 28: case 29: case 30:
                return "trip(" + boat + ", " + pool + ")";
            case 31: case 32: case 33:
                return "convoy(" + number(random, 1024) + ", " + up + ")";
            case 34: case 35:
                return "share(" + pool + ", " + number(random, 8) + ")";
            case 36:
                return "first(" + number(random, 60) + ")";
            case 37:
                return "pool(" + pool + ", " + number(random, 6) + ")";
            case 38:
                return "where(" + boat + ")";
            default:
                return random.nextInt(20) == 0 ? "clear()" : "convoy(1023, " + up + ")";
        }
    }

    private static int draught(Random random) {
        return random.nextInt(3) == 0 ? 1 + number(random, 99) : 1 + number(random, 8);
    }

    /** Mostly from 0 to below the bound; now and then one of the numbers round it, or far off. */
    private static int number(Random random, int bound) {
        switch (random.nextInt(60)) {
            case 0:
                return -1;
            case 1:
                return bound;
            case 2:
                return random.nextInt(4) == 0 ? Integer.MIN_VALUE : bound - 1;
            case 3:
                return random.nextInt(4) == 0 ? Integer.MAX_VALUE : 0;
            default:
                return random.nextInt(bound);
        }
    }
}
