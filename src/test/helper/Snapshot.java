import java.util.ArrayList;
import java.util.LinkedHashMap;
import java.util.List;
import java.util.Map;

/**
 * All that can be seen of a staircase: holds and open (told 0 and 1), dug and units (told 2 and 3),
 * area, water, boats and left of each pool (all 0 if it is not dug), the pool of each boat, and uses
 * of each gate. It takes some 70 calls of the 512 that an object is used for.
 */
final class Snapshot {
    private final Map<String, Integer> numbers = new LinkedHashMap<>();

    Snapshot(CanalStairs stairs) {
        String[] told = {"holds", "open", "dug", "units"};
        for (int what = 0; what < told.length; what++) {
            numbers.put(told[what], stairs.told(what));
        }
        for (int pool = 0; pool < 8; pool++) {
            addPool(stairs, pool);
        }
        for (int boat = 0; boat < 10; boat++) {
            numbers.put("boat" + boat, stairs.where(boat));
        }
        for (int gate = 0; gate < 7; gate++) {
            int uses = stairs.gate(gate, 0);
            stairs.gate(gate, uses);
            numbers.put("uses" + gate, uses);
        }
    }

    private void addPool(CanalStairs stairs, int pool) {
        boolean dug = Calls.answer(stairs, "pool(" + pool + ", 0)").matches("[0-9]+");
        numbers.put("area" + pool, dug ? stairs.pool(pool, 0) : 0);
        numbers.put("water" + pool, dug ? stairs.pool(pool, 1) : 0);
        numbers.put("boats" + pool, dug ? stairs.pool(pool, 3) : 0);
        numbers.put("left" + pool, dug ? stairs.pool(pool, 4) : 0);
    }

    /** Words such as "holds+2", and "boat3=1" where it lies then, for every number that is another. */
    List<String> changesTo(Snapshot then) {
        List<String> words = new ArrayList<>();
        for (String name : numbers.keySet()) {
            int before = numbers.get(name);
            int after = then.numbers.get(name);
            if (before != after) {
                String sign = after > before ? "+" : "";
                words.add(name.matches("boat[0-9]") ? name + "=" + after : name + sign + (after - before));
            }
        }
        return words;
    }
}
