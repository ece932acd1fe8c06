import java.util.ArrayList;
import java.util.List;

/**
 * The document written down a second time, by other means than the class: every failure is an
 * exception, every hold a try with a finally, every unit goes by itself.
 */
final class StairsModel {
    /** What is done within a hold. */
    private interface Work {
        int run();
    }

    private static final class Pool {
        final int area;
        int water;
        int left;

        Pool(int area) {
            this.area = area;
        }

        int height() {
            return water / area;
        }
    }

    private Pool[] pools;
    private int[] uses;
    private int[] draughts;
    private Integer[] places;
    private int holds;
    private int openNow;
    private int openMost;
    private int passedGates;

    StairsModel() {
        clear();
    }

    int dig(int pool, int area) {
        Pool old = pools[pool];
        require(area >= 1 && area <= 9);
        if (old == null) {
            pools[pool] = new Pool(area);
        }
        return old == null ? 1 : 0;
    }

    int fill(int pool) {
        return held(pool, () -> {
            List<Integer> boats = boatsIn(pool);
            for (int boat : boats) {
                places[boat] = null;
            }
            pools[pool] = null;
            return boats.size();
        });
    }

    int pour(int pool, int units) {
        Pool into = pools[pool];
        require(units >= 0 && units <= 9999);
        return held(pool, () -> {
            for (int i = 0; i < units && into.water < 9999; i++) {
                into.water++;
            }
            return into.water;
        });
    }

    int draw(int pool, int height) {
        Pool from = pools[pool];
        require(height >= 0);
        return held(pool, () -> {
            int lost = 0;
            while (from.height() > height) {
                from.water--;
                lost++;
            }
            return lost;
        });
    }

    int boat(int boat, int draught, int pool) {
        Integer lay = places[boat];
        Pool there = pools[pool];
        require(draught >= 1 && draught <= 99);
        return held(pool, () -> {
            List<Integer> others = boatsIn(pool);
            others.remove(Integer.valueOf(boat));
            if (others.size() == 3) {
                throw new UnsupportedOperationException();
            }
            draughts[boat] = draught;
            places[boat] = pool;
            return others.size() + 1;
        });
    }

    int gate(int gate, int now) {
        int before = uses[gate];
        require(now >= 0 && now <= 99);
        uses[gate] = now;
        return before;
    }

    int level(int gate) {
        int looked = uses[gate];
        return held(gate, () -> held(gate + 1, () -> work(gate)));
    }

    private int work(int gate) {
        if (uses[gate] == 0) {
            throw new IllegalStateException();
        }
        uses[gate]--;
        Pool low = pools[gate];
        Pool high = pools[gate + 1];
        for (int went = 0; ; went++) {
            if (low.height() == high.height()) {
                return went;
            }
            if (went == 200) {
                throw new ArithmeticException();
            }
            Pool from = low.height() > high.height() ? low : high;
            Pool to = from == low ? high : low;
            from.water--;
            to.water++;
        }
    }

    int pass(int boat, boolean up) {
        Integer own = places[boat];
        if (own == null) {
            throw new IllegalStateException();
        }
        int gate = up ? own : own - 1;
        int looked = uses[gate];
        int behind = up ? own + 1 : own - 1;
        return held(own, () -> {
            level(gate);
            return held(behind, () -> {
                if (boatsIn(behind).size() == 3 || pools[behind].height() < draughts[boat]) {
                    throw new UnsupportedOperationException();
                }
                places[boat] = behind;
                return behind;
            });
        });
    }

    int flight(int boat, int to) {
        passedGates = 0;
        Integer own = places[boat];
        Pool looked = pools[to];
        if (own == null) {
            throw new IllegalStateException();
        }
        return flightFrom(own, boat, to);
    }

    private int flightFrom(int next, int boat, int to) {
        return held(next, () -> {
            if (next != to) {
                return flightFrom(next < to ? next + 1 : next - 1, boat, to);
            }
            while (places[boat] != to) {
                pass(boat, places[boat] < to);
                passedGates++;
            }
            return passedGates;
        });
    }

    int trip(int boat, int to) {
        try {
            return flight(boat, to);
        } catch (NullPointerException e) {
            return -10 - passedGates;
        } catch (IllegalStateException e) {
            return -20 - passedGates;
        } catch (UnsupportedOperationException e) {
            return -30 - passedGates;
        } catch (ArithmeticException e) {
            return -40 - passedGates;
        }
    }

    int convoy(int boats, boolean up) {
        require(boats >= 0 && boats <= 1023);
        int passed = 0;
        for (int boat = 0; boat < 10; boat++) {
            Integer own = places[boat];
            boolean called = (boats & 1 << boat) != 0;
            if (called && own != null && own != (up ? 7 : 0)) {
                try {
                    passed += passTwice(boat, up);
                } catch (IllegalStateException e) {
                    return passed;
                }
            }
        }
        return passed;
    }

    private int passTwice(int boat, boolean up) {
        for (int tries = 0; tries < 2; tries++) {
            try {
                pass(boat, up);
                return 1;
            } catch (ArithmeticException e) {
                continue;
            } catch (NullPointerException | UnsupportedOperationException e) {
                return 0;
            }
        }
        return 0;
    }

    int share(int from, int to) {
        Pool first = pools[from];
        Pool last = pools[to];
        require(from <= to);
        return shareFrom(from, from, to);
    }

    private int shareFrom(int next, int from, int to) {
        return held(next, () -> next < to ? shareFrom(next + 1, from, to) : shareAll(from, to));
    }

    private int shareAll(int from, int to) {
        long water = 0;
        long area = 0;
        for (int pool = from; pool <= to; pool++) {
            water += pools[pool].water;
            area += pools[pool].area;
        }
        long others = 0;
        for (int pool = from + 1; pool <= to; pool++) {
            pools[pool].water = (int) (pools[pool].area * water / area);
            others += pools[pool].water;
        }
        pools[from].water = (int) (water - others);
        return pools[from].water;
    }

    int first(int height) {
        for (int pool = 0; pool < 8; pool++) {
            Pool looked = pools[pool];
            if (looked != null && held(pool, looked::height) >= height) {
                return pool;
            }
        }
        return -1;
    }

    int pool(int pool, int what) {
        Pool looked = pools[pool];
        int area = looked.area;
        return switch (what) {
            case 0 -> area;
            case 1 -> looked.water;
            case 2 -> looked.height();
            case 3 -> boatsIn(pool).size();
            case 4 -> looked.left;
            default -> -1;
        };
    }

    int where(int boat) {
        Integer place = places[boat];
        return place == null ? -1 : place;
    }

    int told(int what) {
        int dug = 0;
        int water = 0;
        for (Pool pool : pools) {
            dug += pool == null ? 0 : 1;
            water += pool == null ? 0 : pool.water;
        }
        return switch (what) {
            case 0 -> holds;
            case 1 -> openMost;
            case 2 -> dug;
            case 3 -> water;
            default -> -1;
        };
    }

    int clear() {
        int dug = pools == null ? 0 : told(2);
        pools = new Pool[8];
        uses = new int[] {5, 5, 5, 5, 5, 5, 5};
        draughts = new int[] {1, 1, 1, 1, 1, 1, 1, 1, 1, 1};
        places = new Integer[10];
        holds = 0;
        openMost = 0;
        return dug;
    }

    private int held(int pool, Work work) {
        Pool kept = pools[pool];
        if (kept == null) {
            throw new NullPointerException();
        }
        holds++;
        openNow++;
        openMost = Math.max(openMost, openNow);
        boolean done = false;
        try {
            int answer = work.run();
            done = true;
            return answer;
        } finally {
            openNow--;
            kept.left += done ? 0 : 1;
        }
    }

    private List<Integer> boatsIn(int pool) {
        List<Integer> boats = new ArrayList<>();
        for (int boat = 0; boat < 10; boat++) {
            if (places[boat] != null && places[boat] == pool) {
                boats.add(boat);
            }
        }
        return boats;
    }

    private static void require(boolean asTold) {
        if (!asTold) {
            throw new IllegalArgumentException();
        }
    }
}
