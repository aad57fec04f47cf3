import java.util.ArrayList;
import java.util.Arrays;
import java.util.HashSet;
import java.util.List;
import java.util.Set;
import java.util.TreeMap;
import java.util.TreeSet;

/** The document's answers worked out another way: state by state, with the Java library, at any cost. */
final class Reference {
    static final class Person {
        String name;
        int cell;
        int look;
        int far;
        Set<Integer> watchers = new TreeSet<>();
        Set<Integer> viewers = new TreeSet<>();
        /** Kind and WAY of the move in each minute. */
        int[][] script = new int[61][2];
    }

    static final int STILL = 0;
    static final int STEP = 1;
    static final int SLOW = 2;
    static final int TURN = 3;
    static final int SIGN = 4;
    static final int[][] COMPASS = {{0, -1}, {1, -1}, {1, 0}, {1, 1}, {0, 1}, {-1, 1}, {-1, 0}, {-1, -1}};

    int width;
    int height;
    boolean[] wall = new boolean[0];
    int[] sways = new int[0];
    List<int[]> carts = new ArrayList<>();
    List<Integer> lamps = new ArrayList<>();
    List<Person> people = new ArrayList<>();
    int[] seen = {4, 8, 2, 16};

    int[][] at;
    int[][] looks;
    int[][] did;
    int[][] cartAt;
    List<Integer> path;

    int cells() {
        return width * height;
    }

    int go(int cell, int way) {
        int x = cell % width + COMPASS[way][0];
        int y = cell / width + COMPASS[way][1];
        return x < 0 || y < 0 || x >= width || y >= height ? -1 : y * width + x;
    }

    void simulate() {
        int n = people.size();
        at = new int[n][61];
        looks = new int[n][61];
        did = new int[n][61];
        for (int p = 0; p < n; p++) {
            Person one = people.get(p);
            at[p][0] = one.cell;
            looks[p][0] = one.look;
            for (int t = 1; t <= 60; t++) {
                at[p][t] = at[p][t - 1];
                looks[p][t] = looks[p][t - 1];
                int kind = one.script[t][0];
                int way = one.script[t][1];
                if (kind == STEP || kind == SLOW) {
                    int goal = go(at[p][t], way);
                    if (goal < 0 || wall[goal]) {
                        continue;
                    }
                    at[p][t] = goal;
                }
                did[p][t] = kind;
                if (kind == STEP || kind == SLOW || kind == TURN) {
                    looks[p][t] = way;
                }
            }
        }
        cartAt = new int[carts.size()][61];
        for (int c = 0; c < carts.size(); c++) {
            int[] cart = carts.get(c);
            cartAt[c][0] = cart[0];
            for (int t = 1; t <= 60; t++) {
                int goal = go(cartAt[c][t - 1], cart[1 + (t - 1) % (cart.length - 1)]);
                cartAt[c][t] = goal < 0 ? cartAt[c][t - 1] : goal;
            }
        }
    }

    int off(int a, int b) {
        return Math.max(Math.abs(a % width - b % width), Math.abs(a / width - b / width));
    }

    boolean open(int from, int to, int minute, boolean withCarts) {
        int dx = to % width - from % width;
        int dy = to / width - from / width;
        int n = off(from, to);
        for (int k = 1; k < n; k++) {
            int x = from % width + (int) Math.floor((double) k * dx / n + 0.5);
            int y = from / width + (int) Math.floor((double) k * dy / n + 0.5);
            int cell = y * width + x;
            if (wall[cell]) {
                return false;
            }
            for (int[] cart : cartAt) {
                if (withCarts && cart[minute] == cell) {
                    return false;
                }
            }
        }
        return true;
    }

    boolean inSight(int from, int look, int far, int to, int minute) {
        int dx = to % width - from % width;
        int dy = to / width - from / width;
        int f = dx * COMPASS[look][0] + dy * COMPASS[look][1];
        int s = Math.abs(dx * COMPASS[look][1] - dy * COMPASS[look][0]);
        return from != to && off(from, to) <= far && f > 0 && s <= f && open(from, to, minute, true);
    }

    boolean sees(int who, int cell, int minute) {
        return inSight(at[who][minute], looks[who][minute], people.get(who).far, cell, minute);
    }

    boolean movedItself(int who, int minute) {
        return did[who][minute] == STEP || did[who][minute] == SLOW || did[who][minute] == TURN;
    }

    int weightOn(int who, int cell, int kind, int minute) {
        if (!sees(who, cell, minute)) {
            return 0;
        }
        int plain = 0;
        if (kind == STEP) {
            plain = 16;
        } else if (kind == SLOW) {
            plain = seen[0];
        } else if (kind == TURN) {
            plain = seen[1];
        } else if (kind == SIGN) {
            plain = seen[2];
        } else if (movedItself(who, minute)) {
            plain = seen[3];
        }
        return sways[cell] < 0 ? plain : plain * (16 - sways[cell]) / 16;
    }

    int weight(int who, int whom, int minute) {
        return weightOn(who, at[whom][minute], did[whom][minute], minute);
    }

    long sight(int who, int minute) {
        long set = 0;
        for (int c = 0; c < cells(); c++) {
            set |= sees(who, c, minute) ? 1L << c : 0;
        }
        return set;
    }

    int unseen(int person, int by, int minute) {
        long v = 1000000;
        for (int t = 1; t <= minute; t++) {
            v = v * (16 - weight(by, person, t)) / 16;
        }
        return (int) v;
    }

    boolean isNear(int person, int by, int t) {
        return off(at[person][t], at[by][t]) <= people.get(by).far && weight(by, person, t) == 0;
    }

    int near(int person, int by, int minute) {
        int n = 0;
        for (int t = 1; t <= minute; t++) {
            if (isNear(person, by, t)) {
                n++;
            }
        }
        return n;
    }

    int stood(int person, int by) {
        StringBuilder row = new StringBuilder();
        for (int t = 1; t <= 60; t++) {
            row.append(isNear(person, by, t) ? 'x' : ' ');
        }
        int most = 0;
        for (String run : row.toString().split(" +")) {
            most = Math.max(most, run.length());
        }
        return most;
    }

    int first(int who, int whom, int weight) {
        for (int t = 1; t <= 60; t++) {
            if (weight(who, whom, t) >= weight) {
                return t;
            }
        }
        return -1;
    }

    int[] judged() {
        for (int t = 1; t <= 60; t++) {
            for (int who = 0; who < people.size(); who++) {
                for (int by : people.get(who).watchers) {
                    if (weight(by, who, t) > 0) {
                        return new int[] {t, who, by};
                    }
                }
            }
        }
        return null;
    }

    /** Moves of one who goes: kind and CELL behind it. */
    List<int[]> movesFrom(int cell, int... kinds) {
        List<int[]> all = new ArrayList<>();
        for (int kind : kinds) {
            if (kind == STEP || kind == SLOW) {
                for (int way = 0; way < 8; way++) {
                    int goal = go(cell, way);
                    if (goal >= 0 && !wall[goal]) {
                        all.add(new int[] {kind, goal});
                    }
                }
            } else {
                all.add(new int[] {kind, cell});
            }
        }
        return all;
    }

    boolean unwatched(int person, int cell, int kind, int t) {
        for (int by : people.get(person).watchers) {
            if (weightOn(by, cell, kind, t) > 0) {
                return false;
            }
        }
        return true;
    }

    /** Keeps of each CELL the first way to it, minute by minute. */
    int way(int person, int goal) {
        TreeMap<Integer, List<Integer>> now = new TreeMap<>();
        now.put(people.get(person).cell, List.of(people.get(person).cell));
        for (int t = 0; t <= 60; t++) {
            if (now.containsKey(goal)) {
                path = now.get(goal);
                return t;
            }
            TreeMap<Integer, List<Integer>> next = new TreeMap<>();
            for (int cell : now.keySet()) {
                for (int[] move : movesFrom(cell, STILL, SLOW, STEP)) {
                    if (t < 60 && unwatched(person, move[1], move[0], t + 1)) {
                        List<Integer> longer = new ArrayList<>(now.get(cell));
                        longer.add(move[1]);
                        List<Integer> old = next.get(move[1]);
                        if (old == null || compare(longer, old) < 0) {
                            next.put(move[1], longer);
                        }
                    }
                }
            }
            now = next;
        }
        return -1;
    }

    private static int compare(List<Integer> a, List<Integer> b) {
        for (int i = 0; i < a.size(); i++) {
            int sign = Integer.compare(a.get(i), b.get(i));
            if (sign != 0) {
                return sign;
            }
        }
        return 0;
    }

    /** Keeps all that UNSEEN may be on each CELL. */
    int likeliest(int person, int goal, int minutes) {
        Set<List<Integer>> now = new HashSet<>();
        now.add(List.of(people.get(person).cell, 1000000));
        for (int t = 1; t <= minutes; t++) {
            Set<List<Integer>> next = new HashSet<>();
            for (List<Integer> state : now) {
                for (int[] move : movesFrom(state.get(0), STILL, SLOW, STEP)) {
                    int v = state.get(1);
                    for (int by : people.get(person).watchers) {
                        v = v * (16 - weightOn(by, move[1], move[0], t)) / 16;
                    }
                    next.add(List.of(move[1], v));
                }
            }
            now = next;
        }
        int most = -1;
        for (List<Integer> state : now) {
            if (state.get(0) == goal) {
                most = Math.max(most, state.get(1));
            }
        }
        return most;
    }

    int shown(int person) {
        int wanted = 0;
        for (int v : people.get(person).viewers) {
            wanted |= 1 << v;
        }
        if (wanted == 0) {
            return 0;
        }
        Set<List<Integer>> now = new HashSet<>();
        now.add(List.of(people.get(person).cell, 0));
        for (int t = 1; t <= 60; t++) {
            Set<List<Integer>> next = new HashSet<>();
            for (List<Integer> state : now) {
                for (int[] move : movesFrom(state.get(0), STILL, SIGN, SLOW, STEP)) {
                    if (unwatched(person, move[1], move[0], t)) {
                        int by = state.get(1);
                        for (int v : people.get(person).viewers) {
                            by |= weightOn(v, move[1], move[0], t) == 16 ? 1 << v : 0;
                        }
                        if (by == wanted) {
                            return t;
                        }
                        next.add(List.of(move[1], by));
                    }
                }
            }
            now = next;
        }
        return -1;
    }

    int found(int person, long goals) {
        if (goals == 0) {
            return 0;
        }
        int far = people.get(person).far;
        Set<List<Long>> now = new HashSet<>();
        now.add(List.of((long) people.get(person).cell, 0L));
        for (int t = 1; t <= 30; t++) {
            Set<List<Long>> next = new HashSet<>();
            for (List<Long> state : now) {
                int cell = (int) (long) state.get(0);
                for (int way = 0; way < 8; way++) {
                    int goal = go(cell, way);
                    for (int to : new int[] {cell, goal}) {
                        if (to >= 0 && !wall[to]) {
                            long all = state.get(1);
                            for (int c = 0; c < cells(); c++) {
                                if ((goals >>> c & 1) != 0 && inSight(to, way, far, c, t)) {
                                    all |= 1L << c;
                                }
                            }
                            if (all == goals) {
                                return t;
                            }
                            next.add(List.of((long) to, all));
                        }
                    }
                }
            }
            now = next;
        }
        return -1;
    }

    long mayBe(int who, int cell, int minutes) {
        Set<Integer> now = new TreeSet<>(List.of(cell));
        for (int t = 1; t <= minutes; t++) {
            Set<Integer> next = new TreeSet<>();
            for (int one : now) {
                if (!(sees(who, one, t) && movedItself(who, t) && seen[3] > 0)) {
                    next.add(one);
                }
                for (int[] move : movesFrom(one, STEP)) {
                    if (!sees(who, move[1], t)) {
                        next.add(move[1]);
                    }
                }
            }
            now = next;
        }
        long set = 0;
        for (int one : now) {
            set |= 1L << one;
        }
        return set;
    }

    int meeting(int a, int b) {
        Set<List<Integer>> now = new HashSet<>();
        now.add(List.of(people.get(a).cell, people.get(b).cell, 0));
        for (int t = 1; t <= 30; t++) {
            Set<List<Integer>> next = new HashSet<>();
            for (List<Integer> state : now) {
                for (int[] moveA : movesFrom(state.get(0), STILL, STEP)) {
                    for (int[] moveB : movesFrom(state.get(1), STILL, STEP)) {
                        int known = state.get(2);
                        known |= moveB[0] == STEP && allRound(a, moveA[1], moveB[1], t) ? 1 : 0;
                        known |= moveA[0] == STEP && allRound(b, moveB[1], moveA[1], t) ? 2 : 0;
                        if (known == 3) {
                            return t;
                        }
                        next.add(List.of(moveA[1], moveB[1], known));
                    }
                }
            }
            now = next;
        }
        return -1;
    }

    private boolean allRound(int who, int from, int to, int t) {
        return from != to && off(from, to) <= people.get(who).far && open(from, to, t, true);
    }

    /** Values settle from below: 9999 is never. */
    int hunted(int hunter, int hider) {
        int n = cells();
        int[][] value = new int[n][n];
        for (int[] row : value) {
            Arrays.fill(row, 9999);
        }
        for (int c = 0; c < n; c++) {
            value[c][c] = 0;
        }
        for (boolean more = true; more;) {
            more = false;
            for (int h = 0; h < n; h++) {
                for (int d = 0; d < n; d++) {
                    if (h != d && !wall[h] && !wall[d]) {
                        int best = 9999;
                        for (int[] step : movesFrom(h, STILL, STEP)) {
                            int worst = 0;
                            if (step[1] != d) {
                                for (int[] flight : movesFrom(d, STILL, STEP)) {
                                    worst = Math.max(worst, value[step[1]][flight[1]]);
                                }
                            }
                            best = Math.min(best, 1 + worst);
                        }
                        best = Math.min(best, 9999);
                        if (best < value[h][d]) {
                            value[h][d] = best;
                            more = true;
                        }
                    }
                }
            }
        }
        return value[hunter][hider] == 9999 ? -1 : value[hunter][hider];
    }

    private static List<Integer> setsBySize(int members) {
        List<Integer> sets = new ArrayList<>();
        for (int set = 0; set < 1 << members; set++) {
            sets.add(set);
        }
        sets.sort((a, b) -> Integer.bitCount(a) != Integer.bitCount(b)
            ? Integer.compare(Integer.bitCount(a), Integer.bitCount(b)) : Integer.compare(a, b));
        return sets;
    }

    int lamps(int n) {
        for (int set : setsBySize(lamps.size())) {
            boolean enough = true;
            for (int p = 0; p < people.size(); p++) {
                int count = 0;
                for (int l = 0; l < lamps.size(); l++) {
                    count += (set >>> l & 1) != 0 && sees(p, lamps.get(l), 0) ? 1 : 0;
                }
                enough &= count >= n;
            }
            if (enough) {
                return set;
            }
        }
        return -1;
    }

    int gallery(int n) {
        for (int set : setsBySize(people.size())) {
            boolean enough = true;
            for (int c = 0; c < cells(); c++) {
                int count = 0;
                for (int p = 0; p < people.size(); p++) {
                    count += (set >>> p & 1) != 0 && (sees(p, c, 0) || at[p][0] == c) ? 1 : 0;
                }
                enough &= wall[c] || count >= n;
            }
            if (enough) {
                return set;
            }
        }
        return -1;
    }

    /** Level by level: which of the words left, the most used first, end at this length. */
    static int words(int[] uses, int kinds) {
        int[] sorted = uses.clone();
        Arrays.sort(sorted);
        int[] falling = new int[sorted.length];
        int all = 0;
        for (int i = 0; i < sorted.length; i++) {
            falling[i] = sorted[sorted.length - 1 - i];
            all += falling[i];
        }
        return all + level(falling, 0, kinds, kinds);
    }

    private static int level(int[] uses, int from, int slots, int kinds) {
        if (slots >= uses.length - from) {
            return 0;
        }
        int rest = 0;
        for (int i = from; i < uses.length; i++) {
            rest += uses[i];
        }
        int best = Integer.MAX_VALUE;
        for (int ends = 0; ends < slots; ends++) {
            best = Math.min(best, rest + level(uses, from + ends, (slots - ends) * kinds, kinds));
            rest -= uses[from + ends];
        }
        return best;
    }

    int moving(int t) {
        int n = 0;
        for (int[] row : did) {
            n += row[t] != STILL ? 1 : 0;
        }
        for (int[] row : cartAt) {
            n += row[t] != row[t - 1] ? 1 : 0;
        }
        return n;
    }

    int gone(int person) {
        int n = 0;
        for (int t = 1; t <= 60; t++) {
            boolean any = false;
            for (int other = 0; other < people.size(); other++) {
                any |= other != person && weight(person, other, t) > 0;
            }
            for (int[] row : cartAt) {
                any |= row[t] != row[t - 1] && sees(person, row[t], t);
            }
            n += any ? 0 : 1;
        }
        return n;
    }

    int stands(int person, int t) {
        int set = 0;
        for (int other = 0; other < people.size(); other++) {
            set |= other != person && sees(person, at[other][t], t) ? 1 << other : 0;
        }
        return set;
    }

    int followed(int person, int whom, int far) {
        Set<Integer> now = new TreeSet<>(List.of(people.get(person).cell));
        for (int t = 1; t <= 60; t++) {
            Set<Integer> next = new TreeSet<>();
            for (int cell : now) {
                for (int[] move : movesFrom(cell, STILL, SLOW, STEP)) {
                    if (off(move[1], at[whom][t]) <= far && weightOn(whom, move[1], move[0], t) == 0) {
                        next.add(move[1]);
                    }
                }
            }
            if (next.isEmpty()) {
                return t - 1;
            }
            now = next;
        }
        return 60;
    }

    int signs(int person, int by, int most) {
        long v = 1000000;
        for (int t = 1; t <= 60; t++) {
            v = v * (16 - weightOn(by, people.get(person).cell, SIGN, t)) / 16;
            if (v <= most) {
                return t;
            }
        }
        return -1;
    }

    int swept(int person, int minutes) {
        Set<Integer> all = new TreeSet<>();
        int cell = people.get(person).cell;
        for (int t = 1; t <= minutes; t++) {
            Set<Integer> best = new TreeSet<>();
            int bestCell = cell;
            for (int choice = 0; choice < 16; choice++) {
                int way = choice % 8;
                int goal = choice < 8 ? cell : go(cell, way);
                if (goal < 0 || wall[goal]) {
                    continue;
                }
                Set<Integer> fresh = new TreeSet<>();
                for (int c = 0; c < cells(); c++) {
                    if (!all.contains(c) && inSight(goal, way, people.get(person).far, c, t)) {
                        fresh.add(c);
                    }
                }
                if (fresh.size() > best.size()) {
                    best = fresh;
                    bestCell = goal;
                }
            }
            all.addAll(best);
            cell = bestCell;
        }
        return all.size();
    }

    /** Whom each one saw; behind them how often all saw, and how many who hide were seen by a watcher. */
    int[] day(int seed) {
        int n = people.size();
        int[] answer = new int[n + 2];
        long s = seed;
        for (int t = 1; t <= 60; t++) {
            for (int who = 0; who < n; who++) {
                for (int whom = 0; whom < n; whom++) {
                    int weight = who == whom ? 0 : weight(who, whom, t);
                    if (weight > 0) {
                        s = (s * 2677 + 9029) % 65536;
                        if (s / 8 % 16 < weight) {
                            answer[who] |= 1 << whom;
                            answer[n]++;
                        }
                    }
                }
            }
        }
        for (int p = 0; p < n; p++) {
            boolean any = false;
            for (int by : people.get(p).watchers) {
                any |= (answer[by] >>> p & 1) != 0;
            }
            answer[n + 1] += any ? 1 : 0;
        }
        return answer;
    }
}
