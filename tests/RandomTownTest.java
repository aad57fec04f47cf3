import java.util.ArrayList;
import java.util.List;
import java.util.Random;

/**
 * Towns and plans made by a fixed row of draws: every call answers what the Reference answers. An object is asked
 * for no more than the 512 calls that the document promises: then another one is fed the same texts.
 */
public final class RandomTownTest {
    private static final String[] WAYS = {"n", "ne", "e", "se", "s", "sw", "w", "nw"};
    private static final String[] NAMES = {"a", "bo", "nn", "ann", "stil", "sizes", "abcdefgh", "zzzzzzzz"};

    private final Random random;
    private final Reference want = new Reference();
    private final StringBuilder text = new StringBuilder();
    private final StringBuilder planText = new StringBuilder();
    private StillTown x;
    private int moves = 0;
    private int calls = 0;
    /** Whether what is asked next depends on what this object was asked ahead. */
    private boolean held = false;
    private int bigness;
    private boolean maze;

    private RandomTownTest(long seed) {
        random = new Random(seed);
    }

    public static void main(String[] args) {
        int runs = args.length > 0 ? Integer.parseInt(args[0]) : 260;
        long base = args.length > 1 ? Long.parseLong(args[1]) : 1;
        for (int i = 0; i < runs; i++) {
            RandomTownTest test = new RandomTownTest(base + i);
            test.build();
            test.enter(new StillTown());
            test.ask();
            if (i % 4 == 3) {
                oneBehindTheOther(base + i);
            }
        }
        for (int i = 0; i < 8 * runs; i++) {
            RandomTownTest test = new RandomTownTest(base + i);
            test.askOfMaze();
        }
        words(new Random(base));
        Check.finish("RandomTownTest");
    }

    /** What an object had ahead is gone with a new town, and is all there again behind a mark taken back. */
    private static void oneBehindTheOther(long seed) {
        StillTown used = new StillTown();
        RandomTownTest[] tests = new RandomTownTest[4];
        for (int i = 0; i < tests.length; i++) {
            tests[i] = new RandomTownTest(seed + 100_000 * (i + 1));
            tests[i].build();
            tests[i].enter(used);
            if (i < 3) {
                Check.answered(used, "mark", used.mark(), i + 1);
            }
        }
        tests[3].askBriefly();
        for (int i = 2; i >= 0; i--) {
            Check.answered(used, "back", used.back(), i);
            tests[i].askBriefly();
        }
    }

    /** Some fifty calls. */
    private void askBriefly() {
        held = true;
        for (int i = 0; i < 6; i++) {
            same("told " + i, x.told(i), new int[] {want.width, want.height, trees(), want.carts.size(), want.lamps.size(), want.people.size()}[i]);
        }
        int n = want.people.size();
        int cell = below(want.cells());
        same("wall " + cell, x.wall(cell), want.wall[cell] ? 1 : 0);
        int minute = 1 + below(60);
        same("moving " + minute, x.moving(minute), want.moving(minute));
        if (n > 0) {
            int p = below(n);
            askPerson(p, minute);
            same("gone " + p, x.gone(p), want.gone(p));
            if (!want.wall[cell]) {
                same("mayBe " + p + " " + cell + " " + minute, x.mayBe(p, cell, minute), want.mayBe(p, cell, minute));
                sameIfAny("way " + p + " " + cell, x.way(p, cell), want.way(p, cell));
            }
            int q = below(n);
            if (q != p) {
                same("unseen " + p + " " + q, x.unseen(p, q, 60), want.unseen(p, q, 60));
                same("followed " + p + " " + q, x.followed(p, q, 5), want.followed(p, q, 5));
            }
            same("day 7", x.day(7), want.day(7)[n]);
        }
    }

    /** Two in a maze, with carts: they look for each other, or one hunts the other. */
    private void askOfMaze() {
        start(2 + below(oneIn(3) ? 7 : 4), 2 + below(oneIn(3) ? 5 : 3));
        for (int cell = 0; cell < want.cells(); cell++) {
            if (oneIn(3)) {
                want.wall[cell] = true;
                put("wall", cell(cell), "to", cell(cell));
            }
        }
        for (int i = below(3); i > 0; i--) {
            cart(below(want.cells()));
        }
        maze = oneIn(2);
        person();
        person();
        want.simulate();
        if (want.people.size() == 2) {
            enter(new StillTown());
            sameIfAny("meeting", x.meeting(0, 1), want.meeting(0, 1));
            int a = want.people.get(0).cell;
            int b = want.people.get(1).cell;
            sameIfAny("hunted " + a + " " + b, x.hunted(a, b), want.hunted(a, b));
        }
    }

    private int below(int n) {
        return random.nextInt(n);
    }

    private boolean oneIn(int n) {
        return random.nextInt(n) == 0;
    }

    private String blank() {
        return oneIn(9) ? "\n" : oneIn(15) ? "  " : " ";
    }

    private void put(Object... parts) {
        for (Object part : parts) {
            text.append(part).append(blank());
        }
        text.append(";").append(oneIn(6) ? blank() : "");
    }

    private String cell(int cell) {
        return cell % want.width + blank() + cell / want.width;
    }

    private void build() {
        bigness = below(4);
        start(bigness == 0 ? 2 + below(2) : 2 + below(7), bigness == 0 ? 2 + below(2) : 2 + below(5));
        maze = oneIn(4);
        for (int i = maze ? want.cells() / 3 : 0; i > 0; i--) {
            part(0);
        }
        int parts = below(bigness == 0 ? 5 : 14);
        for (int i = 0; i < parts; i++) {
            part(below(4));
        }
        int count = oneIn(12) ? 8 : oneIn(15) ? 0 : 1 + below(5);
        for (int i = 0; i < count && text.length() < 700; i++) {
            person();
        }
        for (int i = 0; i < 2 + count; i++) {
            relation();
        }
        if (oneIn(2) && text.length() < 840) {
            seen();
        }
        if (count > 0 && oneIn(2)) {
            part(below(4));
        }
        if (!oneIn(8)) {
            plan();
        }
        want.simulate();
    }

    private void enter(StillTown object) {
        x = object;
        calls = 6 + (text.length() + 19) / 20 + (planText.length() + 19) / 20;
        Check.answered(x, "town " + text, Check.town(x, text.toString()), want.cells());
        if (planText.length() > 0) {
            Check.answered(x, "plan " + planText, Check.plan(x, planText.toString()), moves);
        }
    }

    private void start(int width, int height) {
        want.width = width;
        want.height = height;
        want.wall = new boolean[want.cells()];
        want.sways = new int[want.cells()];
        java.util.Arrays.fill(want.sways, -1);
        put("size", width, height);
    }

    private boolean occupied(int cell) {
        for (Reference.Person one : want.people) {
            if (one.cell == cell) {
                return true;
            }
        }
        return want.sways[cell] >= 0 || want.lamps.contains(cell) || maze && text.length() > 420;
    }

    private void part(int kind) {
        int cell = below(want.cells());
        if (text.length() > 820) {
            return;
        }
        if (kind == 0) {
            wall();
        } else if (kind == 1 && !want.wall[cell] && want.sways[cell] < 0 && trees() < 8) {
            want.sways[cell] = oneIn(4) ? 16 * below(2) : below(17);
            put("tree", cell(cell), "sways", want.sways[cell]);
        } else if (kind == 2 && want.carts.size() < 4) {
            cart(cell);
        } else if (kind == 3 && !want.wall[cell] && !want.lamps.contains(cell) && want.lamps.size() < 8) {
            want.lamps.add(cell);
            put("lamp", cell(cell));
        }
    }

    private int trees() {
        int count = 0;
        for (int sways : want.sways) {
            count += sways >= 0 ? 1 : 0;
        }
        return count;
    }

    private void wall() {
        int x1 = below(want.width);
        int y1 = below(want.height);
        int x2 = Math.min(want.width - 1, x1 + below(3));
        int y2 = Math.min(want.height - 1, y1 + below(3));
        if (oneIn(2)) {
            x2 = x1;
        } else {
            y2 = y1;
        }
        List<Integer> cells = new ArrayList<>();
        for (int yy = y1; yy <= y2; yy++) {
            for (int xx = x1; xx <= x2; xx++) {
                cells.add(yy * want.width + xx);
            }
        }
        for (int cell : cells) {
            if (occupied(cell)) {
                return;
            }
        }
        for (int cell : cells) {
            want.wall[cell] = true;
        }
        put("wall", x1, y1, "to", x2, y2);
    }

    private void cart(int cell) {
        int count = 1 + below(8);
        int[] cart = new int[count + 1];
        cart[0] = cell;
        StringBuilder ways = new StringBuilder();
        for (int i = 1; i <= count; i++) {
            cart[i] = below(8);
            ways.append(i > 1 ? blank() : "").append(WAYS[cart[i]]);
        }
        want.carts.add(cart);
        put("cart", cell(cell), "goes", ways);
    }

    private void person() {
        Reference.Person one = new Reference.Person();
        one.cell = below(want.cells());
        for (int i = 0; i < 40 && want.wall[one.cell]; i++) {
            one.cell = below(want.cells());
        }
        if (want.wall[one.cell]) {
            return;
        }
        one.name = NAMES[want.people.size()];
        one.look = below(8);
        one.far = maze ? 1 + below(3) : oneIn(2) ? 9 : 1 + below(9);
        want.people.add(one);
        put("person", one.name, "at", cell(one.cell), "looks", WAYS[one.look], "far", one.far);
    }

    private void relation() {
        int n = want.people.size();
        if (n < 2 || text.length() > 850) {
            return;
        }
        int a = below(n);
        int b = (a + 1 + below(n - 1)) % n;
        boolean hides = oneIn(2);
        put(hides ? "hides" : "shows", want.people.get(a).name, hides ? "from" : "to", want.people.get(b).name);
        (hides ? want.people.get(a).watchers : want.people.get(a).viewers).add(b);
    }

    private void seen() {
        for (int i = 0; i < 4; i++) {
            want.seen[i] = oneIn(3) ? 0 : oneIn(4) ? 16 : below(17);
        }
        put("seen", "slow", want.seen[0], "turn", want.seen[1], "sign", want.seen[2], "self", want.seen[3]);
    }

    private void plan() {
        for (Reference.Person one : want.people) {
            if (!oneIn(5) && planText.length() < 220 && moves < 34) {
                List<int[]> all = new ArrayList<>();
                planText.append(one.name).append(blank()).append("does").append(blank());
                moves(all, 0, 1 + below(8));
                planText.append(oneIn(3) ? blank() : "").append(";");
                for (int i = 0; i < 60 && i < all.size(); i++) {
                    one.script[i + 1] = all.get(i);
                }
            }
        }
    }

    private void moves(List<int[]> all, int depth, int count) {
        for (int i = 0; i < count && planText.length() < 260 && moves < 40; i++) {
            int kind = below(depth < 2 ? 8 : 6);
            int way = below(8);
            moves++;
            if (kind == 0) {
                int n = oneIn(12) ? 60 : 1 + below(5);
                planText.append("still ").append(n);
                for (int k = 0; k < n; k++) {
                    all.add(new int[] {0, 0});
                }
            } else if (kind == 1) {
                planText.append("sign");
                all.add(new int[] {4, 0});
            } else if (kind <= 5) {
                int move = kind == 5 ? 2 : kind == 4 ? 3 : kind == 3 ? 1 : 1 + below(3);
                planText.append(move == 1 ? "step" : move == 2 ? "slow" : "turn").append(blank()).append(WAYS[way]);
                all.add(new int[] {move, way});
            } else {
                loop(all, depth);
            }
            planText.append(blank());
        }
    }

    private void loop(List<int[]> all, int depth) {
        int times = oneIn(6) ? 60 : 1 + below(9);
        planText.append("loop").append(blank()).append(times).append(blank());
        List<int[]> body = new ArrayList<>();
        moves(body, depth + 1, below(4));
        planText.append("end");
        for (int k = 0; k < times && all.size() < 100; k++) {
            all.addAll(body);
        }
    }

    private String show(String call) {
        return call + " in " + text + " / " + planText;
    }

    private void same(String call, long got, long due) {
        Check.due(show(call), got, due);
        Check.due(show(call) + ": status", x.status(), 0);
        renewIfUsed();
    }

    private void renewIfUsed() {
        calls += 2;
        if (calls > 370 && !held) {
            enter(new StillTown());
        }
    }

    /** The Reference tells -1 where there is none such. */
    private void sameIfAny(String call, long got, long due) {
        Check.due(show(call), got, due);
        Check.due(show(call) + ": status", x.status(), due == -1 ? 6 : 0);
        renewIfUsed();
    }

    private void ask() {
        askTown();
        for (int p = 0; p < want.people.size(); p++) {
            for (int i = 0; i < 6; i++) {
                askPerson(p, i < 2 ? i * 60 : below(61));
            }
            askWays(p);
            for (int q = 0; q < want.people.size(); q++) {
                if (q != p) {
                    askTwo(p, q);
                }
            }
        }
        askDays();
    }

    private void askTown() {
        int[] told = {want.width, want.height, trees(), want.carts.size(), want.lamps.size(), want.people.size(),
            want.seen[0], want.seen[1], want.seen[2], want.seen[3]};
        for (int i = 0; i < told.length; i++) {
            same("told " + i, x.told(i), told[i]);
        }
        for (int c = 0; c < want.cells(); c++) {
            same("wall " + c, x.wall(c), want.wall[c] ? 1 : 0);
            same("sways " + c, x.sways(c), Math.max(0, want.sways[c]));
        }
        for (int c = 0; c < want.carts.size(); c++) {
            for (int t = 0; t <= 60; t++) {
                same("cart " + c + " " + t, x.cart(c, t), want.cartAt[c][t]);
            }
        }
        for (int l = 0; l < want.lamps.size(); l++) {
            same("lamp " + l, x.lamp(l), want.lamps.get(l));
        }
        for (int n = 0; n <= 8; n++) {
            sameIfAny("lamps " + n, x.lamps(n), want.lamps(n));
            sameIfAny("gallery " + n, x.gallery(n), want.gallery(n));
        }
        for (int t = 1; t <= 60; t++) {
            same("moving " + t, x.moving(t), want.moving(t));
        }
        int[] judged = want.judged();
        for (int i = 0; i < 3; i++) {
            sameIfAny("judged " + i, x.judged(i), judged == null ? -1 : judged[i]);
        }
        for (int i = 0; i < 3; i++) {
            int a = below(want.cells());
            int b = below(want.cells());
            if (!want.wall[a] && !want.wall[b]) {
                sameIfAny("hunted " + a + " " + b, x.hunted(a, b), want.hunted(a, b));
            }
        }
    }

    private static long setOf(java.util.Set<Integer> members) {
        long set = 0;
        for (int member : members) {
            set |= 1L << member;
        }
        return set;
    }

    private void askPerson(int p, int t) {
        same("person 0", x.person(p, 0), want.people.get(p).far);
        same("person 1", x.person(p, 1), setOf(want.people.get(p).watchers));
        same("person 2", x.person(p, 2), setOf(want.people.get(p).viewers));
        same("at " + p + " " + t, x.at(p, t), want.at[p][t]);
        same("looks " + p + " " + t, x.looks(p, t), want.looks[p][t]);
        if (t > 0) {
            same("did " + p + " " + t, x.did(p, t), want.did[p][t]);
        }
        same("sight " + p + " " + t, x.sight(p, t), want.sight(p, t));
        same("stands " + p + " " + t, x.stands(p, t), want.stands(p, t));
    }

    private void askWays(int p) {
        same("gone " + p, x.gone(p), want.gone(p));
        int minutes = oneIn(3) ? 60 : below(10);
        same("swept " + p + " " + minutes, x.swept(p, minutes), want.swept(p, minutes));
        sameIfAny("shown " + p, x.shown(p), want.shown(p));
        for (int i = 0; i < 3; i++) {
            int cell = below(want.cells());
            if (!want.wall[cell]) {
                askWay(p, cell);
                int n = 1 + below(5);
                sameIfAny("likeliest " + p + " " + cell + " " + n, x.likeliest(p, cell, n), want.likeliest(p, cell, n));
                int m = oneIn(4) ? 60 : below(12);
                same("mayBe " + p + " " + cell + " " + m, x.mayBe(p, cell, m), want.mayBe(p, cell, m));
            }
        }
        long cells = 0;
        for (int i = below(bigness == 3 ? 4 : 7); i > 0; i--) {
            cells |= 1L << below(want.cells());
        }
        sameIfAny("found " + p + " " + cells, x.found(p, cells), want.found(p, cells));
    }

    private void askWay(int p, int cell) {
        int minutes = want.way(p, cell);
        held = true;
        sameIfAny("way " + p + " " + cell, x.way(p, cell), minutes);
        for (int t = 0; t <= minutes; t++) {
            same("wayCell " + t + " of way " + p + " " + cell, x.wayCell(t), want.path.get(t));
        }
        if (minutes >= 0) {
            sameIfAny("wayCell beyond", x.wayCell(minutes + 1), -1);
        }
        held = false;
    }

    private void askTwo(int p, int q) {
        int t = 1 + below(60);
        same("weight " + p + " " + q + " " + t, x.weight(p, q, t), want.weight(p, q, t));
        same("weight " + p + " " + q + " 1", x.weight(p, q, 1), want.weight(p, q, 1));
        same("unseen " + p + " " + q + " " + t, x.unseen(p, q, t), want.unseen(p, q, t));
        same("near " + p + " " + q + " " + t, x.near(p, q, t), want.near(p, q, t));
        same("stood " + p + " " + q, x.stood(p, q), want.stood(p, q));
        int least = 1 + below(16);
        sameIfAny("first " + p + " " + q + " " + least, x.first(p, q, least), want.first(p, q, least));
        int far = 1 + below(9);
        same("followed " + p + " " + q + " " + far, x.followed(p, q, far), want.followed(p, q, far));
        int most = oneIn(3) ? below(1000) : below(1000000);
        sameIfAny("signs " + p + " " + q + " " + most, x.signs(p, q, most), want.signs(p, q, most));
        if (maze || bigness < 3 && oneIn(2)) {
            sameIfAny("meeting " + p + " " + q, x.meeting(p, q), want.meeting(p, q));
        }
    }

    private void askDays() {
        int n = want.people.size();
        int seed = below(9970);
        int[] day = want.day(seed);
        held = true;
        same("day " + seed, x.day(seed), day[n]);
        int many = 1 + below(30);
        int safe = 0;
        for (int i = 0; i < many; i++) {
            int[] other = want.day(seed + i);
            safe += other[n + 1] == 0 ? 1 : 0;
        }
        same("safe " + seed + " " + many, x.safe(seed, many) ? 1 : 0, 1);
        int divisor = many;
        while (safe % divisor != 0 || many % divisor != 0) {
            divisor--;
        }
        Check.due(show("top"), x.top(), safe / divisor);
        Check.due(show("bottom"), x.bottom(), many / divisor);
        for (int p = 0; p < n; p++) {
            same("saw " + p, x.saw(p), day[p]);
        }
        for (int p = n; p < 8; p++) {
            sameIfAny("saw " + p, x.saw(p), -1);
        }
        same("caught", x.caught(), day[n + 1]);
        held = false;
    }

    private static void words(Random random) {
        for (int run = 0; run < 300; run++) {
            StillTown x = new StillTown();
            int many = 2 + random.nextInt(run < 280 ? 9 : 12);
            int kinds = 2 + random.nextInt(7);
            int[] uses = new int[many];
            x.tray(1, 2, many);
            for (int i = 0; i < many; i++) {
                uses[i] = random.nextInt(3) == 0 ? random.nextInt(3) : random.nextInt(10000);
                x.write(1, i, uses[i]);
            }
            Check.answered(x, "words " + kinds + " of " + java.util.Arrays.toString(uses), x.words(1, many, kinds),
                Reference.words(uses, kinds));
        }
    }
}
