/** Promise by promise: ordinary inputs, the edges that the document names, wrong inputs; all worked out by hand. */
public final class PromiseTest {
    private static final int NONE = StillTown.NONE;
    private static final int LOW = Integer.MIN_VALUE;
    private static final int HIGH = Integer.MAX_VALUE;

    /** Two in one street: o looks at p, who signs, turns, goes slowly, stands, steps. */
    private static final String STREET = "size 8 2;person o at 0 0 looks e far 9;person p at 4 0 looks w far 9;"
        + "hides p from o;shows o to p;";
    private static final String WALK = "p does sign turn n slow w still 2 step w;";
    /** o sees the CELLS 4 and 5 of 0 1 2 / 3 4 5 alone. */
    private static final String CORNER = "size 3 2;person p at 0 0 looks e far 9;person o at 2 0 looks s far 9;hides p from o;";

    private static int town(StillTown x, String text) {
        int cells = Check.town(x, text);
        Check.due("the town is taken: " + text, cells > 0, true);
        return cells;
    }

    private static int plan(StillTown x, String text) {
        int moves = Check.plan(x, text);
        Check.due("the plan is taken: " + text, moves >= 0, true);
        return moves;
    }

    private static void p01NewObject() {
        StillTown x = new StillTown();
        Check.due("status of a new object", x.status(), 0);
        Check.due("top of a new object", x.top(), 0);
        Check.due("bottom of a new object", x.bottom(), 1);
        Check.due("fault of a new object", x.fault(0), NONE);
        Check.due("its place", x.fault(1), NONE);
        int[] told = {0, 0, 0, 0, 0, 0, 4, 8, 2, 16};
        for (int i = 0; i < told.length; i++) {
            Check.answered(x, "told " + i, x.told(i), told[i]);
        }
        for (int tray = 0; tray < 4; tray++) {
            Check.refused(x, "read of a new object", x.read(tray, 0), 2);
        }
        Check.refused(x, "an empty tape", x.town(1), 1);
        Check.refused(x, "no mark", x.back(), 6);
        Check.answered(x, "nobody moves", x.moving(1), 0);
        Check.answered(x, "nobody is seen", x.day(5), 0);
        Check.answered(x, "a gallery of nobody", x.gallery(8), 0);
        Check.answered(x, "lamps for nobody", x.lamps(8), 0);
        Check.refused(x, "a person", x.gone(0), 1);
        Check.refused(x, "a cell", x.hunted(0, 0), 1);
        Check.answered(x, "a plan of nobody", x.plan(0), 0);
        Check.refused(x, "a town of nothing", x.town(0), 9);
        Check.refused(x, "no day of nobody seen by", x.saw(0), 6);
        Check.answered(x, "nobody was caught", x.caught(), 0);
    }

    private static void p02Status() {
        StillTown x = new StillTown();
        x.read(0, 0);
        x.feed(0, 0, 0, 0, 0);
        x.fault(0);
        x.fault(9);
        x.top();
        x.bottom();
        Check.due("calls without a status leave it", x.status(), 2);
        Check.due("and again", x.status(), 2);
        x.told(0);
        Check.due("a fine call", x.status(), 0);
    }

    private static void p03p04Fraction() {
        StillTown x = Check.planned(STREET, "p does still 3 sign;");
        // p is seen if one draw is less than 2
        int safe = 0;
        for (int seed = 100; seed < 130; seed++) {
            safe += ((seed * 2677 + 9029) % 65536 / 8 % 16) < 2 ? 0 : 1;
        }
        Check.affirmed(x, "safe", x.safe(100, 30));
        Check.due("top by bottom", x.top() * 30, x.bottom() * safe);
        Check.due("the bottom is above 0", x.bottom() > 0, true);
        long top = x.top();
        long bottom = x.bottom();
        Check.denied(x, "safe of no seeds", x.safe(100, 0), 1);
        Check.due("the top stays", x.top(), top);
        Check.due("the bottom stays", x.bottom(), bottom);
        plan(x, "p does step w;");
        Check.affirmed(x, "safe with a step in sight", x.safe(0, 30));
        Check.due("0 is 0", x.top(), 0);
        Check.due("by 1", x.bottom(), 1);
        plan(x, "");
        Check.affirmed(x, "safe where all stand still", x.safe(9970, 30));
        Check.due("all is 1", x.top(), 1);
        Check.due("by 1, too", x.bottom(), 1);
    }

    private static void p05Tray() {
        StillTown x = new StillTown();
        Check.denied(x, "tray -1", x.tray(-1, 0, 0), 1);
        Check.denied(x, "tray 4", x.tray(4, 0, 0), 1);
        Check.denied(x, "sort -1", x.tray(0, -1, 0), 1);
        Check.denied(x, "sort 4", x.tray(0, 4, 0), 1);
        Check.denied(x, "many -1", x.tray(0, 0, -1), 1);
        Check.denied(x, "many 61", x.tray(0, 0, 61), 1);
        Check.denied(x, "far off", x.tray(LOW, HIGH, LOW), 1);
        Check.refused(x, "still missing", x.read(0, 0), 2);
        Check.affirmed(x, "an empty tray", x.tray(0, 3, 0));
        Check.refused(x, "it has no place", x.read(0, 0), 3);
        Check.affirmed(x, "a full tray", x.tray(3, 3, 60));
        Check.affirmed(x, "its last place", x.write(3, 59, 7));
        Check.affirmed(x, "the tray again", x.tray(3, 3, 60));
        Check.answered(x, "it is of 0s", x.read(3, 59), 0);
        Check.denied(x, "a bad sort", x.tray(3, 9, 1), 1);
        Check.answered(x, "it stays", x.read(3, 59), 0);
    }

    private static void p06p07WriteRead() {
        StillTown x = new StillTown();
        long[][] cut = {
            {0, 127, 127}, {0, 128, -128}, {0, 255, -1}, {0, 256, 0}, {0, -129, 127},
            {1, 32767, 32767}, {1, 32768, -32768}, {1, 65535, -1}, {1, 1L << 40, 0},
            {2, 1L << 31, LOW}, {2, -1, -1}, {2, (1L << 40) + 9, 9},
            {3, Long.MIN_VALUE, Long.MIN_VALUE}, {3, Long.MAX_VALUE, Long.MAX_VALUE}, {3, -1, -1},
        };
        for (long[] row : cut) {
            x.tray(2, (int) row[0], 3);
            Check.affirmed(x, "write " + row[1], x.write(2, 1, row[1]));
            Check.answered(x, "read " + row[1] + " of sort " + row[0], x.read(2, 1), row[2]);
            Check.answered(x, "the place ahead", x.read(2, 0), 0);
            Check.answered(x, "the place behind", x.read(2, 2), 0);
        }
        int[][] wrong = {{-1, 0, 1}, {4, 0, 1}, {LOW, HIGH, 1}, {0, 0, 2}, {0, -1, 2}, {2, 3, 3}, {2, -1, 3}, {2, HIGH, 3}, {2, LOW, 3}};
        for (int[] row : wrong) {
            Check.denied(x, "write to " + row[0] + " " + row[1], x.write(row[0], row[1], 5), row[2]);
            Check.refused(x, "read of " + row[0] + " " + row[1], x.read(row[0], row[1]), row[2]);
        }
    }

    private static void p08Pour() {
        StillTown x = new StillTown();
        x.tray(0, 1, 5);
        x.tray(1, 1, 3);
        x.tray(2, 2, 3);
        for (int i = 0; i < 5; i++) {
            x.write(0, i, i + 1);
        }
        Check.affirmed(x, "pour", x.pour(0, 2, 1, 1, 2));
        same(x, 1, 0, 3, 4);
        Check.affirmed(x, "pour onto itself, on", x.pour(0, 0, 0, 1, 4));
        same(x, 0, 1, 1, 2, 3, 4);
        Check.affirmed(x, "pour onto itself, back", x.pour(0, 1, 0, 0, 4));
        same(x, 0, 1, 2, 3, 4, 4);
        Check.affirmed(x, "pour nothing", x.pour(0, 5, 1, 3, 0));
        int[][] wrong = {
            {-1, 0, 1, 0, 1, 1}, {4, 0, 1, 0, 1, 1}, {0, 0, -1, 0, 1, 1}, {0, 0, 4, 0, 1, 1},
            {0, -1, 1, 0, 1, 1}, {0, 0, 1, -1, 1, 1}, {0, 0, 1, 0, -1, 1}, {3, -1, 2, 0, 1, 1},
            {3, 0, 0, 0, 1, 2}, {0, 0, 3, 9, 1, 2}, {0, 9, 2, 0, 1, 8}, {2, 0, 0, 9, 1, 8},
            {0, 5, 1, 0, 1, 3}, {0, 0, 1, 3, 1, 3}, {0, 0, 1, 0, 4, 3}, {0, 0, 1, 0, HIGH, 3}, {0, HIGH, 1, 0, HIGH, 3},
            {0, 6, 1, 0, 0, 3}, {0, 0, 1, 4, 0, 3},
        };
        for (int[] row : wrong) {
            Check.denied(x, "pour " + java.util.Arrays.toString(row), x.pour(row[0], row[1], row[2], row[3], row[4]), row[5]);
        }
        same(x, 0, 1, 2, 3, 4, 4);
        same(x, 1, 0, 3, 4);
    }

    private static void same(StillTown x, int tray, long... want) {
        for (int i = 0; i < want.length; i++) {
            Check.answered(x, "place " + i + " of tray " + tray, x.read(tray, i), want[i]);
        }
    }

    private static void p09Feed() {
        StillTown x = new StillTown();
        for (int i = 1; i <= 45; i++) {
            Check.due("feed " + i, x.feed(0x20202020, 0x0a0a0a0a, 0x20202020, 0x20202020, 0x20202020), 20 * i);
        }
        Check.due("feed beyond 900", x.feed(0, 0, 0, 0, 0), NONE);
        Check.refused(x, "the tape has 900", x.town(901), 1);
        Check.refused(x, "all of it", x.town(900), 9);
        Check.due("at the end", x.fault(1), 900);
        // s i z e | blank 2 blank 3 | ; and what is not read
        Check.due("the highest byte first", x.feed(0x73697a65, 0x20322033, 0x3bffffff, -1, -1), 20);
        Check.answered(x, "nine of twenty", x.town(9), 6);
        Check.refused(x, "the rest is gone", x.town(1), 1);
    }

    private static void p10Town() {
        StillTown x = Check.planned(STREET, WALK);
        Check.feed(x, "size 2 2;");
        Check.refused(x, "below 0", x.town(-1), 1);
        Check.refused(x, "lowest", x.town(LOW), 1);
        Check.refused(x, "more than there is", x.town(21), 1);
        Check.due("the tape stays", x.feed(0, 0, 0, 0, 0), 40);
        Check.refused(x, "a zero byte", x.town(10), 9);
        Check.due("the tape is empty", x.feed(0, 0, 0, 0, 0), 20);
        Check.answered(x, "the old town stays", x.told(0), 8);
        Check.answered(x, "its plan too", x.at(1, 60), 2);
        x.town(0);
        Check.answered(x, "the town again", town(x, STREET), 16);
        Check.answered(x, "there is no plan then", x.at(1, 60), 4);
        Check.answered(x, "the smallest", town(x, "size 2 2;"), 4);
        Check.answered(x, "nobody is there", x.told(5), 0);
        Check.answered(x, "the greatest", town(x, " \n size 8\n6 ;\n"), 48);
        Check.answered(x, "seen is as it was made", x.told(6), 4);
    }

    private static void p11Plan() {
        StillTown x = Check.townOf(STREET);
        Check.answered(x, "moves", plan(x, WALK + "o does loop 60 loop 60 sign end end;"), 8);
        Check.answered(x, "all minutes are filled", x.did(0, 60), 4);
        Check.answered(x, "behind them it is still", x.did(1, 7), 0);
        Check.refused(x, "a fault", Check.plan(x, "p does step w"), 9);
        Check.answered(x, "the old plan stays", x.at(1, 60), 2);
        Check.feed(x, " ".repeat(320));
        Check.refused(x, "above 300", x.plan(301), 1);
        Check.refused(x, "below 0", x.plan(-1), 1);
        Check.refused(x, "more than there is", x.plan(HIGH), 1);
        Check.answered(x, "the tape stays till now", x.plan(300), 0);
        Check.refused(x, "and is empty then", x.plan(1), 1);
        Check.answered(x, "all stand still", x.at(1, 60), 4);
        Check.answered(x, "loops", plan(x, "p does loop 2 step w loop 2 sign end turn n end sign;"), 6);
        int[] did = {1, 4, 4, 3, 1, 4, 4, 3, 4, 0};
        for (int t = 1; t <= did.length; t++) {
            Check.answered(x, "did " + t, x.did(1, t), did[t - 1]);
        }
        Check.answered(x, "an empty loop", plan(x, "p does loop 60 loop 60 end end step w;"), 3);
        Check.answered(x, "the step is first", x.did(1, 1), 1);
        Check.answered(x, "what is beyond is left out", plan(x, "p does still 59 step w step w sign;"), 4);
        Check.answered(x, "one step", x.at(1, 60), 3);
    }

    private static void p12Fault() {
        StillTown x = new StillTown();
        Check.due("ahead of any", x.fault(0), NONE);
        x.town(5);
        Check.due("status 1 does not count", x.fault(0), NONE);
        Check.town(x, "size 2 9;");
        Check.due("the fault", x.fault(0), 4);
        Check.due("its place", x.fault(1), 7);
        Check.due("another", x.fault(2), NONE);
        Check.due("another below 0", x.fault(-1), NONE);
        x.town(-1);
        x.plan(-1);
        Check.due("it stays", x.fault(0), 4);
        x.plan(0);
        Check.due("a plan without one", x.fault(0), 0);
        Check.due("no place", x.fault(1), NONE);
        Check.plan(x, "q");
        Check.due("a plan with one", x.fault(0), 3);
        Check.due("at its first", x.fault(1), 0);
    }

    private static void p13to18Told() {
        StillTown x = Check.townOf("size 5 3;wall 1 1 to 2 2;tree 3 0 sways 9;tree 4 0 sways 0;cart 4 2 goes e n w;"
            + "lamp 4 2;lamp 0 0;lamp 3 0;person a at 0 2 looks s far 3;person b at 0 2 looks nw far 9;hides a from b;"
            + "shows b to a;seen slow 0 turn 16 sign 1 self 2;");
        int[] told = {5, 3, 2, 1, 3, 2, 0, 16, 1, 2};
        for (int i = 0; i < told.length; i++) {
            Check.answered(x, "told " + i, x.told(i), told[i]);
        }
        Check.refused(x, "told -1", x.told(-1), 1);
        Check.refused(x, "told 10", x.told(10), 1);
        for (int cell = 0; cell < 15; cell++) {
            Check.answered(x, "wall " + cell, x.wall(cell), cell == 6 || cell == 7 || cell == 11 || cell == 12 ? 1 : 0);
            Check.answered(x, "sways " + cell, x.sways(cell), cell == 3 ? 9 : 0);
        }
        for (int cell : new int[] {-1, 15, 48, LOW, HIGH}) {
            Check.refused(x, "wall " + cell, x.wall(cell), 1);
            Check.refused(x, "sways " + cell, x.sways(cell), 1);
        }
        // e leads out, n and w don't; over and over
        int[] cart = {14, 14, 9, 8, 9, 4, 3, 4, 4, 3};
        for (int t = 0; t < cart.length; t++) {
            Check.answered(x, "cart at " + t, x.cart(0, t), cart[t]);
        }
        Check.refused(x, "cart at -1", x.cart(0, -1), 1);
        Check.refused(x, "cart at 61", x.cart(0, 61), 1);
        Check.refused(x, "cart 1", x.cart(1, 0), 1);
        Check.refused(x, "cart -1", x.cart(-1, 0), 1);
        int[] lamps = {14, 0, 3};
        for (int i = 0; i < 3; i++) {
            Check.answered(x, "lamp " + i, x.lamp(i), lamps[i]);
        }
        Check.refused(x, "lamp 3", x.lamp(3), 1);
        Check.refused(x, "lamp -1", x.lamp(-1), 1);
        int[][] people = {{3, 2, 0}, {9, 0, 1}};
        for (int p = 0; p < 2; p++) {
            for (int what = 0; what < 3; what++) {
                Check.answered(x, "person " + p + " " + what, x.person(p, what), people[p][what]);
            }
        }
        int[][] wrong = {{-1, 0}, {2, 0}, {0, -1}, {0, 3}};
        for (int[] row : wrong) {
            Check.refused(x, "person " + row[0] + " " + row[1], x.person(row[0], row[1]), 1);
        }
        StillTown over = Check.townOf("size 3 2;wall 1 0 to 1 0;cart 0 0 goes e;");
        Check.answered(over, "carts go over walls", over.cart(0, 1), 1);
        Check.answered(over, "and stay within", over.cart(0, 60), 2);
    }

    private static void p19to21Moves() {
        StillTown x = Check.planned("size 3 3;wall 2 1 to 2 1;person a at 1 1 looks s far 1;person b at 0 0 looks e far 1;",
            "a does step e sign step w slow n turn se;b does slow nw turn w slow e;");
        int[] at = {4, 4, 4, 3, 0, 0, 0};
        int[] looks = {4, 4, 4, 6, 0, 3, 3};
        int[] did = {0, 0, 4, 1, 2, 3, 0};
        for (int t = 0; t <= 6; t++) {
            Check.answered(x, "at " + t, x.at(0, t), at[t]);
            Check.answered(x, "looks " + t, x.looks(0, t), looks[t]);
            if (t > 0) {
                Check.answered(x, "did " + t, x.did(0, t), did[t]);
            }
        }
        Check.answered(x, "out of the town nobody goes", x.did(1, 1), 0);
        Check.answered(x, "and looks as before", x.looks(1, 1), 2);
        Check.answered(x, "b at last", x.at(1, 60), 1);
        int[][] wrong = {{-1, 1}, {2, 1}, {0, -1}, {0, 61}, {LOW, HIGH}};
        for (int[] row : wrong) {
            Check.refused(x, "at", x.at(row[0], row[1]), 1);
            Check.refused(x, "looks", x.looks(row[0], row[1]), 1);
            Check.refused(x, "did", x.did(row[0], row[1]), 1);
            Check.refused(x, "sight", x.sight(row[0], row[1]), 1);
            Check.refused(x, "stands", x.stands(row[0], row[1]), 1);
        }
        Check.refused(x, "did in minute 0", x.did(0, 0), 1);
    }

    private static long set(int... cells) {
        long set = 0;
        for (int cell : cells) {
            set |= 1L << cell;
        }
        return set;
    }

    private static void p22Sight() {
        StillTown x = Check.townOf("size 5 5;person a at 2 2 looks n far 1;person b at 2 2 looks ne far 2;"
            + "person c at 0 2 looks e far 3;wall 1 2 to 1 2;person d at 4 4 looks n far 9;cart 4 2 goes w w;");
        Check.answered(x, "n, far 1", x.sight(0, 0), set(6, 7, 8));
        Check.answered(x, "ne, far 2", x.sight(1, 0), set(2, 3, 4, 7, 8, 9, 13, 14));
        // the wall is seen itself; the half of 2, 1 is 1, 1, but that of 2, -1 is the wall: halves go up, so south
        Check.answered(x, "e behind a wall", x.sight(2, 0), set(6, 11, 16, 2, 3, 22, 23, 17));
        // the cart is the half of -1, -4, too
        Check.answered(x, "n behind a cart", x.sight(3, 0), set(0, 1, 2, 6, 7, 8, 12, 13, 14, 18, 19));
        Check.answered(x, "the cart is gone", (x.sight(3, 1) >>> 4) & 1, 1);
    }

    private static void p23to27Weights() {
        StillTown x = Check.planned(STREET, WALK);
        int[] weight = {0, 2, 8, 4, 0, 0, 16, 0};
        int[] self = {0, 0, 0, 16, 0, 0, 16, 0};
        int[] unseen = {1000000, 875000, 437500, 328125, 328125, 328125, 0, 0};
        int[] near = {0, 0, 0, 0, 1, 2, 2, 3};
        for (int t = 0; t <= 7; t++) {
            if (t > 0) {
                Check.answered(x, "weight " + t, x.weight(0, 1, t), weight[t]);
                Check.answered(x, "self " + t, x.weight(1, 0, t), self[t]);
            }
            Check.answered(x, "unseen " + t, x.unseen(1, 0, t), unseen[t]);
            Check.answered(x, "near " + t, x.near(1, 0, t), near[t]);
        }
        Check.answered(x, "near at last", x.near(1, 0, 60), 56);
        int[][] first = {{1, 1}, {2, 1}, {3, 2}, {8, 2}, {9, 6}, {16, 6}};
        for (int[] row : first) {
            Check.answered(x, "first " + row[0], x.first(0, 1, row[0]), row[1]);
        }
        plan(x, "p does sign;");
        Check.refused(x, "never so much", x.first(0, 1, 3), 6);
        Check.answered(x, "but so much", x.first(0, 1, 2), 1);
        int[][] two = {{0, 0}, {1, 1}, {-1, 0}, {0, 2}, {2, 0}, {0, -1}};
        for (int[] row : two) {
            Check.refused(x, "weight", x.weight(row[0], row[1], 1), 1);
            Check.refused(x, "unseen", x.unseen(row[0], row[1], 1), 1);
            Check.refused(x, "near", x.near(row[0], row[1], 1), 1);
            Check.refused(x, "first", x.first(row[0], row[1], 1), 1);
            Check.refused(x, "stood", x.stood(row[0], row[1]), 1);
            Check.refused(x, "followed", x.followed(row[0], row[1], 1), 1);
            Check.refused(x, "signs", x.signs(row[0], row[1], 1), 1);
            Check.refused(x, "meeting", x.meeting(row[0], row[1]), 1);
        }
        Check.refused(x, "weight in minute 0", x.weight(0, 1, 0), 1);
        Check.refused(x, "weight in minute 61", x.weight(0, 1, 61), 1);
        Check.refused(x, "unseen till 61", x.unseen(0, 1, 61), 1);
        Check.refused(x, "unseen till -1", x.unseen(0, 1, -1), 1);
        Check.refused(x, "near till 61", x.near(0, 1, 61), 1);
        Check.refused(x, "near till -1", x.near(0, 1, -1), 1);
        Check.refused(x, "first of 0", x.first(0, 1, 0), 1);
        Check.refused(x, "first of 17", x.first(0, 1, 17), 1);
    }

    private static void p23Trees() {
        StillTown x = Check.planned("size 8 2;tree 4 0 sways 16;tree 3 0 sways 5;tree 2 0 sways 0;"
            + "person o at 0 0 looks e far 9;person p at 5 0 looks n far 9;", "p does step w turn w step w slow w;");
        Check.answered(x, "in a wild tree", x.weight(0, 1, 1), 0);
        Check.answered(x, "a turn there", x.weight(0, 1, 2), 0);
        Check.answered(x, "a step: 16 times 11 by 16", x.weight(0, 1, 3), 11);
        Check.answered(x, "slow in a quiet tree", x.weight(0, 1, 4), 4);
        x = Check.planned("size 8 2;tree 3 0 sways 5;person o at 0 0 looks e far 9;person p at 3 0 looks n far 9;"
            + "seen slow 4 turn 8 sign 3 self 7;", "o does turn e sign turn e;p does sign sign;");
        Check.answered(x, "3 times 11 by 16", x.weight(0, 1, 1), 2);
        Check.answered(x, "and once more", x.weight(0, 1, 2), 2);
        Check.answered(x, "still, by one who turns: 7 times 11 by 16", x.weight(0, 1, 3), 4);
        Check.answered(x, "still, by one who is still", x.weight(0, 1, 4), 0);
        plan(x, "o does sign;");
        Check.answered(x, "still, by one who signs", x.weight(0, 1, 1), 0);
        x = Check.planned("size 8 2;person o at 0 0 looks e far 2;person p at 4 0 looks n far 9;person q at 0 0 looks e far 9;",
            "p does step w step w;q does sign;");
        Check.answered(x, "too far off", x.weight(0, 1, 1), 0);
        Check.answered(x, "near enough", x.weight(0, 1, 2), 16);
        Check.answered(x, "on one cell", x.weight(0, 2, 1), 0);
    }

    private static void p27Judged() {
        String town = "size 8 2;person a at 4 0 looks n far 9;person b at 4 1 looks n far 9;person c at 0 0 looks e far 9;"
            + "person d at 7 0 looks w far 9;";
        StillTown x = Check.planned(town + "hides b from d;hides b from c;hides a from d;", "b does still 2 sign;a does still 2 sign;");
        Check.answered(x, "the minute", x.judged(0), 3);
        Check.answered(x, "who", x.judged(1), 0);
        Check.answered(x, "by whom", x.judged(2), 3);
        plan(x, "b does sign;a does still 2 sign;");
        Check.answered(x, "the first minute", x.judged(0), 1);
        Check.answered(x, "then who", x.judged(1), 1);
        Check.answered(x, "by the least", x.judged(2), 2);
        Check.refused(x, "judged -1", x.judged(-1), 1);
        Check.refused(x, "judged 3", x.judged(3), 1);
        plan(x, "c does sign;");
        Check.refused(x, "nobody", x.judged(0), 6);
        town(x, town);
        plan(x, "a does step s;");
        Check.refused(x, "nobody hides", x.judged(0), 6);
    }

    private static void path(StillTown x, int person, int... cells) {
        Check.answered(x, "way to " + cells[cells.length - 1], x.way(person, cells[cells.length - 1]), cells.length - 1);
        for (int t = 0; t < cells.length; t++) {
            Check.answered(x, "wayCell " + t, x.wayCell(t), cells[t]);
        }
        Check.refused(x, "wayCell beyond", x.wayCell(cells.length), 6);
        Check.refused(x, "wayCell below", x.wayCell(-1), 6);
    }

    private static void p28p29Way() {
        StillTown x = Check.townOf(CORNER);
        Check.refused(x, "no way yet", x.wayCell(0), 6);
        path(x, 0, 0, 1, 2);
        path(x, 0, 0);
        path(x, 0, 0, 3);
        Check.refused(x, "in sight", x.way(0, 5), 6);
        Check.answered(x, "the latest with status 0", x.wayCell(1), 3);
        path(x, 1, 2, 4);
        town(x, CORNER + "seen slow 0 turn 8 sign 2 self 16;");
        Check.answered(x, "a way outlives its town", x.wayCell(1), 4);
        path(x, 0, 0, 1, 5);
        town(x, CORNER + "tree 1 1 sways 13;tree 2 1 sways 12;");
        Check.answered(x, "4 times 3 by 16 is 0", x.way(0, 4), 1);
        Check.refused(x, "4 times 4 by 16 is 1", x.way(0, 5), 6);
        town(x, CORNER);
        plan(x, "o does still 7 turn n;p does step s;");
        // behind minute 8 it looks away; to wait comes first at the least CELL
        path(x, 0, 0, 0, 0, 0, 0, 0, 0, 1, 5);
        town(x, CORNER + "wall 1 0 to 1 1;");
        Check.refused(x, "walled in", x.way(0, 2), 6);
        int[][] wrong = {{-1, 0}, {2, 0}, {0, -1}, {0, 6}, {0, 1}, {0, 4}};
        for (int[] row : wrong) {
            Check.refused(x, "way " + row[0] + " " + row[1], x.way(row[0], row[1]), 1);
            Check.refused(x, "likeliest", x.likeliest(row[0], row[1], 1), 1);
            Check.refused(x, "mayBe", x.mayBe(row[0], row[1], 1), 1);
        }
        x = Check.planned("size 3 2;person p at 0 0 looks e far 9;person o at 2 0 looks w far 9;hides p from o;", "o does turn w;");
        Check.refused(x, "one can't stay where a watcher moves", x.way(0, 0) == 0 ? x.way(0, 2) : 5, 6);
    }

    private static void p30Likeliest() {
        StillTown x = Check.townOf(CORNER);
        Check.answered(x, "in sight at last", x.likeliest(0, 5, 2), 750000);
        Check.answered(x, "to wait costs nothing", x.likeliest(0, 5, 60), 750000);
        Check.answered(x, "unseen", x.likeliest(0, 2, 2), 1000000);
        Check.refused(x, "it can't be there then", x.likeliest(0, 5, 1), 6);
        Check.refused(x, "minute 0", x.likeliest(0, 0, 0), 1);
        Check.refused(x, "minute 61", x.likeliest(0, 0, 61), 1);
        town(x, CORNER + "person q at 2 0 looks s far 9;hides p from q;seen slow 5 turn 0 sign 0 self 16;");
        Check.answered(x, "two watchers", x.likeliest(0, 5, 2), 1000000 * 11 / 16 * 11 / 16);
        Check.answered(x, "one who does not hide", x.likeliest(1, 4, 1), 1000000);
        town(x, "size 2 2;person p at 0 0 looks e far 9;person o at 1 0 looks w far 9;hides p from o;"
            + "seen slow 16 turn 0 sign 0 self 16;");
        Check.answered(x, "surely seen, but there", x.likeliest(0, 2, 1), 0);
        plan(x, "o does turn w;");
        Check.answered(x, "still, where o moves", x.likeliest(0, 0, 1), 0);
    }

    private static void p31Shown() {
        StillTown x = Check.townOf(CORNER);
        Check.answered(x, "to nobody", x.shown(0), 0);
        Check.refused(x, "no person", x.shown(2), 1);
        Check.refused(x, "no person below", x.shown(-1), 1);
        town(x, "size 3 2;person p at 0 0 looks e far 9;person o at 2 0 looks s far 9;shows p to o;");
        Check.answered(x, "a step", x.shown(0), 1);
        town(x, CORNER + "shows p to o;");
        Check.refused(x, "hides and shows", x.shown(0), 6);
        // r sees the CELLS 0, 3, 4, and p must not be on 4, 5
        town(x, CORNER + "person r at 1 0 looks sw far 1;shows p to r;wall 1 1 to 1 1;");
        Check.answered(x, "shown to r, not to o", x.shown(0), 1);
        town(x, CORNER + "person r at 1 0 looks sw far 1;shows p to r;tree 0 1 sways 1;tree 0 0 sways 1;");
        Check.refused(x, "never with 16", x.shown(0), 6);
        town(x, "size 5 2;person p at 0 0 looks e far 9;person r at 0 0 looks s far 1;person q at 4 0 looks s far 1;"
            + "shows p to r;shows p to q;");
        Check.answered(x, "one behind the other", x.shown(0), 3);
        plan(x, "r does turn s turn n;");
        Check.answered(x, "r looks away behind minute 1", x.shown(0), 3);
        plan(x, "r does turn n;");
        Check.refused(x, "r looks away at once", x.shown(0), 6);
        town(x, "size 4 2;wall 1 0 to 1 1;person p at 0 0 looks e far 9;person r at 0 1 looks n far 1;shows p to r;"
            + "seen slow 0 turn 0 sign 0 self 16;wall 1 0 to 1 0;");
        Check.answered(x, "there and back", x.shown(0), 2);
        plan(x, "r does turn n;");
        Check.answered(x, "still, where r turns", x.shown(0), 1);
    }

    private static void p32Found() {
        StillTown x = Check.townOf("size 4 3;person p at 0 0 looks e far 9;wall 2 0 to 2 1;");
        Check.answered(x, "nothing", x.found(0, 0), 0);
        Check.answered(x, "a neighbour", x.found(0, set(1)), 1);
        Check.answered(x, "where it stands", x.found(0, set(0)), 2);
        Check.answered(x, "a wall itself", x.found(0, set(2)), 1);
        Check.refused(x, "seven", x.found(0, 127), 1);
        Check.answered(x, "six", x.found(0, 63), 6 - 2);
        Check.refused(x, "a cell that is not", x.found(0, set(12)), 1);
        Check.refused(x, "all cells", x.found(0, -1), 1);
        Check.refused(x, "the highest bit", x.found(0, Long.MIN_VALUE), 1);
        Check.refused(x, "no person", x.found(1, 0), 1);
        Check.refused(x, "no person below", x.found(-1, 0), 1);
        town(x, "size 5 2;person p at 0 0 looks e far 9;wall 1 0 to 1 1;");
        Check.refused(x, "never", x.found(0, set(4)), 6);
        town(x, "size 3 2;person p at 1 0 looks n far 1;");
        Check.answered(x, "on both sides", x.found(0, set(0, 2)), 2);
        town(x, "size 8 2;wall 0 1 to 7 1;person p at 0 0 looks w far 9;cart 2 0 goes s n;");
        Check.answered(x, "behind a cart that goes", x.found(0, set(7)), 1);
        town(x, "size 8 2;wall 0 1 to 7 1;person p at 0 0 looks w far 9;cart 2 1 goes n s;");
        Check.answered(x, "behind a cart that comes", x.found(0, set(7)), 2);
    }

    private static void p33MayBe() {
        StillTown x = Check.townOf(CORNER);
        Check.answered(x, "at minute 0", x.mayBe(1, 5, 0), set(5));
        Check.answered(x, "still, or on", x.mayBe(1, 0, 1), set(0, 1, 3));
        Check.answered(x, "in sight it may stay", x.mayBe(1, 5, 1), set(5, 1, 2));
        plan(x, "o does turn s;");
        Check.answered(x, "but not if o moved", x.mayBe(1, 5, 1), set(1, 2));
        plan(x, "o does sign;");
        Check.answered(x, "a sign is no move", x.mayBe(1, 5, 1), set(5, 1, 2));
        town(x, CORNER + "seen slow 4 turn 8 sign 2 self 0;");
        plan(x, "o does turn s;");
        Check.answered(x, "nor if self is 0", x.mayBe(1, 5, 1), set(5, 1, 2));
        Check.answered(x, "an hour", x.mayBe(1, 0, 60), set(0, 1, 2, 3));
        town(x, CORNER + "wall 1 0 to 1 0;");
        Check.answered(x, "a wall", x.mayBe(1, 0, 60), set(0, 3));
        Check.refused(x, "in a wall", x.mayBe(1, 1, 0), 1);
        Check.refused(x, "minute 61", x.mayBe(1, 0, 61), 1);
        Check.refused(x, "minute -1", x.mayBe(1, 0, -1), 1);
    }

    private static void p34Meeting() {
        StillTown x = Check.townOf("size 8 2;person a at 0 0 looks w far 9;person b at 7 0 looks e far 9;");
        Check.answered(x, "both step", x.meeting(0, 1), 1);
        town(x, "size 8 2;person a at 0 0 looks w far 3;person b at 7 0 looks e far 3;");
        Check.answered(x, "from seven off to three", x.meeting(0, 1), 2);
        town(x, "size 8 2;person a at 0 0 looks w far 1;person b at 7 0 looks e far 3;");
        Check.answered(x, "one sees less", x.meeting(0, 1), 3);
        Check.answered(x, "the other way round", x.meeting(1, 0), 3);
        town(x, "size 3 2;wall 1 0 to 1 1;person a at 0 0 looks e far 9;person b at 2 0 looks e far 9;");
        Check.refused(x, "a wall", x.meeting(0, 1), 6);
        town(x, "size 3 2;wall 0 1 to 0 1;wall 1 0 to 1 0;wall 1 1 to 1 1;person a at 0 0 looks e far 9;"
            + "person b at 2 0 looks e far 9;");
        Check.refused(x, "one can't step", x.meeting(0, 1), 6);
        town(x, "size 2 2;person a at 0 0 looks e far 1;person b at 0 0 looks e far 1;");
        Check.answered(x, "from one cell", x.meeting(0, 1), 1);
        // towns found by draws, answered by the Reference, in which who stays and who steps counts
        String[] second = {
            "size 8 2;wall 0 0 to 0 0;wall 3 0 to 4 0;wall 1 1 to 2 1;cart 1 1 goes sw;cart 6 0 goes e w s e;"
                + "person a at 0 1 looks n far 9;person b at 7 0 looks n far 9;",
            "size 8 6;wall 1 0 to 1 1;wall 3 0 to 3 0;wall 2 1 to 2 1;wall 4 1 to 4 1;wall 6 1 to 7 1;wall 0 2 to 0 3;wall 6 2 to 6 2;"
                + "wall 1 3 to 2 3;wall 5 3 to 5 3;wall 0 5 to 0 5;wall 3 5 to 3 5;wall 6 5 to 7 5;cart 4 2 goes nw s;"
                + "person a at 1 4 looks n far 9;person b at 0 0 looks n far 9;",
            "size 4 3;wall 0 0 to 0 0;wall 3 0 to 3 0;wall 1 1 to 2 1;wall 1 2 to 1 2;"
                + "person a at 0 2 looks n far 2;person b at 3 1 looks n far 3;",
            "size 8 2;wall 2 1 to 2 1;wall 4 1 to 4 1;wall 7 1 to 7 1;cart 3 1 goes ne w w;"
                + "person a at 1 0 looks n far 2;person b at 7 0 looks n far 9;",
        };
        for (int i = 0; i < second.length; i++) {
            town(x, second[i]);
            Check.answered(x, "meeting in " + second[i], x.meeting(0, 1), 2);
        }
    }

    private static void p35Hunted() {
        StillTown x = Check.townOf("size 3 3;wall 1 1 to 1 1;cart 0 1 goes n;");
        Check.answered(x, "on one cell", x.hunted(0, 0), 0);
        Check.answered(x, "beside", x.hunted(0, 1), 1);
        Check.answered(x, "a corner is soon cut off", x.hunted(0, 2), 2);
        Check.refused(x, "round and round", x.hunted(1, 7), 6);
        town(x, "size 3 3;wall 1 1 to 1 2;");
        // a horseshoe: the hider waits at its end
        Check.answered(x, "a dead end", x.hunted(6, 8), 4);
        town(x, "size 4 2;wall 2 0 to 2 1;");
        Check.refused(x, "shut away", x.hunted(0, 3), 6);
        town(x, "size 8 2;");
        Check.answered(x, "from end to end", x.hunted(0, 7), 7);
        town(x, "size 3 2;wall 1 0 to 1 0;");
        int[][] wrong = {{-1, 0}, {6, 0}, {0, -1}, {0, 6}, {1, 0}, {0, 1}, {1, 1}};
        for (int[] row : wrong) {
            Check.refused(x, "hunted " + row[0] + " " + row[1], x.hunted(row[0], row[1]), 1);
        }
    }

    private static void p36Lamps() {
        StillTown x = Check.townOf("size 5 2;person a at 0 0 looks e far 9;person b at 4 0 looks w far 3;"
            + "lamp 0 0;lamp 4 0;lamp 1 0;lamp 3 0;lamp 2 0;");
        // a sees 1 to 4, b sees 2, 3, 4 of the lamps
        Check.answered(x, "none is wanted", x.lamps(0), 0);
        Check.answered(x, "the least of one", x.lamps(1), 4);
        Check.answered(x, "the least of two", x.lamps(2), 12);
        Check.answered(x, "all of b's", x.lamps(3), 28);
        Check.refused(x, "all are not enough", x.lamps(4), 6);
        Check.refused(x, "lamps -1", x.lamps(-1), 1);
        Check.refused(x, "lamps 9", x.lamps(9), 1);
        plan(x, "b does turn e;");
        Check.answered(x, "at minute 0", x.lamps(3), 28);
        town(x, "size 5 2;person a at 0 0 looks e far 9;person b at 4 0 looks w far 2;lamp 1 0;lamp 3 0;lamp 2 0;cart 2 0 goes e;");
        Check.answered(x, "past no cart", x.lamps(1), 2 + 1 < 4 ? 4 : 0);
        town(x, "size 5 2;lamp 1 0;");
        Check.answered(x, "nobody needs any", x.lamps(8), 0);
    }

    private static void p37Words() {
        StillTown x = new StillTown();
        x.tray(0, 2, 20);
        for (int i = 0; i < 20; i++) {
            x.write(0, i, i < 4 ? new int[] {5, 3, 2, 1}[i] : 0);
        }
        Check.answered(x, "by two", x.words(0, 4, 2), 20);
        Check.answered(x, "by three", x.words(0, 4, 3), 14);
        Check.answered(x, "by four", x.words(0, 4, 4), 11);
        Check.answered(x, "two words by eight", x.words(0, 2, 8), 8);
        Check.answered(x, "with words of no use", x.words(0, 20, 2), 5 + 3 * 2 + 2 * 3 + 4);
        for (int i = 0; i < 20; i++) {
            x.write(0, i, 9999);
        }
        Check.answered(x, "all the same by two", x.words(0, 20, 2), 9999 * (12 * 4 + 8 * 5));
        int[][] wrong = {{-1, 2, 2, 1}, {4, 2, 2, 1}, {0, 1, 2, 1}, {0, 21, 2, 1}, {0, 2, 1, 1}, {0, 2, 9, 1}, {1, 21, 2, 1}, {1, 20, 2, 2}};
        for (int[] row : wrong) {
            Check.refused(x, "words", x.words(row[0], row[1], row[2]), row[3]);
        }
        x.tray(2, 1, 3);
        x.write(2, 0, -1);
        Check.refused(x, "too few, ahead of a bad one", x.words(2, 4, 2), 3);
        Check.refused(x, "below 0", x.words(2, 3, 2), 5);
        x.write(2, 0, 10000);
        Check.refused(x, "above 9,999", x.words(2, 3, 2), 5);
        x.write(2, 0, 9999);
        Check.answered(x, "9,999", x.words(2, 3, 2), 9999);
        x.write(2, 2, -1);
        Check.answered(x, "only those asked for", x.words(2, 2, 2), 9999);
    }

    private static void p38to41WhatMoves() {
        StillTown x = Check.planned("size 8 2;person o at 0 0 looks e far 9;person p at 4 0 looks w far 9;person q at 0 1 looks w far 9;"
            + "cart 2 1 goes n n s;", "p does sign turn n slow w still 2 step w;q does step w;");
        int[] moving = {2, 1, 2, 1, 0, 2, 1};
        for (int t = 1; t <= 7; t++) {
            Check.answered(x, "moving " + t, x.moving(t), moving[t - 1]);
        }
        for (int t : new int[] {0, -1, 61}) {
            Check.refused(x, "moving " + t, x.moving(t), 1);
        }
        // the cart moves in two minutes of three, and hides p when that one turns
        Check.answered(x, "gone from o", x.gone(0), 60 - 40);
        Check.answered(x, "gone from q", x.gone(2), 60);
        Check.refused(x, "gone 3", x.gone(3), 1);
        Check.refused(x, "gone -1", x.gone(-1), 1);
        Check.answered(x, "o has p ahead", x.stands(0, 0), 2);
        Check.answered(x, "p has o ahead, q behind the cart", x.stands(1, 0), 1);
        Check.answered(x, "till the cart hides o", x.stands(1, 1), 4);
        Check.answered(x, "who looks away", x.stands(1, 2), 0);
        Check.answered(x, "q has nobody ahead", x.stands(2, 60), 0);
        StillTown y = Check.planned(STREET, WALK);
        Check.answered(y, "stood", y.stood(1, 0), 54);
        plan(y, "p does sign;");
        Check.answered(y, "stood nearly an hour", y.stood(1, 0), 59);
        plan(y, "p does loop 60 sign end;");
        Check.answered(y, "never unseen", y.stood(1, 0), 0);
        plan(y, "p does still 30 sign;");
        Check.answered(y, "the longest counts", y.stood(1, 0), 30);
        town(y, "size 8 2;person o at 0 0 looks e far 3;person p at 4 0 looks w far 9;");
        Check.answered(y, "farther than it sees", y.stood(1, 0), 0);
        Check.answered(y, "not farther than p sees", y.stood(0, 1), 60);
    }

    private static void p42Followed() {
        StillTown x = Check.planned("size 8 2;wall 0 1 to 7 1;person o at 1 0 looks e far 9;person p at 0 0 looks e far 9;",
            "o does loop 60 step e end;");
        Check.answered(x, "behind one who goes east", x.followed(1, 0, 1), 60);
        plan(x, "o does turn w;");
        Check.answered(x, "onto its very cell", x.followed(1, 0, 9), 60);
        town(x, "size 8 2;person o at 4 0 looks e far 9;person p at 0 0 looks e far 9;");
        plan(x, "o does still 2 turn w;");
        Check.answered(x, "till it turns", x.followed(1, 0, 9), 2);
        plan(x, "o does turn w;");
        Check.answered(x, "not a minute", x.followed(1, 0, 9), 0);
        town(x, "size 8 2;wall 3 0 to 3 1;person o at 4 0 looks e far 9;person p at 0 0 looks e far 9;");
        Check.answered(x, "off by 3 at best", x.followed(1, 0, 2), 0);
        Check.answered(x, "just near enough", x.followed(1, 0, 3), 60);
        Check.refused(x, "far 0", x.followed(1, 0, 0), 1);
        Check.refused(x, "far 10", x.followed(1, 0, 10), 1);
    }

    private static void p43Signs() {
        StillTown x = Check.planned(STREET, "p does loop 60 step e end;");
        Check.answered(x, "seven eighths", x.signs(1, 0, 875000), 1);
        Check.answered(x, "and again", x.signs(1, 0, 874999), 2);
        Check.answered(x, "hardly less", x.signs(1, 0, 999999), 1);
        Check.refused(x, "hardly anything", x.signs(1, 0, 1), 6);
        Check.refused(x, "most -1", x.signs(1, 0, -1), 1);
        Check.refused(x, "most 1,000,000", x.signs(1, 0, 1000000), 1);
        town(x, STREET + "tree 4 0 sways 15;");
        Check.refused(x, "in a tree", x.signs(1, 0, 999999), 6);
        town(x, STREET + "seen slow 0 turn 0 sign 16 self 0;");
        Check.answered(x, "surely", x.signs(1, 0, 0), 1);
    }

    private static void p44Swept() {
        StillTown x = Check.townOf("size 3 3;person a at 1 1 looks n far 1;");
        int[] swept = {0, 3, 6, 8, 8, 8};
        for (int t = 0; t < swept.length; t++) {
            Check.answered(x, "swept " + t, x.swept(0, t), swept[t]);
        }
        Check.answered(x, "no single step shows its own cell", x.swept(0, 60), 8);
        Check.refused(x, "61", x.swept(0, 61), 1);
        Check.refused(x, "-1", x.swept(0, -1), 1);
        Check.refused(x, "no person", x.swept(1, 0), 1);
        // it turns in minute 2, where a step would bring as many; then it goes east, not west
        town(x, "size 8 2;wall 0 1 to 7 1;person a at 3 0 looks n far 1;");
        int[] street = {0, 3, 5, 7, 9, 11, 11};
        for (int t = 0; t < street.length; t++) {
            Check.answered(x, "swept the street " + t, x.swept(0, t), street[t]);
        }
    }

    private static void p45Gallery() {
        StillTown x = Check.townOf("size 3 2;person a at 0 0 looks e far 9;person b at 2 0 looks w far 9;person c at 1 0 looks s far 1;");
        // a: 0 1 2 4 5, b: 0 1 2 3 4, c: 1 3 4 5
        Check.answered(x, "none", x.gallery(0), 0);
        Check.answered(x, "a and b", x.gallery(1), 3);
        Check.answered(x, "all", x.gallery(2), 7);
        Check.refused(x, "all are not enough", x.gallery(3), 6);
        Check.refused(x, "-1", x.gallery(-1), 1);
        Check.refused(x, "9", x.gallery(9), 1);
        town(x, "size 3 2;wall 0 1 to 0 1;person a at 0 0 looks e far 9;person b at 2 0 looks w far 9;");
        Check.answered(x, "a wall need not be seen", x.gallery(1), 1);
        town(x, "size 2 2;wall 0 0 to 1 1;");
        Check.answered(x, "walls alone", x.gallery(8), 0);
        town(x, "size 2 2;");
        Check.refused(x, "nobody", x.gallery(1), 6);
    }

    private static int drawOf(int s) {
        return s / 8 % 16;
    }

    private static void p46to49Days() {
        StillTown x = Check.planned(STREET, "p does sign still 3 sign;o does still 4 sign;");
        Check.refused(x, "no day yet", x.saw(0), 6);
        Check.refused(x, "nobody caught yet", x.caught(), 6);
        for (int seed : new int[] {0, 1, 77, 4321, 9999}) {
            // o sees p in minute 1, o sees p and p sees o in minute 5: three draws by 2 sixteenths
            int s1 = (seed * 2677 + 9029) % 65536;
            int s2 = (s1 * 2677 + 9029) % 65536;
            int s3 = (s2 * 2677 + 9029) % 65536;
            int byO = (drawOf(s1) < 2 ? 1 : 0) + (drawOf(s2) < 2 ? 1 : 0);
            int byP = drawOf(s3) < 2 ? 1 : 0;
            Check.answered(x, "day " + seed, x.day(seed), byO + byP);
            Check.answered(x, "o saw", x.saw(0), byO > 0 ? 2 : 0);
            Check.answered(x, "p saw", x.saw(1), byP);
            Check.answered(x, "caught", x.caught(), byO > 0 ? 1 : 0);
        }
        Check.refused(x, "no such person then", x.saw(2), 6);
        Check.refused(x, "saw -1", x.saw(-1), 1);
        Check.refused(x, "saw 8", x.saw(8), 1);
        plan(x, "p does step w;");
        Check.answered(x, "surely seen", x.day(5), 1 + 1);
        Check.answered(x, "by o", x.saw(0), 2);
        Check.answered(x, "and o by it: self is 16", x.saw(1), 1);
        Check.refused(x, "seed -1", x.day(-1), 1);
        Check.refused(x, "seed 10,000", x.day(10000), 1);
        Check.affirmed(x, "safe is no day", x.safe(0, 1));
        town(x, "size 2 2;");
        Check.answered(x, "a day outlives its town", x.saw(0), 2);
        Check.answered(x, "and who was caught", x.caught(), 1);
        Check.answered(x, "an empty day", x.day(0), 0);
        Check.refused(x, "nobody was there then", x.saw(0), 6);
        Check.answered(x, "nobody was caught then", x.caught(), 0);
        Check.affirmed(x, "the last seeds", x.safe(9970, 30));
        Check.denied(x, "beyond the last seed", x.safe(9971, 30), 1);
        Check.affirmed(x, "the last seed", x.safe(9999, 1));
        Check.denied(x, "behind the last seed", x.safe(10000, 1), 1);
        Check.denied(x, "seed -1", x.safe(-1, 2), 1);
        Check.denied(x, "none", x.safe(0, 0), 1);
        Check.denied(x, "31", x.safe(0, 31), 1);
        Check.denied(x, "far off", x.safe(HIGH, HIGH), 1);
    }

    private static void p50p51Marks() {
        StillTown x = Check.planned(STREET, WALK);
        Check.answered(x, "one", x.mark(), 1);
        plan(x, "p does step e;");
        Check.answered(x, "two", x.mark(), 2);
        town(x, CORNER);
        Check.answered(x, "three", x.mark(), 3);
        Check.refused(x, "four", x.mark(), 4);
        town(x, "size 2 2;");
        x.tray(0, 0, 1);
        Check.answered(x, "the corner", x.back(), 2);
        Check.answered(x, "its width", x.told(0), 3);
        Check.answered(x, "the latest plan", x.back(), 1);
        Check.answered(x, "its step", x.at(1, 60), 5);
        Check.due("names are back, too", plan(x, "o does sign;"), 1);
        Check.answered(x, "marked again", x.mark(), 2);
        Check.answered(x, "as it was", x.back(), 1);
        Check.answered(x, "the first", x.back(), 0);
        Check.answered(x, "the walk", x.at(1, 60), 2);
        Check.answered(x, "who hides", x.person(1, 1), 1);
        Check.refused(x, "none is left", x.back(), 6);
        Check.answered(x, "the tray stays", x.read(0, 0), 0);
        town(x, "size 3 3;person ann at 0 0 looks e far 1;person bob at 2 2 looks w far 1;");
        x.mark();
        town(x, "size 3 3;person cid at 0 0 looks e far 1;person dan at 2 2 looks w far 1;");
        Check.answered(x, "back to others", x.back(), 0);
        Check.answered(x, "they bear their names", Check.plan(x, "bob does turn n;ann does sign;"), 2);
        Check.refused(x, "no others do", Check.plan(x, "cid does sign;"), 9);
        StillTown y = new StillTown();
        y.mark();
        town(y, STREET);
        Check.answered(y, "back to nothing", y.back(), 0);
        Check.answered(y, "no cells", y.told(0), 0);
        Check.refused(y, "no people", y.at(0, 0), 1);
    }

    /** What comes in the last minute that counts, or one behind it. */
    private static void lastMinutes() {
        StillTown x = Check.planned(STREET, "p does still 59 sign;");
        Check.answered(x, "first in minute 60", x.first(0, 1, 1), 60);
        Check.answered(x, "judged in minute 60", x.judged(0), 60);
        Check.answered(x, "gone till minute 60", x.gone(0), 59);
        Check.answered(x, "stood till minute 60", x.stood(1, 0), 59);
        Check.answered(x, "moving in minute 60", x.moving(60), 1);
        town(x, STREET + "tree 4 0 sways 8;");
        plan(x, "p does sign;");
        Check.answered(x, "judged by a weight of 1", x.judged(0), 1);
        town(x, CORNER);
        plan(x, "o does still 59 turn n;");
        Check.answered(x, "a way of 60 minutes", x.way(0, 5), 60);
        Check.answered(x, "its last cell but one", x.wayCell(59), 1);
        Check.answered(x, "its last cell", x.wayCell(60), 5);
        plan(x, "o does loop 60 still 60 end turn n;");
        Check.refused(x, "none of 61", x.way(0, 5), 6);
        // q sees the CELL 1 alone, and that behind minute 60
        String late = "size 2 2;person p at 0 0 looks e far 9;person q at 1 1 looks s far 1;shows p to q;";
        town(x, late);
        plan(x, "q does still 59 turn n;");
        Check.answered(x, "shown in minute 60", x.shown(0), 60);
        town(x, "size 8 2;wall 2 0 to 2 1;person o at 3 0 looks e far 9;person p at 1 0 looks e far 9;person q at 1 0 looks e far 1;");
        plan(x, "q does still 59 turn w;");
        Check.answered(x, "followed, unless seen", x.followed(1, 2, 1), 60);
        town(x, "size 4 2;wall 1 0 to 1 0;wall 1 1 to 1 1;person o at 2 0 looks e far 9;person p at 0 0 looks e far 9;");
        plan(x, "o does still 59 step e;");
        Check.answered(x, "till it goes in minute 60", x.followed(1, 0, 2), 59);
        town(x, STREET + "seen slow 0 turn 0 sign 1 self 0;");
        int chance = 1000000;
        for (int t = 1; t <= 60; t++) {
            chance = chance * 15 / 16;
            Check.answered(x, "signs till " + t, x.signs(1, 0, chance), t);
        }
        Check.refused(x, "signs till 61", x.signs(1, 0, chance - 1), 6);
    }

    private static void behindAFault() {
        StillTown x = Check.townOf(STREET);
        Check.refused(x, "a loop that does not end", Check.plan(x, "p does loop 2 loop 2 step w"), 9);
        Check.refused(x, "an end without a loop", Check.plan(x, "p does step w end;"), 9);
        Check.due("its place", x.fault(1), 14);
        Check.answered(x, "a plan behind it", plan(x, "p does step w;"), 1);
        Check.answered(x, "its steps", x.at(1, 60), 3);
        Check.refused(x, "a town that is spoilt", Check.town(x, "size 4 4;seen slow 1 turn 1 sign 1 self 1;wall 0 0 to 3 3;lamp 0 0;"), 9);
        Check.answered(x, "a town behind it", town(x, "size 4 4;"), 16);
        Check.answered(x, "no walls", x.wall(0), 0);
        Check.answered(x, "slow", x.told(6), 4);
        Check.answered(x, "turn", x.told(7), 8);
        Check.answered(x, "sign", x.told(8), 2);
        Check.answered(x, "self", x.told(9), 16);
    }

    private static void othersThanTheFirst() {
        // whom by number 1, and by SELF alone
        StillTown x = Check.planned("size 2 2;wall 1 1 to 1 1;wall 0 1 to 0 1;person p at 0 0 looks e far 9;person o at 1 0 looks w far 9;",
            "o does still 4 turn w;");
        Check.answered(x, "signs by the second", x.signs(0, 1, 999999), 1);
        Check.answered(x, "followed till it moves itself, from its own cell for good", x.followed(0, 1, 9), 60);
        town(x, "size 4 2;wall 1 1 to 3 1;wall 0 1 to 0 1;person p at 0 0 looks e far 9;person q at 0 0 looks w far 9;"
            + "person o at 3 0 looks w far 9;seen slow 1 turn 0 sign 0 self 1;");
        plan(x, "o does still 4 turn w;");
        Check.answered(x, "followed till it moves itself", x.followed(0, 2, 9), 4);
        // a sign is all that a PERSON can do behind walls
        town(x, "size 3 2;wall 0 1 to 2 1;wall 1 0 to 1 0;person p at 0 0 looks e far 9;person q at 2 0 looks w far 9;shows p to q;"
            + "seen slow 0 turn 0 sign 16 self 0;");
        Check.refused(x, "nor that", x.shown(0), 6);
        town(x, "size 2 2;wall 0 1 to 1 1;person p at 0 0 looks e far 9;person q at 1 0 looks w far 9;shows p to q;"
            + "seen slow 0 turn 0 sign 16 self 0;tree 1 0 sways 16;");
        Check.answered(x, "a sign", x.shown(0), 1);
        town(x, "size 2 2;wall 0 1 to 1 1;person p at 0 0 looks e far 9;person q at 1 0 looks w far 9;shows p to q;"
            + "seen slow 0 turn 0 sign 15 self 0;tree 0 0 sways 1;");
        Check.refused(x, "too faint a sign", x.shown(0), 6);
        town(x, "size 2 2;wall 0 1 to 1 1;person p at 0 0 looks e far 9;person q at 1 0 looks w far 9;person r at 1 0 looks w far 9;"
            + "shows p to q;hides p from r;seen slow 0 turn 0 sign 16 self 0;");
        Check.refused(x, "a sign that a watcher sees", x.shown(0), 6);
        // halved each minute: 1 behind minute 19
        town(x, "size 2 2;wall 0 1 to 0 1;person p at 0 0 looks e far 9;person o at 1 1 looks w far 9;hides p from o;"
            + "seen slow 16 turn 0 sign 0 self 8;wall 1 0 to 1 0;");
        plan(x, "o does loop 60 turn nw end;");
        Check.answered(x, "hardly unseen", x.unseen(0, 1, 19), 1);
        Check.answered(x, "seen for sure", x.unseen(0, 1, 20), 0);
        // the CELL of o itself is out of its sight
        Check.answered(x, "where o stands", x.likeliest(0, 3, 60), 1000000);
        Check.answered(x, "to stay", x.likeliest(0, 0, 1), 500000);
        // every lamp is needed, the first and the last, too
        town(x, "size 5 2;person a at 1 0 looks w far 1;person b at 3 0 looks e far 1;lamp 0 0;lamp 2 1;lamp 4 0;");
        Check.answered(x, "the first and the last lamp", x.lamps(1), 5);
    }

    public static void main(String[] args) {
        p01NewObject();
        p02Status();
        p03p04Fraction();
        p05Tray();
        p06p07WriteRead();
        p08Pour();
        p09Feed();
        p10Town();
        p11Plan();
        p12Fault();
        p13to18Told();
        p19to21Moves();
        p22Sight();
        p23to27Weights();
        p23Trees();
        p27Judged();
        p28p29Way();
        p30Likeliest();
        p31Shown();
        p32Found();
        p33MayBe();
        p34Meeting();
        p35Hunted();
        p36Lamps();
        p37Words();
        p38to41WhatMoves();
        p42Followed();
        p43Signs();
        p44Swept();
        p45Gallery();
        p46to49Days();
        p50p51Marks();
        lastMinutes();
        behindAFault();
        othersThanTheFirst();
        Check.finish("PromiseTest");
    }
}
