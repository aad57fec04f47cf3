import java.util.List;
import java.util.Random;

/**
 * No call throws, whatever it is given; one that is refused changes nothing; the same calls give the same answers.
 * An object is asked for no more than the 512 calls that the document promises.
 */
public final class RobustTest {
    private static final int[] ODD = {0, 1, 2, 3, 4, 5, 6, 7, 8, 9, 10, 15, 16, 17, 29, 30, 31, 47, 48, 49, 59, 60, 61, 63, 64, 65,
        127, 128, 300, 301, 900, 901, 9999, 10000, 999999, 1000000, -1, -2, -60, Integer.MIN_VALUE, Integer.MAX_VALUE,
        Integer.MIN_VALUE + 1, Integer.MAX_VALUE - 1, 1 << 30};
    private static final String[] TOWNS = {
        "size 8 6;person a at 0 0 looks se far 9;person b at 7 5 looks nw far 9;person c at 3 3 looks n far 4;hides a from b;"
            + "hides c from a;shows b to c;lamp 1 1;lamp 2 2;tree 4 4 sways 9;cart 0 5 goes e ne n w;wall 5 1 to 5 3;",
        "size 2 2;person a at 0 0 looks se far 9;person b at 1 1 looks n far 1;shows a to b;hides b from a;",
        "size 3 2;wall 0 0 to 2 1;cart 1 1 goes n;",
        "size 2 6;",
        "size 8 2;person a at 0 0 looks e far 9;person b at 0 0 looks e far 9;person c at 0 0 looks e far 9;"
            + "person d at 0 0 looks e far 9;person pe at 7 0 looks w far 9;person f at 7 1 looks w far 9;person g at 3 1 looks s far 9;"
            + "person h at 4 0 looks n far 9;shows h to a;shows h to b;shows h to c;shows h to d;shows h to pe;shows h to f;"
            + "shows h to g;hides a from h;seen slow 16 turn 16 sign 16 self 16;",
        "size 4",
        "size 3 3;lamp 0 0;lamp 0 0;",
        "",
    };
    private static final String[] PLANS = {
        "a does loop 60 step e step w end;b does loop 3 turn n sign slow w still 2 end;",
        "c does step n turn e;a does sign;",
        "a does still 60;",
        "q does sign;",
        "",
    };

    /** One call: its number and what it is given. */
    private static long call(StillTown x, int number, int[] v, long big) {
        switch (number) {
            case 0: return x.status();
            case 1: return x.top();
            case 2: return x.bottom();
            case 3: return x.tray(v[0], v[1], v[2]) ? 1 : 0;
            case 4: return x.write(v[0], v[1], big) ? 1 : 0;
            case 5: return x.read(v[0], v[1]);
            case 6: return x.pour(v[0], v[1], v[2], v[3], v[4]) ? 1 : 0;
            case 7: return x.feed(v[0], v[1], v[2], v[3], v[4]);
            case 8: return x.town(v[0]);
            case 9: return x.plan(v[0]);
            case 10: return x.fault(v[0]);
            case 11: return x.told(v[0]);
            case 12: return x.wall(v[0]);
            case 13: return x.sways(v[0]);
            case 14: return x.cart(v[0], v[1]);
            case 15: return x.lamp(v[0]);
            case 16: return x.person(v[0], v[1]);
            case 17: return x.at(v[0], v[1]);
            case 18: return x.looks(v[0], v[1]);
            case 19: return x.did(v[0], v[1]);
            case 20: return x.sight(v[0], v[1]);
            case 21: return x.weight(v[0], v[1], v[2]);
            case 22: return x.unseen(v[0], v[1], v[2]);
            case 23: return x.near(v[0], v[1], v[2]);
            case 24: return x.first(v[0], v[1], v[2]);
            default: return callOther(x, number, v, big);
        }
    }

    private static long callOther(StillTown x, int number, int[] v, long big) {
        switch (number) {
            case 25: return x.judged(v[0]);
            case 26: return x.way(v[0], v[1]);
            case 27: return x.wayCell(v[0]);
            case 28: return x.likeliest(v[0], v[1], v[2]);
            case 29: return x.shown(v[0]);
            case 30: return x.found(v[0], big);
            case 31: return x.mayBe(v[0], v[1], v[2]);
            case 32: return x.meeting(v[0], v[1]);
            case 33: return x.hunted(v[0], v[1]);
            case 34: return x.lamps(v[0]);
            case 35: return x.words(v[0], v[1], v[2]);
            case 36: return x.moving(v[0]);
            case 37: return x.gone(v[0]);
            case 38: return x.stands(v[0], v[1]);
            case 39: return x.stood(v[0], v[1]);
            case 40: return x.followed(v[0], v[1], v[2]);
            case 41: return x.signs(v[0], v[1], v[2]);
            case 42: return x.swept(v[0], v[1]);
            case 43: return x.gallery(v[0]);
            case 44: return x.day(v[0]);
            case 45: return x.saw(v[0]);
            case 46: return x.caught();
            case 47: return x.safe(v[0], v[1]) ? 1 : 0;
            case 48: return x.mark();
            default: return x.back();
        }
    }

    private static boolean hasStatus(int number) {
        return number > 2 && number != 7 && number != 10;
    }

    private static void run(long seed) {
        Random random = new Random(seed);
        StillTown x = new StillTown();
        StillTown again = new StillTown();
        StillTown fine = new StillTown();
        StillTown[] all = {x, again, fine};
        int status = 0;
        for (int i = 0; i < 64; i++) {
            if (i == 3 || random.nextInt(16) == 0) {
                boolean isTown = random.nextInt(3) > 0;
                String text = isTown ? TOWNS[random.nextInt(TOWNS.length)] : PLANS[random.nextInt(PLANS.length)];
                for (StillTown one : all) {
                    long answer = isTown ? Check.town(one, text) : Check.plan(one, text);
                    Check.due("a text is " + (answer < 0 ? "refused" : "taken"), answer < 0, one.status() != 0);
                }
                status = x.status();
                continue;
            }
            int number = random.nextInt(50);
            int[] v = new int[5];
            for (int k = 0; k < 5; k++) {
                v[k] = random.nextInt(3) > 0 ? random.nextInt(9) : ODD[random.nextInt(ODD.length)];
            }
            long big = random.nextInt(3) == 0 ? random.nextLong() : 1L << random.nextInt(64) | 1L << random.nextInt(8);
            String name = "seed " + seed + ", call " + i + " (" + number + ")";
            long answer = call(x, number, v, big);
            Check.due(name + " again", call(again, number, v, big), answer);
            int now = x.status();
            if (hasStatus(number) && now != 0) {
                Check.due(name + " refused", answer, number == 3 || number == 4 || number == 6 || number == 47 ? 0 : -1);
            }
            Check.due(name + ": status", now, hasStatus(number) ? now : status);
            status = now;
            Check.due(name + ": no such status", status >= 0 && status <= 9 && status != 7, true);
            if (!hasStatus(number) || status == 0 || status == 9) {
                Check.due(name + " without those refused", call(fine, number, v, big), number == 0 ? fine.status() : answer);
            }
        }
        for (StillTown one : all) {
            one.told(0);
        }
        List<Long> want = Shown.of(x);
        Check.due("seed " + seed + ": the same calls", Shown.of(again).equals(want), true);
        Check.due("seed " + seed + ": without those refused", Shown.of(fine).equals(want), true);
    }

    public static void main(String[] args) {
        int runs = args.length > 0 ? Integer.parseInt(args[0]) : 2500;
        for (int seed = 0; seed < runs; seed++) {
            run(seed);
        }
        Check.finish("RobustTest");
    }
}
