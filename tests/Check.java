import java.util.ArrayList;
import java.util.List;

/** What the tests share: counting wrong answers, and feeding texts to a StillTown. */
final class Check {
    private static int wrong = 0;
    private static int asked = 0;

    private Check() {
    }

    static void due(String call, long got, long want) {
        asked++;
        if (got != want) {
            wrong++;
            if (wrong <= 40) {
                System.out.println(call + " answered " + got + ", due is " + want);
            }
        }
    }

    static void due(String call, boolean got, boolean want) {
        due(call, got ? 1 : 0, want ? 1 : 0);
    }

    /** A call that must be refused: NONE, and this status. */
    static void refused(StillTown x, String call, long got, int status) {
        due(call, got, StillTown.NONE);
        due(call + ": status", x.status(), status);
    }

    static void denied(StillTown x, String call, boolean got, int status) {
        due(call, got, false);
        due(call + ": status", x.status(), status);
    }

    /** A call that must be answered: this, and status 0. */
    static void answered(StillTown x, String call, long got, long want) {
        due(call, got, want);
        due(call + ": status", x.status(), 0);
    }

    static void affirmed(StillTown x, String call, boolean got) {
        due(call, got, true);
        due(call + ": status", x.status(), 0);
    }

    static void feed(StillTown x, String text) {
        List<Integer> ints = ints(text);
        for (int i = 0; i < ints.size(); i += 5) {
            x.feed(ints.get(i), ints.get(i + 1), ints.get(i + 2), ints.get(i + 3), ints.get(i + 4));
        }
    }

    private static List<Integer> ints(String text) {
        List<Integer> ints = new ArrayList<>();
        for (int i = 0; i < text.length() || ints.size() % 5 != 0; i += 4) {
            int four = 0;
            for (int k = i; k < i + 4; k++) {
                four = four << 8 | (k < text.length() ? text.charAt(k) & 255 : 0);
            }
            ints.add(four);
        }
        return ints;
    }

    static int town(StillTown x, String text) {
        feed(x, text);
        return x.town(text.length());
    }

    static int plan(StillTown x, String text) {
        feed(x, text);
        return x.plan(text.length());
    }

    static StillTown townOf(String text) {
        StillTown x = new StillTown();
        int cells = town(x, text);
        if (cells == StillTown.NONE) {
            due("the town " + text + " has fault " + x.fault(0) + " at " + x.fault(1), cells, 0);
        }
        return x;
    }

    static StillTown planned(String town, String plan) {
        StillTown x = townOf(town);
        if (plan(x, plan) == StillTown.NONE) {
            due("the plan " + plan + " has fault " + x.fault(0) + " at " + x.fault(1), -1, 0);
        }
        return x;
    }

    static void finish(String name) {
        System.out.println(name + ": " + asked + " answers, " + wrong + " not as due");
        if (wrong != 0 || asked == 0) {
            System.exit(1);
        }
    }
}
