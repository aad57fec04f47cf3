import java.util.Arrays;
import java.util.List;
import java.util.function.Predicate;
import java.util.function.Supplier;
import java.util.function.ToLongFunction;

/**
 * Part 5 of the document: the STATUS of each call at each edge of what it is given, which one is the first
 * that holds, and that a call that is refused changes nothing else.
 */
public final class RefusalTest {
    private static final int LOW = Integer.MIN_VALUE;
    private static final int HIGH = Integer.MAX_VALUE;
    /** 15 CELLS, of which 1 is a WALL; 2 CARTS, 3 LAMPS, 4 PEOPLE. */
    private static final String TOWN = "size 5 3;wall 1 0 to 1 0;tree 2 0 sways 8;cart 0 2 goes e w;cart 4 0 goes s;lamp 0 0;lamp 4 2;"
        + "lamp 2 1;person a at 0 1 looks e far 9;person b at 4 1 looks w far 9;person c at 2 2 looks n far 2;"
        + "person d at 3 0 looks s far 3;hides b from a;shows c to a;seen slow 5 turn 9 sign 3 self 12;";
    private static final String PLAN = "b does slow w slow e sign;a does turn ne turn e;d does loop 3 step s step n end;";
    private static final int CELLS = 15;
    private static final int WALL = 1;
    private static final int PEOPLE = 4;

    /** One of which nothing is as in a new object. */
    private static StillTown full() {
        StillTown x = Check.planned(TOWN, PLAN);
        x.mark();
        Check.plan(x, PLAN + "c does turn e;");
        x.mark();
        x.tray(0, 0, 5);
        x.tray(1, 0, 3);
        x.tray(2, 3, 60);
        for (int i = 0; i < 3; i++) {
            x.write(0, i, i + 1);
            x.write(1, i, -i - 1);
            x.write(2, i, 1L << 40 + i);
        }
        x.way(2, 7);
        x.day(77);
        x.safe(10, 7);
        Check.town(x, "size 2 2;lamp 9 9;");
        Check.feed(x, "size 2 2;lamp 0 0;lamp 0 0;");
        return x;
    }

    private static void stays(String call, StillTown x, StillTown y) {
        List<Long> want = Shown.of(y);
        Check.due(call + " changed something", Shown.of(x).equals(want), true);
    }

    /** The same with another TOWN: two in a row, and walls between them. */
    private static StillTown shutOff() {
        StillTown x = full();
        x.town(0);
        Check.town(x, "size 5 2;wall 1 0 to 2 1;person a at 0 0 looks e far 9;person b at 4 0 looks w far 9;shows a to b;hides b from a;");
        Check.plan(x, "b does sign step w;");
        return x;
    }

    private static void no(int status, String call, ToLongFunction<StillTown> asked) {
        no(status, call, RefusalTest::full, asked);
    }

    private static void no(int status, String call, Supplier<StillTown> made, ToLongFunction<StillTown> asked) {
        StillTown x = made.get();
        Check.refused(x, call, asked.applyAsLong(x), status);
        stays(call, x, made.get());
    }

    private static void denied(int status, String call, Predicate<StillTown> asked) {
        StillTown x = full();
        Check.denied(x, call, asked.test(x), status);
        stays(call, x, full());
    }

    private static void yes(String call, ToLongFunction<StillTown> asked) {
        StillTown x = full();
        Check.due(call + " is refused", asked.applyAsLong(x) == StillTown.NONE, false);
        Check.due(call + ": status", x.status(), 0);
    }

    private interface OneNumber {
        long ask(StillTown x, int v);
    }

    private interface TwoNumbers {
        long ask(StillTown x, int v, int w);
    }

    /** A number from least to most is taken, those around are refused with a STATUS of 1. */
    private static void range(String call, int least, int most, OneNumber asked) {
        for (int v : new int[] {least, least + 1, (least + most) / 2, most - 1, most}) {
            if (v >= least && v <= most) {
                StillTown x = full();
                asked.ask(x, v);
                Check.due(call + " of " + v + " has status 1", x.status() == 1, false);
            }
        }
        for (int v : new int[] {least - 1, least - 2, most + 1, most + 2, LOW, LOW + 1, HIGH, HIGH - 1}) {
            no(1, call + " of " + v, x -> asked.ask(x, v));
        }
    }

    private static void people(String call, OneNumber asked) {
        range(call + " of a person", 0, PEOPLE - 1, asked);
    }

    private static void twoPeople(String call, TwoNumbers asked) {
        range(call + ", the second one,", 1, PEOPLE - 1, (x, v) -> asked.ask(x, 0, v));
        range(call + ", the first one,", 0, PEOPLE - 2, (x, v) -> asked.ask(x, v, PEOPLE - 1));
        for (int p = 0; p < PEOPLE; p++) {
            int one = p;
            no(1, call + " of two that are one", x -> asked.ask(x, one, one));
        }
        no(1, call + " of two that are none, and one", x -> asked.ask(x, -1, -1));
    }

    /** Each CELL that is no WALL is taken. */
    private static void freeCells(String call, OneNumber asked) {
        range(call + " of a cell", 2, CELLS - 1, (x, v) -> asked.ask(x, v == 0 ? 1 : v));
        StillTown x = full();
        asked.ask(x, 0);
        Check.due(call + " of cell 0 has status 1", x.status() == 1, false);
        no(1, call + " of a wall", y -> asked.ask(y, WALL));
    }

    /** "no such TRAY, CELL, PERSON, CART, minute; two that are one", "a number that can't be". */
    private static void numbersThatCantBe() {
        range("told", 0, 9, (x, v) -> x.told(v));
        range("wall", 0, CELLS - 1, (x, v) -> x.wall(v));
        range("sways", 0, CELLS - 1, (x, v) -> x.sways(v));
        range("cart", 0, 1, (x, v) -> x.cart(v, 5));
        range("cart at a minute", 0, 60, (x, v) -> x.cart(1, v));
        range("lamp", 0, 2, (x, v) -> x.lamp(v));
        people("person", (x, v) -> x.person(v, 1));
        range("person, what", 0, 2, (x, v) -> x.person(1, v));
        people("at", (x, v) -> x.at(v, 5));
        range("at a minute", 0, 60, (x, v) -> x.at(1, v));
        people("looks", (x, v) -> x.looks(v, 5));
        range("looks at a minute", 0, 60, (x, v) -> x.looks(1, v));
        people("did", (x, v) -> x.did(v, 5));
        range("did in a minute", 1, 60, (x, v) -> x.did(1, v));
        people("sight", (x, v) -> x.sight(v, 5));
        range("sight at a minute", 0, 60, (x, v) -> x.sight(1, v));
        twoPeople("weight", (x, v, w) -> x.weight(v, w, 5));
        range("weight in a minute", 1, 60, (x, v) -> x.weight(1, 0, v));
        twoPeople("unseen", (x, v, w) -> x.unseen(v, w, 5));
        range("unseen till a minute", 0, 60, (x, v) -> x.unseen(1, 0, v));
        twoPeople("near", (x, v, w) -> x.near(v, w, 5));
        range("near till a minute", 0, 60, (x, v) -> x.near(1, 0, v));
        twoPeople("first", (x, v, w) -> x.first(v, w, 5));
        range("first with a weight", 1, 16, (x, v) -> x.first(1, 0, v));
        range("judged", 0, 2, (x, v) -> x.judged(v));
    }

    private static void numbersThatCantBeInWays() {
        people("way", (x, v) -> x.way(v, 14));
        freeCells("way", (x, v) -> x.way(1, v));
        people("likeliest", (x, v) -> x.likeliest(v, 14, 9));
        freeCells("likeliest", (x, v) -> x.likeliest(1, v, 9));
        range("likeliest in minutes", 1, 60, (x, v) -> x.likeliest(1, 14, v));
        people("shown", (x, v) -> x.shown(v));
        people("found", (x, v) -> x.found(v, 1));
        people("mayBe", (x, v) -> x.mayBe(v, 14, 9));
        freeCells("mayBe", (x, v) -> x.mayBe(1, v, 9));
        range("mayBe after minutes", 0, 60, (x, v) -> x.mayBe(1, 14, v));
        twoPeople("meeting", (x, v, w) -> x.meeting(v, w));
        freeCells("hunted: hunter", (x, v) -> x.hunted(v, 14));
        freeCells("hunted: hider", (x, v) -> x.hunted(14, v));
        no(1, "hunted in one wall", x -> x.hunted(WALL, WALL));
        range("lamps", 0, 8, (x, v) -> x.lamps(v));
        range("moving", 1, 60, (x, v) -> x.moving(v));
        people("gone", (x, v) -> x.gone(v));
        people("stands", (x, v) -> x.stands(v, 5));
        range("stands at a minute", 0, 60, (x, v) -> x.stands(1, v));
        twoPeople("stood", (x, v, w) -> x.stood(v, w));
        twoPeople("followed", (x, v, w) -> x.followed(v, w, 5));
        range("followed so far", 1, 9, (x, v) -> x.followed(1, 0, v));
        twoPeople("signs", (x, v, w) -> x.signs(v, w, 999999));
        range("signs at most", 0, 999999, (x, v) -> x.signs(1, 0, v));
        people("swept", (x, v) -> x.swept(v, 5));
        range("swept in minutes", 0, 60, (x, v) -> x.swept(1, v));
        range("gallery", 0, 8, (x, v) -> x.gallery(v));
        range("day", 0, 9999, (x, v) -> x.day(v));
        range("saw", 0, 7, (x, v) -> x.saw(v));
    }

    /** "a set of CELLS (1: more than 6, a CELL that there is not": FOUND. */
    private static void setsThatCantBe() {
        long all = (1L << CELLS) - 1;
        for (int n = 0; n <= 6; n++) {
            int many = n;
            yes("found of " + n, x -> x.found(1, all >>> CELLS - many));
        }
        for (int n = 7; n <= CELLS; n++) {
            int many = n;
            no(1, "found of " + n, x -> x.found(1, all >>> CELLS - many));
        }
        yes("found of the last cell", x -> x.found(1, 1L << CELLS - 1));
        for (int cell = CELLS; cell < 64; cell++) {
            long none = 1L << cell;
            no(1, "found of cell " + cell, x -> x.found(1, none));
            no(1, "found of cell " + cell + " and one", x -> x.found(1, none | 2));
        }
        no(1, "found of all", x -> x.found(1, -1));
        no(1, "found of the highest 6", x -> x.found(1, 63L << 58));
    }

    /** "STATUS of a call is the first of these that holds": TRAYS. */
    private static void traysThatCantBe() {
        for (int tray : new int[] {-1, 4, LOW, HIGH}) {
            denied(1, "tray " + tray, x -> x.tray(tray, 1, 1));
            denied(1, "write to tray " + tray, x -> x.write(tray, 99, 1));
            no(1, "read of tray " + tray, x -> x.read(tray, 99));
            denied(1, "pour from tray " + tray, x -> x.pour(tray, 99, 3, 99, 99));
            denied(1, "pour to tray " + tray, x -> x.pour(3, 99, tray, 99, 99));
            no(1, "words of tray " + tray, x -> x.words(tray, 2, 2));
        }
        for (int sort : new int[] {-1, 4, LOW, HIGH}) {
            denied(1, "tray of sort " + sort, x -> x.tray(0, sort, 1));
        }
        for (int many : new int[] {-1, 61, LOW, HIGH}) {
            denied(1, "tray of " + many, x -> x.tray(0, 1, many));
        }
        for (int place : new int[] {0, -1, 5, LOW, HIGH}) {
            denied(2, "write where there is no tray", x -> x.write(3, place, 1));
            no(2, "read where there is no tray", x -> x.read(3, place));
        }
        for (int place : new int[] {-1, 3, 4, 60, LOW, HIGH}) {
            denied(3, "write to place " + place, x -> x.write(1, place, 1));
            no(3, "read of place " + place, x -> x.read(1, place));
        }
        for (int place : new int[] {-1, 60, 61, 64}) {
            denied(3, "write to place " + place + " of 60", x -> x.write(2, place, 1));
            no(3, "read of place " + place + " of 60", x -> x.read(2, place));
        }
    }

    /** "1: below 0, too; 2; 8; 3; asked in this order": pour. */
    private static void pourInThisOrder() {
        // TRAYS 0 and 1 are of sort 0 and have 5 and 3 numbers, 2 is of sort 3, 3 is MISSING
        int[][] calls = {
            {-1, 0, 1, 0, 1, 1}, {0, -1, 1, 0, 1, 1}, {0, 0, -1, 0, 1, 1}, {0, 0, 1, -1, 1, 1}, {0, 0, 1, 0, -1, 1},
            {3, -1, 2, 99, 99, 1}, {3, 99, 2, -1, 99, 1}, {3, 99, 2, 99, -1, 1}, {2, -1, 1, 99, 99, 1}, {0, LOW, 0, LOW, LOW, 1},
            {3, 99, 2, 99, 99, 2}, {2, 99, 3, 99, 99, 2}, {3, 0, 3, 0, 0, 2}, {3, HIGH, 0, HIGH, HIGH, 2},
            {0, 99, 2, 99, 99, 8}, {2, 99, 1, 0, 1, 8}, {0, 0, 2, 0, 0, 8}, {2, HIGH, 1, HIGH, HIGH, 8},
            {0, 3, 1, 0, 3, 3}, {0, 2, 1, 1, 3, 3}, {0, 5, 1, 0, 1, 3}, {0, 6, 1, 0, 0, 3}, {0, 0, 1, 4, 0, 3}, {0, 0, 1, 3, 1, 3},
            {0, 0, 1, 0, 4, 3}, {1, 0, 0, 0, 4, 3}, {0, HIGH, 1, 0, 1, 3}, {0, 0, 1, HIGH, 1, 3}, {0, 0, 1, 0, HIGH, 3},
            {0, 1, 1, 1, HIGH, 3}, {0, HIGH, 1, HIGH, HIGH, 3}, {0, 0, 0, 1, 5, 3}, {0, 1, 0, 0, 5, 3},
        };
        for (int[] v : calls) {
            denied(v[5], "pour " + Arrays.toString(v), x -> x.pour(v[0], v[1], v[2], v[3], v[4]));
        }
        int[][] fine = {{0, 0, 1, 0, 3}, {0, 2, 1, 0, 3}, {0, 4, 1, 2, 1}, {1, 0, 0, 2, 3}, {0, 0, 0, 0, 5}, {0, 5, 1, 3, 0}, {0, 0, 1, 0, 0}, {2, 0, 2, 0, 60}};
        for (int[] v : fine) {
            StillTown x = full();
            Check.affirmed(x, "pour " + Arrays.toString(v), x.pour(v[0], v[1], v[2], v[3], v[4]));
        }
    }

    private static StillTown withUses(long... uses) {
        StillTown x = full();
        x.tray(1, 3, uses.length);
        for (int i = 0; i < uses.length; i++) {
            x.write(1, i, uses[i]);
        }
        return x;
    }

    /** "(1, 2, 3, 5; in this order)": words. */
    private static void wordsInThisOrder() {
        for (int many : new int[] {-1, 0, 1, 21, 22, LOW, HIGH}) {
            no(1, "words, " + many + " of none", x -> x.words(3, many, 2));
        }
        for (int kinds : new int[] {-1, 0, 1, 9, 10, LOW, HIGH}) {
            no(1, "words of none by " + kinds, x -> x.words(3, 2, kinds));
        }
        no(2, "words of none", x -> x.words(3, 2, 2));
        no(2, "words of none, 20 by 8", x -> x.words(3, 20, 8));
        // of TRAY 1 the numbers are -1, -2, -3; of TRAY 2 they are too great
        no(3, "four of three", x -> x.words(1, 4, 2));
        no(3, "twenty of three", x -> x.words(1, 20, 8));
        no(5, "three of three", x -> x.words(1, 3, 2));
        no(5, "two of three", x -> x.words(1, 2, 8));
        no(5, "too great", x -> x.words(2, 2, 2));
        long[] bad = {-1, 10000, 10001, Long.MIN_VALUE, Long.MAX_VALUE, 1L << 32, -(1L << 32), (1L << 32) + 5};
        for (long uses : bad) {
            for (int place = 0; place < 3; place++) {
                long[] row = {1, 1, 1, uses};
                row[3] = 1;
                row[place] = uses;
                StillTown x = withUses(row);
                Check.refused(x, "uses " + uses + " at " + place, x.words(1, 3, 2), 5);
                stays("uses " + uses, x, withUses(row));
            }
            StillTown x = withUses(1, 1, 1, uses);
            Check.answered(x, "behind those asked for " + uses, x.words(1, 3, 2), 5);
            Check.refused(x, "too few, ahead of a bad one", x.words(1, 5, 2), 3);
        }
        StillTown x = withUses(0, 9999, 0, 9999);
        Check.answered(x, "0 and 9,999", x.words(1, 4, 2), 9999 * 3);
    }

    /** "safe: so many seeds (1 to 30) from one on .. (1: the last above 9,999, too)". */
    private static void seedsThatCantBe() {
        for (int many : new int[] {0, -1, 31, 32, LOW, HIGH}) {
            denied(1, "safe of " + many, x -> x.safe(5, many));
        }
        for (int seed : new int[] {-1, -2, 10000, 10001, LOW, HIGH}) {
            denied(1, "safe from " + seed, x -> x.safe(seed, 1));
            denied(1, "safe from " + seed, x -> x.safe(seed, 30));
        }
        for (int many = 1; many <= 30; many++) {
            int n = many;
            StillTown x = full();
            Check.affirmed(x, "safe till 9,999", x.safe(10000 - n, n));
            denied(1, "safe till 10,000", y -> y.safe(10001 - n, n));
            Check.affirmed(x, "safe from 0", x.safe(0, n));
        }
        denied(1, "safe far beyond", x -> x.safe(HIGH, 30));
    }

    /** "6 there is none such": calls that find nothing change nothing. */
    private static void noneSuch() {
        no(6, "a way that there is not", x -> x.way(1, 0));
        no(6, "likeliest, too far", x -> x.likeliest(1, 0, 1));
        no(6, "likeliest, just too far", x -> x.likeliest(1, 0, 3));
        no(6, "first of one who is not seen", x -> x.first(2, 0, 1));
        no(6, "way through walls", RefusalTest::shutOff, x -> x.way(0, 4));
        no(6, "meeting through walls", RefusalTest::shutOff, x -> x.meeting(0, 1));
        no(6, "found behind walls", RefusalTest::shutOff, x -> x.found(0, 1L << 4));
        no(6, "hunted through walls", RefusalTest::shutOff, x -> x.hunted(0, 4));
        no(6, "shown through walls", RefusalTest::shutOff, x -> x.shown(0));
        no(6, "first through walls", RefusalTest::shutOff, x -> x.first(0, 1, 1));
        for (int what = 0; what <= 2; what++) {
            int asked = what;
            no(6, "judged of nobody", RefusalTest::shutOff, x -> x.judged(asked));
        }
        for (int minute : new int[] {-1, -2, LOW, 60, 61, 62, HIGH}) {
            no(6, "wayCell " + minute, x -> x.wayCell(minute));
        }
        no(6, "lamps of all", x -> x.lamps(8));
        no(6, "gallery of all", x -> x.gallery(8));
        no(6, "signs, never so few", x -> x.signs(2, 3, 0));
        no(6, "saw of nobody", x -> x.saw(4));
        no(6, "saw of nobody, the last", x -> x.saw(7));
    }

    /** "4 one too many": a fourth MARK. "6": no MARK to be taken back to. */
    private static void marksThatCantBe() {
        StillTown x = full();
        StillTown y = full();
        Check.answered(x, "a third mark", x.mark(), 3);
        y.mark();
        Check.refused(x, "a fourth mark", x.mark(), 4);
        Check.refused(x, "and again", x.mark(), 4);
        stays("a fourth mark", x, y);
        StillTown none = new StillTown();
        Check.refused(none, "no mark", none.back(), 6);
        Check.refused(none, "and again", none.back(), 6);
        stays("no mark", none, new StillTown());
        Check.answered(none, "the first mark", none.mark(), 1);
        Check.answered(none, "gone", none.back(), 0);
        Check.refused(none, "no mark any more", none.back(), 6);
    }

    /** "1: n below 0, or more than the tape has, too", "1: above 300, too": the tape stays then. */
    private static void lengthsThatCantBe() {
        // the tape of full() has 40 bytes
        for (int n : new int[] {-1, -2, LOW, 41, 42, 901, HIGH}) {
            no(1, "town of " + n, x -> x.town(n));
            no(1, "plan of " + n, x -> x.plan(n));
        }
        StillTown x = full();
        Check.refused(x, "all that there is", x.town(40), 9);
        Check.due("its fault", x.fault(0), 5);
        Check.refused(x, "nothing is left", x.town(1), 1);
        Check.due("the fault stays", x.fault(0), 5);
        x = full();
        Check.answered(x, "all but the lamps", x.town(9), 4);
        Check.refused(x, "nothing is left", x.town(1), 1);
        Check.due("without a fault", x.fault(0), 0);
        for (int size : new int[] {280, 300, 320}) {
            StillTown y = full();
            Check.feed(y, " ".repeat(size - 40));
            Check.refused(y, "301 of " + size, y.plan(301), 1);
            Check.refused(y, "more than " + size, y.plan(size + 1), 1);
            Check.due("the tape stays", y.feed(0, 0, 0, 0, 0), size + 20);
        }
    }

    /** "changes nothing else (but town(), plan() with 9 the tape, and what fault() tells)". */
    private static void faultsChangeTheTapeAlone() {
        String[] texts = {"", "size 3 3;lamp 0 0;lamp 0 0;", "size 3 3;person q at 0 0 looks n far 1;seen slow 1 turn 1 sign 1 self 17;"};
        for (String text : texts) {
            StillTown x = full();
            x.plan(0);
            x.back();
            Check.refused(x, "town " + text, Check.town(x, text), 9);
            int kind = x.fault(0);
            int place = x.fault(1);
            StillTown y = full();
            y.plan(0);
            y.back();
            Check.refused(y, "the same fault", Check.town(y, "?"), 9);
            List<Long> want = Shown.of(y);
            want.set(2, (long) kind);
            want.set(3, (long) place);
            Check.due("a town with a fault changed something", Shown.of(x).equals(want), true);
        }
        for (String text : new String[] {"a does step n;b does step n;c does sign;d", "a does loop 60 step e end;a", "d does loop 2 loop 2 step s"}) {
            StillTown x = full();
            x.plan(0);
            x.back();
            Check.refused(x, "plan " + text, Check.plan(x, text), 9);
            StillTown y = full();
            y.plan(0);
            y.back();
            Check.refused(y, "the same fault", Check.plan(y, "?"), 9);
            List<Long> want = Shown.of(y);
            want.set(2, (long) x.fault(0));
            want.set(3, (long) x.fault(1));
            Check.due("a plan with a fault changed something", Shown.of(x).equals(want), true);
        }
    }

    /** "NONE for others, and ahead of any": fault. It has no STATUS, nor have status(), top(), bottom(), feed(). */
    private static void callsWithoutStatus() {
        for (int what : new int[] {-1, 2, 3, LOW, HIGH}) {
            StillTown x = full();
            x.told(10);
            Check.due("fault " + what, x.fault(what), StillTown.NONE);
            Check.due("no status of it", x.status(), 1);
            x.told(0);
            Check.due("fault " + what, x.fault(what), StillTown.NONE);
            Check.due("no status of it", x.status(), 0);
            x.told(0);
            stays("fault " + what, x, full());
        }
        StillTown x = full();
        x.read(3, 0);
        for (int i = 0; i < 43; i++) {
            Check.due("feed", x.feed(i, i, i, i, i), 60 + 20 * i);
            Check.due("no status of feed", x.status(), 2);
        }
        for (int i = 0; i < 3; i++) {
            Check.due("feed beyond 900", x.feed(i, i, i, i, i), StillTown.NONE);
            Check.due("no status of feed beyond", x.status(), 2);
            Check.refused(x, "901 bytes", x.town(901), 1);
            x.read(3, 0);
        }
        Check.refused(x, "900 bytes", x.town(900), 9);
        x.top();
        x.bottom();
        x.fault(0);
        x.feed(0, 0, 0, 0, 0);
        Check.due("the status stays", x.status(), 9);
        Check.due("and again", x.status(), 9);
    }

    /** A new object, asked for all that there is not. */
    private static void nobodyAndNothing() {
        StillTown x = new StillTown();
        long[] none = {x.wall(0), x.sways(0), x.cart(0, 0), x.lamp(0), x.person(0, 0), x.at(0, 0), x.looks(0, 0), x.did(0, 1), x.sight(0, 0),
            x.weight(0, 1, 1), x.unseen(0, 1, 0), x.near(0, 1, 0), x.first(0, 1, 1), x.way(0, 0), x.likeliest(0, 0, 1), x.shown(0),
            x.found(0, 0), x.mayBe(0, 0, 0), x.meeting(0, 1), x.hunted(0, 0), x.gone(0), x.stands(0, 0), x.stood(0, 1), x.followed(0, 1, 1),
            x.signs(0, 1, 0), x.swept(0, 0)};
        for (int i = 0; i < none.length; i++) {
            Check.due("call " + i + " of a new object", none[i], StillTown.NONE);
        }
        Check.due("their status", x.status(), 1);
        stays("asking a new object", x, new StillTown());
        StillTown bare = Check.townOf("size 2 2;");
        Check.refused(bare, "nobody's way", bare.way(0, 0), 1);
        Check.answered(bare, "the last of four cells", bare.hunted(3, 3), 0);
        Check.refused(bare, "a fifth cell", bare.hunted(4, 4), 1);
        Check.answered(bare, "nothing moves", bare.moving(60), 0);
        Check.refused(bare, "nobody is judged", bare.judged(0), 6);
        Check.answered(bare, "no plan", bare.plan(0), 0);
    }

    public static void main(String[] args) {
        numbersThatCantBe();
        numbersThatCantBeInWays();
        setsThatCantBe();
        traysThatCantBe();
        pourInThisOrder();
        wordsInThisOrder();
        seedsThatCantBe();
        noneSuch();
        marksThatCantBe();
        lengthsThatCantBe();
        faultsChangeTheTapeAlone();
        callsWithoutStatus();
        nobodyAndNothing();
        Check.finish("RefusalTest");
    }
}
