/**
 * The edges that the document names outside its texts, a sentence a test: the value at the edge, the one ahead of
 * it and the one behind it, the empty and the full. What is refused stands in RefusalTest.
 */
public final class EdgeTest {
    private static final String[] WAYS = {"n", "ne", "e", "se", "s", "sw", "w", "nw"};
    private static final int[] EAST = {0, 1, 1, 1, 0, -1, -1, -1};
    private static final int[] SOUTH = {-1, -1, 0, 1, 1, 1, 0, -1};
    /** o sees the CELLS 4 and 5 of 0 1 2 / 3 4 5 alone. */
    private static final String CORNER = "size 3 2;person p at 0 0 looks e far 9;person o at 2 0 looks s far 9;hides p from o;";

    private static void plan(StillTown x, String text) {
        Check.due("the plan is taken: " + text, Check.plan(x, text) >= 0, true);
    }

    /** The CELLS that are marked with #, row by row. */
    private static long picture(String... rows) {
        long set = 0;
        int cell = 0;
        for (String row : rows) {
            for (char sign : row.toCharArray()) {
                set |= sign == '#' ? 1L << cell : 0;
                cell++;
            }
        }
        return set;
    }

    private static String times(int n, String part) {
        return part.repeat(n);
    }

    /** A wall for each CELL that is marked with #. */
    private static String walls(String... rows) {
        StringBuilder text = new StringBuilder("size " + rows[0].length() + " " + rows.length + ";");
        for (int y = 0; y < rows.length; y++) {
            for (int px = 0; px < rows[y].length(); px++) {
                int from = px;
                while (px < rows[y].length() && rows[y].charAt(px) == '#') {
                    px++;
                }
                if (px > from) {
                    text.append("wall ").append(from).append(" ").append(y).append(" to ").append(px - 1).append(" ").append(y).append(";");
                }
            }
        }
        return text.toString();
    }

    private static void path(StillTown x, int person, int... cells) {
        int goal = cells[cells.length - 1];
        Check.answered(x, "way to " + goal, x.way(person, goal), cells.length - 1);
        for (int t = 0; t < cells.length; t++) {
            Check.answered(x, "its cell behind minute " + t, x.wayCell(t), cells[t]);
        }
        Check.refused(x, "behind its end", x.wayCell(cells.length), 6);
    }

    private static void fraction(StillTown x, long top, long bottom) {
        Check.due("top", x.top(), top);
        Check.due("bottom", x.bottom(), bottom);
    }

    /** "An object is used for at most 512 calls": the last one answers as the first one. */
    private static void fiveHundredAndTwelveCalls() {
        StillTown x = new StillTown();
        int calls = 0;
        String text = "size 8 6;person a at 0 0 looks se far 9;";
        calls += (text.length() + 19) / 20 + 1;
        Check.answered(x, "town", Check.town(x, text), 48);
        calls++;
        for (; calls < 510; calls++) {
            x.swept(0, 60);
        }
        Check.answered(x, "call 511", x.way(0, 47), 7);
    }

    /** "TRAYS 0 to 3 are MISSING at first, or rows of 0 to 60 numbers". */
    private static void traysAtFirst() {
        for (int tray = 0; tray < 4; tray++) {
            for (int many : new int[] {0, 1, 2, 59, 60}) {
                StillTown x = new StillTown();
                Check.refused(x, "missing at first", x.read(tray, 0), 2);
                Check.affirmed(x, "tray of " + many, x.tray(tray, 3, many));
                for (int place = 0; place <= 60; place++) {
                    if (place < many) {
                        Check.answered(x, "its place " + place, x.read(tray, place), 0);
                        Check.affirmed(x, "write", x.write(tray, place, -place - 1));
                    } else {
                        Check.refused(x, "no place " + place, x.read(tray, place), 3);
                    }
                }
                for (int place = 0; place < many; place += 13) {
                    Check.answered(x, "what was written", x.read(tray, place), -place - 1);
                }
                for (int other = 0; other < 4; other++) {
                    if (other != tray) {
                        Check.refused(x, "the others are missing", x.read(other, 0), 2);
                    }
                }
            }
        }
    }

    /** "8 bits (sort 0), 16 (1), 32 (2) or 64 (3)", "cut to its sort": the numbers that wrap around. */
    private static void numbersCutToTheirSort() {
        int[] bits = {8, 16, 32, 64};
        for (int sort = 0; sort < 4; sort++) {
            long half = 1L << bits[sort] - 1;
            long most = half - 1;
            StillTown x = new StillTown();
            x.tray(0, sort, 3);
            long[][] rows = {{0, 0}, {1, 1}, {-1, -1}, {most, most}, {most - 1, most - 1}, {half, -most - 1}, {half + 1, -most},
                {-half, -most - 1}, {-half - 1, most}, {2 * half, 0}, {2 * half - 1, -1}, {2 * half + 1, 1}, {-2 * half, 0}, {-2 * half - 1, -1}};
            for (long[] row : rows) {
                Check.affirmed(x, "write " + row[0], x.write(0, 1, row[0]));
                Check.answered(x, "sort " + sort + ", " + row[0], x.read(0, 1), row[1]);
            }
            x.write(0, 1, Long.MAX_VALUE);
            Check.answered(x, "sort " + sort + ", the greatest", x.read(0, 1), sort == 3 ? Long.MAX_VALUE : -1);
            x.write(0, 1, Long.MIN_VALUE);
            Check.answered(x, "sort " + sort + ", the least", x.read(0, 1), sort == 3 ? Long.MIN_VALUE : 0);
            Check.answered(x, "the place ahead", x.read(0, 0), 0);
            Check.answered(x, "the place behind", x.read(0, 2), 0);
        }
    }

    /** "STATUS tells NONE from -1". */
    private static void noneOrMinusOne() {
        StillTown x = new StillTown();
        x.tray(0, 3, 1);
        x.write(0, 0, -1);
        Check.answered(x, "a number of -1", x.read(0, 0), -1);
        Check.refused(x, "none", x.read(0, 1), 3);
    }

    /** "come to another one's (or its own) place on, as they were": every place of a TRAY of 5 onto every other one. */
    private static void pouredAsTheyWere() {
        for (int place = 0; place <= 5; place++) {
            for (int at = 0; at <= 5; at++) {
                for (int many = 0; many <= 5; many++) {
                    pouredOnce(place, at, many);
                }
            }
        }
    }

    private static void pouredOnce(int place, int at, int many) {
        boolean fits = place + many <= 5 && at + many <= 5;
        for (int to = 0; to < 2; to++) {
            StillTown x = new StillTown();
            x.tray(0, 3, 5);
            x.tray(1, 3, 5);
            for (int i = 0; i < 5; i++) {
                x.write(0, i, Long.MIN_VALUE + i);
                x.write(1, i, 100 + i);
            }
            Check.due("pour " + place + " " + to + " " + at + " " + many, x.pour(0, place, to, at, many), fits);
            Check.due("its status", x.status(), fits ? 0 : 3);
            for (int i = 0; i < 5; i++) {
                boolean came = fits && i >= at && i < at + many;
                long stayed = to == 0 ? Long.MIN_VALUE + i : 100 + i;
                Check.answered(x, "place " + i, x.read(to, i), came ? Long.MIN_VALUE + place + i - at : stayed);
                Check.answered(x, "place " + i + " of the other", x.read(1 - to, i), to == 0 ? 100 + i : Long.MIN_VALUE + i);
            }
        }
    }

    /** "Twenty bytes come behind those on the tape, the highest of each int first": a byte has no sign. */
    private static void bytesFromTheHighest() {
        StillTown x = new StillTown();
        Check.due("feed", x.feed('s' << 24 | 'i' << 16 | 'z' << 8 | 'e', ' ' << 24 | '2' << 16 | ' ' << 8 | '6', ';' << 24 | 0x800000 | 0xff00 | 255, -1, 0), 20);
        Check.refused(x, "with a byte of 128", x.town(10), 9);
        Check.due("no TOKEN begins so", x.fault(0), 1);
        Check.due("its place", x.fault(1), 9);
        x.feed('s' << 24 | 'i' << 16 | 'z' << 8 | 'e', ' ' << 24 | '2' << 16 | ' ' << 8 | '6', ';' << 24 | 0x20ff00, Integer.MIN_VALUE, 0);
        Check.answered(x, "ahead of a byte of 255", x.town(10), 12);
        // 160 less 128 is a blank, but 160 is none
        x.feed('s' << 24 | 'i' << 16 | 'z' << 8 | 'e', 160 << 24 | '2' << 16 | ' ' << 8 | '6', ';' << 24, 0, 0);
        Check.refused(x, "160 is no blank", x.town(9), 9);
        Check.due("its place", x.fault(1), 4);
    }

    /** "WAYS are numbered 0 (n) to 7 (nw)", "F is above 0, S at most F", "it is another CELL". */
    private static void aheadAndAside() {
        String[][] rows = {
            {"#####", ".###.", ".....", ".....", "....."},
            {"..###", "..###", "...##", ".....", "....."},
            {"....#", "...##", "...##", "...##", "....#"},
            {".....", ".....", "...##", "..###", "..###"},
            {".....", ".....", ".....", ".###.", "#####"},
            {".....", ".....", "##...", "###..", "###.."},
            {"#....", "##...", "##...", "##...", "#...."},
            {"###..", "###..", "##...", ".....", "....."},
        };
        for (int way = 0; way < 8; way++) {
            StillTown x = Check.townOf("size 5 5;person a at 2 2 looks " + WAYS[way] + " far 2;");
            Check.answered(x, "sight " + WAYS[way], x.sight(0, 0), picture(rows[way]));
            Check.answered(x, "looks " + WAYS[way], x.looks(0, 0), way);
            x = Check.townOf("size 5 5;person a at 2 2 looks " + WAYS[way] + " far 1;");
            Check.answered(x, "sight " + WAYS[way] + " far 1", x.sight(0, 0),
                picture(rows[way]) & picture(".....", ".###.", ".###.", ".###.", "....."));
        }
    }

    /** "at most FAR off (the greater size of dx, dy)". */
    private static void asFarAsOneSees() {
        for (int far = 1; far <= 9; far++) {
            StillTown x = Check.townOf("size 8 2;person a at 0 0 looks e far " + far + ";person b at 7 1 looks w far " + far + ";");
            String row = (times(far, "#") + "........").substring(0, 7);
            Check.answered(x, "east, far " + far, x.sight(0, 0), picture("." + row, "." + row));
            String back = new StringBuilder(row).reverse().toString();
            Check.answered(x, "west, far " + far, x.sight(1, 0), picture(back + ".", back + "."));
            x = Check.townOf("size 2 6;person a at 0 0 looks s far " + far + ";");
            String[] rows = {"..", "..", "..", "..", "..", ".."};
            for (int y = 1; y <= Math.min(far, 5); y++) {
                rows[y] = "##";
            }
            Check.answered(x, "south, far " + far, x.sight(0, 0), picture(rows));
            x = Check.townOf("size 6 6;person a at 5 5 looks nw far " + far + ";");
            long all = 0;
            for (int cell = 0; cell < 35; cell++) {
                all |= 5 - cell % 6 <= far && 5 - cell / 6 <= far ? 1L << cell : 0;
            }
            Check.answered(x, "north-west, far " + far, x.sight(0, 0), all);
        }
    }

    /** "k 1 to n less 1, each rounded to the nearest (halves up): no WALL": one wall at each CELL of the town. */
    private static void whatIsBetween() {
        // dx and dy of what is looked at, then of those between
        int[][] lines = {
            {1, 0}, {1, 1}, {2, 0, 1, 0}, {2, 2, 1, 1}, {2, 1, 1, 1}, {2, -1, 1, 0}, {-2, 1, -1, 1}, {-2, -1, -1, 0},
            {1, 2, 1, 1}, {-1, 2, 0, 1}, {1, -2, 1, -1}, {-1, -2, 0, -1},
            {3, 1, 1, 0, 2, 1}, {3, -1, 1, 0, 2, -1}, {3, 2, 1, 1, 2, 1}, {3, -2, 1, -1, 2, -1}, {-3, 1, -1, 0, -2, 1},
            {1, 3, 0, 1, 1, 2}, {-1, 3, 0, 1, -1, 2}, {-2, -3, -1, -1, -1, -2},
            {4, 1, 1, 0, 2, 1, 3, 1}, {4, -1, 1, 0, 2, 0, 3, -1}, {4, 3, 1, 1, 2, 2, 3, 2}, {4, -3, 1, -1, 2, -1, 3, -2},
            {-4, 1, -1, 0, -2, 1, -3, 1}, {-4, -1, -1, 0, -2, 0, -3, -1}, {1, 4, 0, 1, 1, 2, 1, 3}, {-1, 4, 0, 1, 0, 2, -1, 3},
            {4, 2, 1, 1, 2, 1, 3, 2}, {4, -2, 1, 0, 2, -1, 3, -1}, {5, 1, 1, 0, 2, 0, 3, 1, 4, 1}, {7, 0, 1, 0, 2, 0, 3, 0, 4, 0, 5, 0, 6, 0},
            {6, 1, 1, 0, 2, 0, 3, 1, 4, 1, 5, 1}, {6, -1, 1, 0, 2, 0, 3, 0, 4, -1, 5, -1}, {-6, -1, -1, 0, -2, 0, -3, 0, -4, -1, -5, -1},
        };
        for (int[] line : lines) {
            int x0 = line[0] < 0 ? 7 : 0;
            int y0 = line[1] < 0 ? 5 : 0;
            String look = WAYS[wayOf(line[0], line[1])];
            int goal = (y0 + line[1]) * 8 + x0 + line[0];
            String town = "size 8 6;person a at " + x0 + " " + y0 + " looks " + look + " far 9;";
            for (int cell = 0; cell < 48; cell++) {
                if (cell != y0 * 8 + x0) {
                    boolean between = false;
                    for (int i = 2; i < line.length; i += 2) {
                        between |= cell == (y0 + line[i + 1]) * 8 + x0 + line[i];
                    }
                    String at = cell % 8 + " " + cell / 8;
                    StillTown x = Check.townOf(town + "wall " + at + " to " + at + ";");
                    Check.answered(x, line[0] + ", " + line[1] + " with a wall at " + at, x.sight(0, 0) >>> goal & 1, between ? 0 : 1);
                }
            }
        }
    }

    /** The diagonal towards a CELL, or the straight WAY to one in the same row or column. */
    private static int wayOf(int dx, int dy) {
        for (int way = 0; way < 8; way++) {
            if (EAST[way] == Integer.signum(dx) && SOUTH[way] == Integer.signum(dy)) {
                return way;
            }
        }
        return 0;
    }

    /** "no CART (at that minute)": ahead, beside and behind; a CART on the CELL itself hides nothing. */
    private static void cartsBetween() {
        StillTown x = Check.townOf("size 5 2;wall 0 1 to 4 1;person a at 0 0 looks e far 9;cart 1 1 goes n e e e s;");
        // row 0 behind each minute: the cart below, at 1, 2, 3, 4, and below again
        String[] rows = {".####", ".#...", ".##..", ".###.", ".####", ".####"};
        // of the walls below only those that the cart does not hide
        for (int t = 0; t < rows.length; t++) {
            Check.answered(x, "behind minute " + t, x.sight(0, t) & 31, picture(rows[t]));
        }
        x = Check.townOf("size 5 2;person a at 0 0 looks e far 9;cart 0 0 goes n;cart 4 0 goes e;");
        Check.answered(x, "carts at both ends", x.sight(0, 0), picture(".####", ".####"));
        x = Check.townOf("size 5 2;person a at 0 0 looks e far 9;cart 3 0 goes s;cart 3 0 goes s;cart 2 0 goes sw;cart 0 0 goes w;");
        Check.answered(x, "four carts", x.sight(0, 60) & 31, picture(".####"));
        Check.answered(x, "ahead of their going", x.sight(0, 0) & 31, picture(".##.."));
    }

    /** "into a WALL or out of the TOWN nobody goes: that one is STILL then, and looks as before (a CART that would go out stays)". */
    private static void outOfTheTown() {
        for (int cell = 0; cell < 9; cell++) {
            for (int way = 0; way < 8; way++) {
                int px = cell % 3 + EAST[way];
                int py = cell / 3 + SOUTH[way];
                boolean out = px < 0 || px > 2 || py < 0 || py > 2;
                int goal = out ? cell : py * 3 + px;
                String place = cell % 3 + " " + cell / 3;
                String look = WAYS[(way + 3) % 8];
                StillTown x = Check.townOf("size 3 3;person a at " + place + " looks " + look + " far 1;person b at " + place + " looks "
                    + look + " far 1;cart " + place + " goes " + WAYS[way] + ";");
                plan(x, "a does step " + WAYS[way] + ";b does slow " + WAYS[way] + ";");
                for (int p = 0; p < 2; p++) {
                    Check.answered(x, "from " + cell + " " + WAYS[way], x.at(p, 1), goal);
                    Check.answered(x, "it looks", x.looks(p, 1), out ? (way + 3) % 8 : way);
                    Check.answered(x, "it did", x.did(p, 1), out ? 0 : 1 + p);
                }
                Check.answered(x, "the cart", x.cart(0, 1), goal);
                Check.answered(x, "what moved", x.moving(1), out ? 0 : 3);
            }
        }
    }

    private static void intoAWall() {
        String walls = "wall 0 0 to 2 0;wall 0 1 to 0 1;wall 2 1 to 2 1;wall 0 2 to 2 2;";
        for (int way = 0; way < 8; way++) {
            StillTown x = Check.townOf("size 3 3;" + walls + "person a at 1 1 looks s far 1;cart 1 1 goes " + WAYS[way] + ";");
            plan(x, "a does step " + WAYS[way] + " slow " + WAYS[way] + ";");
            Check.answered(x, "into a wall", x.at(0, 2), 4);
            Check.answered(x, "it looks as before", x.looks(0, 2), 4);
            Check.answered(x, "it did not step", x.did(0, 1), 0);
            Check.answered(x, "nor go slowly", x.did(0, 2), 0);
            Check.answered(x, "the cart goes over it", x.cart(0, 1), 4 + EAST[way] + 3 * SOUTH[way]);
        }
        // between two walls at their corners one goes
        StillTown x = Check.townOf("size 2 2;wall 1 0 to 1 0;wall 0 1 to 0 1;person a at 0 0 looks n far 1;");
        plan(x, "a does step se;");
        Check.answered(x, "aslant between two walls", x.at(0, 1), 3);
        // nor does anybody mind who stands there
        x = Check.townOf("size 2 2;person a at 0 0 looks n far 1;person b at 1 0 looks n far 1;lamp 1 0;tree 1 0 sways 16;cart 1 0 goes n;");
        plan(x, "a does step e;b does step w;");
        Check.answered(x, "past one another", x.at(0, 1), 1);
        Check.answered(x, "both of them", x.at(1, 1), 0);
    }

    /** "still: SELF, if who looks stepped, went slowly or turned in that minute, else 0". */
    private static void seenByOneWhoMoves() {
        StillTown x = Check.townOf("size 5 2;person o at 1 0 looks e far 9;person p at 4 0 looks n far 1;");
        plan(x, "o does step e slow w turn e sign still 1 step n step nw turn e;");
        int[] weight = {16, 0, 16, 0, 0, 0, 0, 16};
        for (int t = 1; t <= 8; t++) {
            Check.answered(x, "still, minute " + t, x.weight(0, 1, t), weight[t - 1]);
        }
        for (int self = 0; self <= 16; self++) {
            x = Check.townOf("size 5 2;person o at 1 0 looks e far 9;person p at 4 0 looks n far 1;seen slow 0 turn 0 sign 0 self " + self + ";");
            plan(x, "o does turn e;");
            Check.answered(x, "self " + self, x.weight(0, 1, 1), self);
            Check.answered(x, "in the next minute", x.weight(0, 1, 2), 0);
        }
    }

    /** "step 16, slow, turn, sign as SEEN", "On a TREE's CELL: times 16 less SWAYS, by 16, rounded down": all SWAYS. */
    private static void weightsInATree() {
        int[] plain = {16, 5, 9, 3, 12};
        for (int sways = 0; sways <= 16; sways++) {
            StillTown x = Check.townOf("size 5 2;tree 3 0 sways " + sways + ";person o at 0 0 looks e far 9;person p at 4 0 looks n far 1;"
                + "seen slow 5 turn 9 sign 3 self 12;");
            plan(x, "p does step w turn n sign still 1 step e slow w step w;o does still 3 turn e;");
            int[] minute = {1, 6, 2, 3, 4};
            for (int i = 0; i < 5; i++) {
                Check.answered(x, "sways " + sways + ", kind " + i, x.weight(0, 1, minute[i]), plain[i] * (16 - sways) / 16);
            }
            // it is the CELL where it is behind the minute
            Check.answered(x, "out of the tree", x.weight(0, 1, 5), 16);
            Check.answered(x, "out of the tree, west", x.weight(0, 1, 7), 16);
            // it is the CELL of the one who is seen
            x = Check.townOf("size 5 2;tree 0 0 sways " + sways + ";person o at 0 0 looks e far 9;person p at 4 0 looks n far 1;");
            plan(x, "p does sign;");
            Check.answered(x, "from a tree", x.weight(0, 1, 1), 2);
        }
    }

    /** "0, if it is not IN SIGHT": where both are and look behind the minute; as far as that one sees. */
    private static void weightBehindTheMinute() {
        StillTown x = Check.townOf("size 8 2;person o at 0 0 looks e far 3;person p at 4 0 looks w far 9;");
        plan(x, "p does step w step e step w;o does still 2 turn w;");
        int[] weight = {16, 0, 0};
        for (int t = 1; t <= 3; t++) {
            Check.answered(x, "minute " + t, x.weight(0, 1, t), weight[t - 1]);
        }
        x = Check.townOf("size 2 2;person o at 0 0 looks e far 3;person p at 1 0 looks w far 9;");
        plan(x, "p does step w;");
        Check.answered(x, "onto its very cell", x.weight(0, 1, 1), 0);
    }

    /** "UNSEEN is 1,000,000 at minute 0; each minute it becomes times 16 less WEIGHT, by 16, rounded down". */
    private static void unseenMinuteByMinute() {
        for (int sign = 0; sign <= 16; sign++) {
            StillTown x = Check.townOf("size 5 2;person o at 0 0 looks e far 9;person p at 4 0 looks n far 1;seen slow 0 turn 0 sign "
                + sign + " self 0;");
            plan(x, "p does loop 60 sign end;");
            int chance = 1000000;
            for (int t = 0; t <= 60; t++) {
                Check.answered(x, "signs of " + sign + " till " + t, x.unseen(1, 0, t), chance);
                chance = chance * (16 - sign) / 16;
            }
            Check.answered(x, "and o by p", x.unseen(0, 1, 60), 1000000);
        }
    }

    /** "the fewest minutes (at most 60; ..": UNSEEN WAY, to where one is, in 60 minutes, in 61. */
    private static void unseenWays() {
        StillTown x = Check.townOf(CORNER);
        Check.answered(x, "where one is", x.way(0, 0), 0);
        Check.answered(x, "its only cell", x.wayCell(0), 0);
        Check.refused(x, "no other", x.wayCell(1), 6);
        for (int still : new int[] {1, 30, 57, 58, 59, 60}) {
            plan(x, "o does still " + still + " turn n;");
            if (still == 60) {
                Check.refused(x, "a way of 61", x.way(0, 5), 6);
                Check.answered(x, "the latest one stays", x.wayCell(60), 5);
                Check.refused(x, "minute 61", x.wayCell(61), 6);
            } else {
                Check.answered(x, "a way of " + (still + 1), x.way(0, 5), still + 1);
                Check.answered(x, "its last cell", x.wayCell(still + 1), 5);
                Check.answered(x, "its last cell but one", x.wayCell(still), 1);
                Check.refused(x, "no cell behind it", x.wayCell(still + 2), 6);
            }
        }
    }

    /** "of several the first by its CELLS, minute by minute". */
    private static void firstByItsCells() {
        StillTown x = Check.townOf("size 5 5;person a at 0 2 looks n far 1;");
        Check.answered(x, "straight on", x.way(0, 14), 4);
        int[] cells = {10, 6, 2, 8, 14};
        for (int t = 0; t <= 4; t++) {
            Check.answered(x, "by way of the north, minute " + t, x.wayCell(t), cells[t]);
        }
        Check.answered(x, "aslant", x.way(0, 22), 2);
        Check.answered(x, "there is but one", x.wayCell(1), 16);
        // two ways round of seven minutes: the first minute counts, though the other way has less in the second
        x = Check.townOf(walls("####.###", "#.#.#.##", ".#.###.#", ".#####.#", "#.###.##", "##...###") + "person p at 3 1 looks n far 9;");
        path(x, 0, 11, 4, 13, 22, 30, 37, 44, 43);
        // to stay comes first by its CELL, or last
        String street = "size 4 2;wall 0 1 to 3 1;person o at 3 0 looks w far 9;person p at 0 0 looks n far 9;hides p from o;";
        x = Check.townOf(street);
        plan(x, "o does still 2 turn e;");
        path(x, 1, 0, 0, 0, 1);
        plan(x, "o does turn e still 1 turn w;");
        path(x, 1, 0, 1, 2, 3);
    }

    /** "each minute STILL ..": where it may not stay in the next minute it is not there a minute too soon. */
    private static void notTooSoon() {
        // p goes onto the tree unseen, but may not stay there when o turns; onto the goal it may when o looks away
        StillTown x = Check.townOf("size 4 2;wall 1 1 to 3 1;tree 1 0 sways 13;person p at 0 1 looks n far 9;person o at 3 0 looks w far 9;"
            + "hides p from o;");
        plan(x, "o does still 1 turn w turn e;");
        path(x, 0, 4, 4, 1, 2);
        plan(x, "o does still 2 turn e;");
        path(x, 0, 4, 1, 1, 2);
    }

    /** "so that no WATCHER's WEIGHT is above 0": 0 and 1, slowly, still, in a tree; of watchers alone. */
    private static void weightsAboveNothing() {
        StillTown x = Check.townOf(CORNER + "seen slow 0 turn 16 sign 16 self 16;");
        Check.answered(x, "slow 0", x.way(0, 4), 1);
        x = Check.townOf(CORNER + "seen slow 1 turn 0 sign 0 self 0;");
        Check.refused(x, "slow 1", x.way(0, 4), 6);
        x = Check.townOf(CORNER + "tree 1 1 sways 15;seen slow 15 turn 0 sign 0 self 0;");
        Check.answered(x, "15 by 16", x.way(0, 4), 1);
        x = Check.townOf(CORNER + "tree 1 1 sways 15;seen slow 16 turn 0 sign 0 self 0;");
        Check.refused(x, "16 by 16", x.way(0, 4), 6);
        // p is shut in with the CELL 1 in sight, and must go there when o looks away, from minute 3 on
        String shut = "size 4 2;wall 0 1 to 3 1;person p at 0 0 looks e far 9;person o at 3 0 looks w far 9;hides p from o;seen slow 4 turn 8 sign 2 self ";
        for (int self = 0; self <= 1; self++) {
            x = Check.townOf(shut + self + ";");
            plan(x, "o does turn w turn w turn e;");
            if (self == 0) {
                Check.answered(x, "still with a self of 0", x.way(0, 1), 3);
            } else {
                Check.refused(x, "still with a self of 1", x.way(0, 1), 6);
            }
        }
        x = Check.townOf("size 3 2;person p at 0 0 looks e far 9;person o at 2 0 looks s far 9;hides o from p;");
        Check.answered(x, "no watcher of it", x.way(0, 5), 2);
    }

    /** "LIKELIEST in n minutes (1 to 60): .. to be at the CELL at the end". */
    private static void likeliestInSoManyMinutes() {
        StillTown x = Check.townOf("size 8 2;wall 0 1 to 7 1;person p at 0 0 looks e far 9;person o at 7 0 looks w far 9;hides p from o;");
        for (int cell = 0; cell < 8; cell++) {
            int chance = 1000000;
            for (int t = 1; t <= cell; t++) {
                // on o's own CELL it is not IN SIGHT
                chance = t == 7 ? chance : chance * 12 / 16;
            }
            for (int n : new int[] {1, 2, 3, 4, 5, 6, 7, 8, 59, 60}) {
                if (n < cell) {
                    Check.refused(x, "to " + cell + " in " + n, x.likeliest(0, cell, n), 6);
                } else {
                    Check.answered(x, "to " + cell + " in " + n, x.likeliest(0, cell, n), chance);
                }
            }
        }
        plan(x, "o does loop 60 turn w end;");
        Check.answered(x, "there and back", x.likeliest(0, 0, 2), 1000000 * 12 / 16 * 12 / 16);
        Check.answered(x, "seen for sure is not that it can't be", x.likeliest(0, 0, 1), 0);
        // by PERSON 0; halved each minute, and to go on is worse: 1 behind minute 19, rounded down to 0 then
        x = Check.townOf("size 4 2;wall 0 1 to 3 1;person o at 3 0 looks w far 9;person p at 0 0 looks n far 9;hides p from o;"
            + "seen slow 16 turn 0 sign 0 self 8;");
        plan(x, "o does loop 60 turn w end;");
        int half = 1000000;
        for (int n = 1; n <= 30; n++) {
            half /= 2;
            Check.answered(x, "still for " + n, x.likeliest(1, 0, n), half);
        }
        // in the greatest town, to its last CELL
        x = Check.townOf("size 8 6;person p at 0 0 looks n far 9;person o at 0 0 looks nw far 9;hides p from o;");
        Check.answered(x, "to the last cell", x.likeliest(0, 47, 7), 1000000);
        Check.refused(x, "not in 6", x.likeliest(0, 47, 6), 6);
    }

    /** "(at most 60; 0 if it shows to nobody)": SHOWN in 1, 60, 61 minutes; "each of those to whom it SHOWS": none, one, seven. */
    private static void shownToAll() {
        String late = "size 2 2;person p at 0 0 looks e far 9;person q at 1 1 looks s far 1;";
        StillTown x = Check.townOf(late);
        Check.answered(x, "shows to nobody", x.shown(0), 0);
        x = Check.townOf(late + "shows p to q;");
        for (int still : new int[] {1, 2, 58, 59, 60}) {
            plan(x, "q does still " + still + " turn n;");
            if (still == 60) {
                Check.refused(x, "in minute 61", x.shown(0), 6);
            } else {
                Check.answered(x, "in minute " + (still + 1), x.shown(0), still + 1);
            }
        }
        StringBuilder seven = new StringBuilder("size 8 2;person p at 4 0 looks n far 1;");
        StringBuilder shows = new StringBuilder();
        for (char c = 'a'; c <= 'g'; c++) {
            seven.append("person ").append(c == 'e' ? "ee" : c).append(" at 0 0 looks ").append(c == 'g' ? "s" : "e").append(" far 9;");
            shows.append("shows p to ").append(c == 'e' ? "ee" : c).append(";");
        }
        x = Check.townOf(seven.toString() + shows);
        Check.answered(x, "to seven", x.person(0, 2), 254);
        // the seventh looks south: it sees the CELLS 8 and 9 alone; the others see 9, too
        Check.answered(x, "to six soon, to the seventh at the end of the row", x.shown(0), 3);
        // to PERSON 0, and to it and PERSON 1
        x = Check.townOf("size 8 2;wall 0 1 to 7 1;person q at 0 0 looks w far 9;person r at 0 0 looks e far 9;person p at 4 0 looks n far 1;shows p to q;");
        Check.refused(x, "to one who looks away", x.shown(2), 6);
        x = Check.townOf("size 8 2;wall 0 1 to 7 1;person q at 0 0 looks e far 1;person r at 0 0 looks e far 9;person p at 4 0 looks n far 1;"
            + "shows p to q;shows p to r;");
        Check.answered(x, "to one who sees but one cell", x.shown(2), 3);
    }

    /** "has seen it with WEIGHT 16 once": 15 is not enough. */
    private static void shownWithSixteen() {
        for (int sways = 0; sways <= 1; sways++) {
            StillTown x = Check.townOf("size 2 2;wall 0 1 to 1 1;person p at 0 0 looks e far 9;person q at 1 0 looks w far 9;shows p to q;"
                + "seen slow 0 turn 0 sign 16 self 0;tree 0 0 sways " + sways + ";");
            if (sways == 0) {
                Check.answered(x, "16", x.shown(0), 1);
            } else {
                Check.refused(x, "15", x.shown(0), 6);
            }
        }
        for (int sign = 15; sign <= 16; sign++) {
            StillTown x = Check.townOf("size 2 2;wall 0 1 to 1 1;tree 1 0 sways 16;person p at 0 0 looks e far 9;person q at 1 0 looks w far 9;"
                + "shows p to q;seen slow 0 turn 0 sign " + sign + " self 0;");
            if (sign == 16) {
                Check.answered(x, "a sign of 16", x.shown(0), 1);
            } else {
                Check.answered(x, "a sign of 15 does not: a step there, a step back", x.shown(0), 2);
            }
        }
    }

    /** "FOUND: .. some CELLS (at most 6)", "(at most 30)": none, one, six; in 29, 30, 31 minutes. */
    private static void foundInThirtyMinutes() {
        StillTown x = Check.townOf("size 8 6;person a at 0 0 looks se far 9;");
        Check.answered(x, "none", x.found(0, 0), 0);
        Check.answered(x, "the last cell", x.found(0, 1L << 47), 1);
        Check.answered(x, "six in a row", x.found(0, 63L << 42), 1);
        Check.answered(x, "six in the corner", x.found(0, picture("........", ".#......", "..#.....", "...#....", "....#...", ".....#.#")), 1);
        Check.answered(x, "with its own cell", x.found(0, 1), 2);
        String street = "size 8 2;wall 0 1 to 7 1;person a at 0 0 looks w far 9;cart 5 ";
        x = Check.townOf(street + "1 goes n s;");
        Check.answered(x, "a cart in minute 1", x.found(0, 1L << 7), 2);
        x = Check.townOf(street + "0 goes s n;");
        Check.answered(x, "a cart in minutes 0 and 2", x.found(0, 1L << 7), 1);
        x = Check.townOf(street + "0 goes n;");
        Check.answered(x, "a cart for good", x.found(0, 1L << 7), 5);
        // teeth of a comb: the ways from end to end add up
        String comb = "size 8 6;wall 1 1 to 1 5;wall 3 1 to 3 5;wall 5 1 to 5 5;wall 7 1 to 7 5;person a at ";
        x = Check.townOf(comb + "4 0 looks n far 1;");
        Check.answered(x, "found in 29", x.found(0, 93458488377345L), 29);
        x = Check.townOf(comb + "3 0 looks n far 1;");
        Check.answered(x, "found in 30", x.found(0, 93458488360965L), 30);
        x = Check.townOf("size 8 6;wall 0 0 to 0 0;wall 2 0 to 2 0;wall 7 0 to 7 0;wall 1 1 to 1 4;wall 3 1 to 6 1;wall 3 2 to 3 3;"
            + "wall 5 2 to 6 2;wall 5 3 to 5 3;wall 7 3 to 7 3;wall 2 4 to 2 4;wall 5 4 to 6 4;wall 0 5 to 1 5;wall 3 5 to 4 5;wall 6 5 to 7 5;"
            + "person a at 3 0 looks n far 1;");
        Check.refused(x, "31 are too many", x.found(0, 72018285297664L), 6);
    }

    /** "MAY BE: .. after so many minutes (0 to 60)"; "a set of CELLS is a long": all of them, and none. */
    private static void mayBeAfterMinutes() {
        StillTown x = Check.townOf("size 8 6;person o at 0 0 looks nw far 9;");
        Check.answered(x, "at minute 0", x.mayBe(0, 47, 0), 1L << 47);
        Check.answered(x, "behind minute 1", x.mayBe(0, 47, 1), picture("........", "........", "........", "........", "......##", "......##"));
        Check.answered(x, "behind minute 6", x.mayBe(0, 47, 6), picture(".#######", ".#######", ".#######", ".#######", ".#######", ".#######"));
        Check.answered(x, "behind minute 7", x.mayBe(0, 47, 7), (1L << 48) - 1);
        Check.answered(x, "behind minute 60", x.mayBe(0, 47, 60), (1L << 48) - 1);
        // in a street o sees all but its own CELL
        String street = "size 4 2;wall 0 1 to 3 1;person o at 3 0 looks w far 9;";
        x = Check.townOf(street);
        plan(x, "o does still 59 turn w;");
        Check.answered(x, "it stays", x.mayBe(0, 0, 59), 1);
        Check.answered(x, "nowhere is left", x.mayBe(0, 0, 60), 0);
        x = Check.townOf(street + "seen slow 0 turn 0 sign 0 self 1;");
        plan(x, "o does turn w;");
        Check.answered(x, "a self of 1", x.mayBe(0, 0, 1), 0);
        x = Check.townOf(street + "seen slow 0 turn 0 sign 0 self 0;");
        plan(x, "o does turn w;");
        Check.answered(x, "a self of 0", x.mayBe(0, 0, 1), 1);
        // who is in a WALL's place is refused; onto one nobody goes
        Check.refused(x, "in a wall", x.mayBe(0, 4, 0), 1);
        Check.answered(x, "onto o's own cell", x.mayBe(0, 2, 1), picture("..##", "...."));
    }

    /** "as FAR as each sees": MEETING along a street, for each FAR. */
    private static void meetingAsFarAsEachSees() {
        int[] minutes = {0, 3, 3, 2, 2, 1, 1, 1, 1, 1};
        for (int far = 1; far <= 9; far++) {
            StillTown x = Check.townOf("size 8 2;wall 0 1 to 7 1;person a at 0 0 looks n far " + far + ";person b at 7 0 looks n far 9;"
                + "person c at 0 0 looks n far 9;person d at 7 0 looks n far " + far + ";");
            Check.answered(x, "far " + far, x.meeting(0, 1), minutes[far]);
            Check.answered(x, "the other way round", x.meeting(1, 0), minutes[far]);
            Check.answered(x, "by the other one", x.meeting(2, 3), minutes[far]);
            Check.answered(x, "by both", x.meeting(0, 3), minutes[far]);
        }
        StillTown x = Check.townOf("size 2 2;wall 1 0 to 1 1;wall 0 1 to 0 1;person a at 0 0 looks e far 9;person b at 0 0 looks e far 9;");
        Check.refused(x, "on one cell that none leaves", x.meeting(0, 1), 6);
        x = Check.townOf("size 8 2;wall 0 1 to 7 1;person a at 7 0 looks e far 1;person b at 1 0 looks e far 9;");
        Check.answered(x, "one sees the other soon, that one does not", x.meeting(0, 1), 3);
        Check.answered(x, "the other way round", x.meeting(1, 0), 3);
    }

    /** "both look all round (F and S are not asked)", "each minute each is STILL or steps": in a town of two CELLS, each WAY. */
    private static void meetingEachWay() {
        for (int way = 0; way < 8; way++) {
            String[] rows = {"###", "#.#", "###"};
            int y = 1 + SOUTH[way];
            int px = 1 + EAST[way];
            rows[y] = rows[y].substring(0, px) + "." + rows[y].substring(px + 1);
            for (int look = 0; look < 8; look++) {
                StillTown x = Check.townOf(walls(rows) + "person a at 1 1 looks " + WAYS[look] + " far 1;person b at " + px + " " + y + " looks "
                    + WAYS[look] + " far 1;");
                Check.answered(x, "they change places, " + WAYS[way], x.meeting(0, 1), 1);
                Check.answered(x, "they change places, " + WAYS[way], x.meeting(1, 0), 1);
            }
        }
        // carts go through the street, and PEOPLE past them: one stands between till they are side by side
        StillTown x = Check.townOf("size 8 2;wall 0 1 to 7 1;person a at 0 0 looks n far 9;person b at 7 0 looks n far 9;cart 3 0 goes n;");
        Check.answered(x, "a cart between", x.meeting(0, 1), 3);
        x = Check.townOf("size 8 2;wall 0 1 to 7 1;person a at 0 0 looks n far 9;person b at 7 0 looks n far 9;cart 3 1 goes n s;");
        Check.answered(x, "a cart between in minute 1", x.meeting(0, 1), 2);
        x = Check.townOf("size 8 2;wall 0 1 to 7 1;person a at 0 0 looks n far 9;person b at 7 0 looks n far 9;cart 3 0 goes s n;");
        Check.answered(x, "a cart between in minute 2", x.meeting(0, 1), 1);
    }

    /** "(it is 0, if they are on one CELL; a hider that can't be had: none)". */
    private static void huntedFromCellToCell() {
        StillTown x = Check.townOf("size 8 6;");
        for (int cell = 0; cell < 48; cell += 47) {
            Check.answered(x, "on one cell", x.hunted(cell, cell), 0);
        }
        Check.answered(x, "beside", x.hunted(0, 9), 1);
        x = Check.townOf("size 2 2;");
        for (int cell = 1; cell < 4; cell++) {
            Check.answered(x, "in the least town", x.hunted(0, cell), 1);
        }
        x = Check.townOf("size 8 2;wall 0 1 to 7 1;");
        for (int cell = 1; cell < 8; cell++) {
            Check.answered(x, "down a street, from " + cell, x.hunted(0, cell), cell == 1 ? 1 : 7);
            Check.answered(x, "up a street, from " + cell, x.hunted(7, cell), cell == 7 ? 0 : cell == 6 ? 1 : 7);
        }
        x = Check.townOf("size 4 2;wall 1 0 to 2 1;");
        Check.refused(x, "walls between", x.hunted(0, 3), 6);
        // round a block there is no end
        x = Check.townOf("size 4 4;wall 1 1 to 2 2;");
        Check.refused(x, "round a block", x.hunted(0, 10 + 5), 6);
    }

    /** "LAMPS: .. at least n (0 to 8) of them": none, one .. all eight; seven are not eight. */
    private static void lampsFromNoneToAll() {
        String eight = "size 8 2;lamp 1 0;lamp 2 0;lamp 3 0;lamp 4 0;lamp 5 0;lamp 6 0;lamp 7 0;lamp 7 1;";
        StillTown x = Check.townOf(eight + "person a at 0 0 looks e far 9;");
        for (int n = 0; n <= 8; n++) {
            Check.answered(x, n + " of eight", x.lamps(n), (1 << n) - 1);
        }
        x = Check.townOf(eight + "person a at 1 0 looks e far 9;");
        for (int n = 0; n <= 7; n++) {
            Check.answered(x, n + " of eight, one of which is its own cell's", x.lamps(n), ((1 << n) - 1) * 2);
        }
        Check.refused(x, "seven are not eight", x.lamps(8), 6);
        x = Check.townOf("size 8 2;person a at 1 0 looks e far 9;");
        Check.answered(x, "none of none", x.lamps(0), 0);
        Check.refused(x, "one of none", x.lamps(1), 6);
        x = Check.townOf(eight);
        Check.answered(x, "nobody needs eight", x.lamps(8), 0);
        // the fewest, then the least as a number: 3 sees the lamps 0 and 7, the other one 1 and 7, or 0 and 1 both
        x = Check.townOf("size 3 2;lamp 0 0;lamp 2 0;lamp 1 0;person a at 1 1 looks nw far 1;person b at 1 1 looks ne far 1;");
        Check.answered(x, "one for both ahead of two that are less", x.lamps(1), 4);
    }

    private static void words(long want, int kinds, int... uses) {
        StillTown x = new StillTown();
        x.tray(0, 1, uses.length);
        for (int i = 0; i < uses.length; i++) {
            x.write(0, i, uses[i]);
        }
        Check.answered(x, "words by " + kinds, x.words(0, uses.length, kinds), want);
    }

    /** "WORDS by k kinds of moves (2 to 8): uses of 2 to 20 words in a TRAY (0 to 9,999)". */
    private static void wordsByKinds() {
        words(0, 2, 0, 0);
        words(0, 8, 0, 0, 0);
        words(1, 2, 0, 1);
        words(19998, 2, 9999, 9999);
        words(19998, 8, 9999, 9999);
        words(2 + 3, 2, 1, 1, 1);
        words(3, 3, 1, 1, 1);
        words(2 + 4, 3, 1, 1, 1, 1);
        words(8, 8, 1, 1, 1, 1, 1, 1, 1, 1);
        words(2 + 9, 8, 1, 1, 1, 1, 1, 1, 1, 1, 1);
        words(15 + 8, 8, 1, 1, 1, 1, 1, 1, 1, 1, 1, 1, 1, 1, 1, 1, 1);
        words(7, 7, 1, 1, 1, 1, 1, 1, 1);
        words(2 + 8, 7, 1, 1, 1, 1, 1, 1, 1, 1);
        int[] most = new int[20];
        java.util.Arrays.fill(most, 9999);
        words(9999L * (12 * 4 + 8 * 5), 2, most);
        words(9999L * (6 + 14 * 2), 8, most);
        int[] none = new int[20];
        words(0, 2, none);
        none[19] = 9999;
        words(9999, 2, none);
        words(9999, 8, none);
    }

    /** "NEAR: in how many minutes 1 to t a PERSON is off another one at most by that one's FAR, without WEIGHT". */
    private static void nearTillMinutes() {
        for (int far = 1; far <= 9; far++) {
            StillTown x = Check.townOf("size 8 2;person o at 0 0 looks w far " + far + ";person p at 4 0 looks n far 1;");
            for (int t : new int[] {0, 1, 2, 59, 60}) {
                Check.answered(x, "far " + far + " till " + t, x.near(1, 0, t), far >= 4 ? t : 0);
            }
            Check.answered(x, "stood", x.stood(1, 0), far >= 4 ? 60 : 0);
            Check.answered(x, "by one who sees 1", x.near(0, 1, 60), 0);
        }
        StillTown x = Check.townOf("size 8 2;person o at 0 0 looks e far 4;person p at 4 0 looks n far 1;seen slow 0 turn 1 sign 0 self 0;");
        plan(x, "p does turn n still 58 turn n;");
        int[][] near = {{0, 0}, {1, 0}, {2, 1}, {59, 58}, {60, 58}};
        for (int[] row : near) {
            Check.answered(x, "but for minutes 1 and 60, till " + row[0], x.near(1, 0, row[0]), row[1]);
        }
        x = Check.townOf("size 2 2;person o at 0 0 looks e far 1;person p at 0 0 looks n far 1;");
        Check.answered(x, "on one cell", x.near(0, 1, 60), 60);
    }

    /** "STOOD: the most minutes on end that NEAR counts": at the beginning, at the end, in between, two alike. */
    private static void stoodOnEnd() {
        String town = "size 8 2;person o at 0 0 looks e far 4;person p at 4 0 looks n far 1;";
        String[] plans = {"loop 60 sign end", "sign", "still 59 sign", "still 20 sign", "still 39 sign", "still 19 sign still 20 sign still 19",
            "still 20 sign still 19 sign still 19", "still 19 sign still 19 sign still 20", "loop 59 sign end", "sign still 1 loop 58 sign end"};
        int[] stood = {0, 59, 59, 39, 39, 20, 20, 20, 1, 1};
        for (int i = 0; i < plans.length; i++) {
            StillTown x = Check.townOf(town);
            plan(x, "p does " + plans[i] + ";");
            Check.answered(x, "stood: " + plans[i], x.stood(1, 0), stood[i]);
        }
    }

    /** "FIRST: the first minute in which a PERSON sees another one with at least a WEIGHT (1 to 16)". */
    private static void firstWithAtLeast() {
        for (int sign = 0; sign <= 16; sign++) {
            StillTown x = Check.townOf("size 8 2;person o at 0 0 looks e far 4;person p at 4 0 looks n far 1;seen slow 0 turn 0 sign "
                + sign + " self 0;");
            for (int minute : new int[] {1, 2, 60}) {
                plan(x, "p does " + (minute == 1 ? "" : "still " + (minute - 1) + " ") + "sign;");
                for (int least = 1; least <= 16; least++) {
                    if (least <= sign) {
                        Check.answered(x, "a sign of " + sign, x.first(0, 1, least), minute);
                    } else {
                        Check.refused(x, "a sign of " + sign + " alone", x.first(0, 1, least), 6);
                    }
                }
            }
        }
    }

    /** "JUDGED: the first minute in which somebody who HIDES is seen by one of its WATCHERS with WEIGHT above 0". */
    private static void judgedInTheFirstMinute() {
        String town = "size 8 2;person o at 0 0 looks e far 4;person p at 4 0 looks n far 1;person q at 0 1 looks e far 9;hides p from o;";
        for (int sign = 0; sign <= 1; sign++) {
            StillTown x = Check.townOf(town + "seen slow 0 turn 0 sign " + sign + " self 0;");
            for (int minute : new int[] {1, 2, 59, 60}) {
                plan(x, "p does " + (minute == 1 ? "" : "still " + (minute - 1) + " ") + "sign;");
                int[] judged = {minute, 1, 0};
                for (int what = 0; what < 3; what++) {
                    if (sign == 0) {
                        Check.refused(x, "a sign of 0", x.judged(what), 6);
                    } else {
                        Check.answered(x, "judged " + what, x.judged(what), judged[what]);
                    }
                }
            }
        }
        StillTown x = Check.townOf("size 8 2;person o at 0 0 looks e far 3;person p at 4 0 looks n far 1;person q at 0 1 looks e far 9;hides p from o;");
        plan(x, "p does sign;");
        Check.answered(x, "one sees it", x.weight(2, 1, 1), 2);
        Check.refused(x, "who is no watcher", x.judged(0), 6);
    }

    private static String eightPeople(String at) {
        StringBuilder text = new StringBuilder();
        for (char c = 'a'; c <= 'h'; c++) {
            text.append("person p").append(c).append(" at ").append(at).append(";");
        }
        return text.toString();
    }

    /** "MOVING in a minute are PEOPLE that did not stand still, and CARTS that are on another CELL behind it": from none to all twelve. */
    private static void movingFromNoneToAll() {
        String town = "size 8 6;" + eightPeople("0 0 looks s far 9");
        StillTown x = Check.townOf(town + "cart 7 0 goes n s;cart 7 0 goes n w;cart 7 0 goes e w;cart 7 0 goes ne sw;");
        Check.answered(x, "carts that would go out", x.moving(1), 0);
        Check.answered(x, "carts that go", x.moving(2), 4);
        plan(x, "pa does sign;pb does turn s;pc does step s;pd does slow s;pe does sign;pf does sign;pg does sign;ph does loop 30 step s step n end;");
        Check.answered(x, "people", x.moving(1), 8);
        plan(x, "pa does loop 30 turn s sign end;pb does still 1 turn s;pc does sign step s;pd does sign slow s;pe does still 1 sign;"
            + "pf does still 1 sign;pg does step n sign;ph does step w sign;");
        Check.answered(x, "three of them, a turn and two signs", x.moving(1), 3);
        Check.answered(x, "all", x.moving(2), 12);
        Check.answered(x, "one at last, and four carts", x.moving(60), 1 + movedCarts(x));
    }

    private static int movedCarts(StillTown x) {
        int count = 0;
        for (int cart = 0; cart < 4; cart++) {
            count += x.cart(cart, 59) != x.cart(cart, 60) ? 1 : 0;
        }
        return count;
    }

    /** "GONE: in how many of minutes 1 to 60 a PERSON sees nobody with WEIGHT, and no CART IN SIGHT that is on another CELL behind it". */
    private static void goneFromNoneToAll() {
        String town = "size 8 2;person o at 0 0 looks e far 4;person p at 4 0 looks n far 1;";
        StillTown x = Check.townOf(town);
        Check.answered(x, "all still", x.gone(0), 60);
        plan(x, "p does sign;");
        Check.answered(x, "a sign in minute 1", x.gone(0), 59);
        plan(x, "p does still 59 sign;");
        Check.answered(x, "a sign in minute 60", x.gone(0), 59);
        plan(x, "p does loop 60 sign end;");
        Check.answered(x, "always a sign", x.gone(0), 0);
        Check.answered(x, "o is seen by nobody", x.gone(1), 60);
        x = Check.townOf("size 8 2;person p at 4 0 looks n far 1;person o at 0 0 looks e far 4;seen slow 0 turn 0 sign 1 self 0;");
        plan(x, "p does sign;");
        Check.answered(x, "person 0, with a weight of 1", x.gone(1), 59);
        plan(x, "p does turn n;");
        Check.answered(x, "person 0, with a weight of 0", x.gone(1), 60);
        x = Check.townOf(town + "cart 1 0 goes e w;");
        Check.answered(x, "always a cart", x.gone(0), 0);
        x = Check.townOf(town + "cart 1 0 goes n;");
        Check.answered(x, "a cart that stays", x.gone(0), 60);
        x = Check.townOf(town + "cart 4 0 goes e w;");
        Check.answered(x, "a cart that comes into sight in every second minute", x.gone(0), 30);
        x = Check.townOf(town + "cart 7 1 goes w;");
        // it is at 4, 3, 2, 1 of the row below behind minutes 3 to 6, and stays at 0
        Check.answered(x, "a cart that goes by", x.gone(0), 56);
        x = Check.townOf(town + "wall 2 0 to 2 1;cart 7 1 goes w;");
        // on the wall it is seen, and before it
        Check.answered(x, "a cart that comes from behind a wall", x.gone(0), 58);
    }

    /** "STANDS: the set of other PEOPLE whose CELLS are IN SIGHT .., whether they move or not": none, all seven. */
    private static void standsFromNoneToAll() {
        StringBuilder text = new StringBuilder("size 8 2;person p at 0 0 looks e far 9;");
        for (int i = 1; i < 8; i++) {
            text.append("person p").append((char) ('a' + i)).append(" at ").append(i).append(" ").append(i % 2).append(" looks w far 9;");
        }
        StillTown x = Check.townOf(text.toString());
        plan(x, "p does still 59 turn w;pb does turn n;");
        Check.answered(x, "all", x.stands(0, 0), 254);
        Check.answered(x, "one of whom turns", x.stands(0, 1), 254);
        Check.answered(x, "all till minute 59", x.stands(0, 59), 254);
        Check.answered(x, "none behind minute 60", x.stands(0, 60), 0);
        Check.answered(x, "the last sees those ahead of it", x.stands(7, 60), 127);
        x = Check.townOf("size 8 2;" + eightPeople("0 0 looks e far 9"));
        for (int p = 0; p < 8; p++) {
            Check.answered(x, "all on one cell", x.stands(p, 0), 0);
        }
    }

    /** "at most so many CELLS (1 to 9) off another one", "the most minutes (0 to 60)": FOLLOWED. */
    private static void followedSoFar() {
        for (int far = 1; far <= 9; far++) {
            // p is shut in, o steps east each minute till the end of the row
            StillTown x = Check.townOf("size 8 2;wall 1 0 to 1 1;person o at 2 0 looks e far 9;person p at 0 0 looks e far 9;");
            plan(x, "o does loop 60 step e end;");
            int minutes = far <= 2 ? 0 : far <= 6 ? far - 2 : 60;
            Check.answered(x, "far " + far, x.followed(1, 0, far), minutes);
            plan(x, "o does still 57 loop 60 step e end;");
            Check.answered(x, "far " + far + ", three steps at last", x.followed(1, 0, far), far < 2 ? 0 : Math.min(60, 57 + far - 2));
        }
        StillTown x = Check.townOf("size 8 2;person o at 2 0 looks e far 9;person p at 0 0 looks e far 9;");
        Check.answered(x, "2 off at minute 0, 1 off behind minute 1", x.followed(1, 0, 1), 60);
        x = Check.townOf("size 8 2;person o at 3 0 looks e far 9;person p at 0 0 looks e far 9;");
        Check.answered(x, "3 off at minute 0, 2 off behind minute 1", x.followed(1, 0, 1), 0);
    }

    /** "SIGNS: .. the first minute behind which UNSEEN .. is at most a number (0 to 999,999)": in minutes 1 .. 60, and never. */
    private static void signsTillAtMost() {
        int[] signs = {1, 2, 8, 15, 16};
        int[] minutes = {-1, -1, 20, 5, 1};
        for (int i = 0; i < signs.length; i++) {
            int sign = signs[i];
            StillTown x = Check.townOf("size 5 2;person o at 0 0 looks e far 9;person p at 4 0 looks n far 1;seen slow 0 turn 0 sign "
                + sign + " self 0;");
            int ahead = 1000000;
            for (int t = 1; t <= 60; t++) {
                int chance = ahead * (16 - sign) / 16;
                if (chance < ahead) {
                    Check.answered(x, "just so few", x.signs(1, 0, chance), t);
                    Check.answered(x, "just fewer than ahead", x.signs(1, 0, ahead - 1), t);
                }
                ahead = chance;
            }
            if (minutes[i] < 0) {
                Check.refused(x, "one fewer than behind minute 60", x.signs(1, 0, ahead - 1), 6);
                Check.refused(x, "0", x.signs(1, 0, 0), 6);
            } else {
                Check.answered(x, "0 at last", x.signs(1, 0, 0), minutes[i]);
            }
        }
        StillTown x = Check.townOf("size 5 2;person o at 0 0 looks e far 9;person p at 4 0 looks n far 1;seen slow 0 turn 0 sign 0 self 0;");
        Check.refused(x, "a sign of 0", x.signs(1, 0, 999999), 6);
    }

    /** "SWEPT in n minutes (0 to 60)": nothing in 0, as much in 60 as was gained till then. */
    private static void sweptInMinutes() {
        StillTown x = Check.townOf("size 8 6;person a at 0 0 looks se far 9;");
        // its own CELL no turn and no step brings: it goes on turning north
        int[] swept = {0, 47, 47, 47};
        for (int n = 0; n < swept.length; n++) {
            Check.answered(x, "swept in " + n, x.swept(0, n), swept[n]);
        }
        Check.answered(x, "swept in 59", x.swept(0, 59), 47);
        Check.answered(x, "swept in 60", x.swept(0, 60), 47);
        x = Check.townOf("size 2 2;wall 1 0 to 1 1;wall 0 1 to 0 1;person a at 0 0 looks n far 1;");
        Check.answered(x, "walls are cells, too", x.swept(0, 1), 3);
        // a turn to the north alone brings so many
        x = Check.townOf("size 5 6;person a at 2 5 looks s far 9;");
        Check.answered(x, "north", x.swept(0, 1), 3 + 5 * 4);
        // steps to the north, where no turn brings anything
        x = Check.townOf("size 2 6;wall 1 0 to 1 5;person a at 0 5 looks s far 1;");
        int[] steps = {0, 3, 5, 7, 9, 11, 11};
        for (int n = 0; n < steps.length; n++) {
            Check.answered(x, "up the street in " + n, x.swept(0, n), steps[n]);
        }
    }

    /** "GALLERY: .. at least n of them (0 to 8) at minute 0 (one who stands on it counts, too)": none, all eight. */
    private static void galleryFromNoneToAll() {
        StillTown x = Check.townOf("size 2 2;wall 1 0 to 1 1;wall 0 1 to 0 1;" + eightPeople("0 0 looks n far 1"));
        for (int n = 0; n <= 8; n++) {
            Check.answered(x, n + " of eight", x.gallery(n), (1 << n) - 1);
        }
        x = Check.townOf("size 2 2;wall 1 0 to 1 1;wall 0 1 to 0 1;" + eightPeople("0 0 looks n far 1").substring(0, 7 * 31));
        Check.answered(x, "seven of seven", x.gallery(7), 127);
        Check.refused(x, "eight of seven", x.gallery(8), 6);
        x = Check.townOf("size 2 2;");
        Check.answered(x, "none of none", x.gallery(0), 0);
        Check.refused(x, "one of none", x.gallery(1), 6);
        x = Check.townOf("size 2 2;wall 0 0 to 1 1;");
        Check.answered(x, "no cell that is no wall", x.gallery(8), 0);
        // at minute 0, whatever they do then
        x = Check.townOf("size 3 2;wall 0 1 to 2 1;person a at 0 0 looks w far 9;person b at 0 0 looks e far 9;");
        plan(x, "b does turn w;a does turn e;");
        Check.answered(x, "at minute 0", x.gallery(1), 2);
        Check.refused(x, "at minute 0 there are not two", x.gallery(2), 6);
        // a and b together, or c alone, who is the greater number
        x = Check.townOf("size 3 2;wall 0 1 to 2 1;person a at 0 0 looks w far 1;person b at 2 0 looks w far 1;person c at 0 0 looks e far 9;");
        Check.answered(x, "the fewest", x.gallery(1), 4);
    }

    private static int next(int s) {
        return (s * 2677 + 9029) % 65536;
    }

    /** "if WEIGHT is above 0, a draw by 16: less than WEIGHT: seen": each WEIGHT against each draw. */
    private static void drawsLessThanWeight() {
        for (int sign = 0; sign <= 16; sign++) {
            StillTown x = Check.townOf("size 5 2;person o at 0 0 looks e far 9;person p at 4 0 looks n far 1;hides p from o;seen slow 0 turn 0 sign "
                + sign + " self 0;");
            plan(x, "p does sign;");
            for (int draw = 0; draw < 16; draw++) {
                int seed = 0;
                while (next(seed) / 8 % 16 != draw) {
                    seed++;
                }
                boolean seen = draw < sign;
                Check.answered(x, "sign " + sign + ", draw " + draw, x.day(seed), seen ? 1 : 0);
                Check.answered(x, "o saw", x.saw(0), seen ? 2 : 0);
                Check.answered(x, "p saw", x.saw(1), 0);
                Check.answered(x, "caught", x.caught(), seen ? 1 : 0);
                Check.affirmed(x, "safe", x.safe(seed, 1));
                fraction(x, seen ? 0 : 1, 1);
            }
        }
    }

    /** "Draws: s, at first the seed (0 to 9,999), becomes what is left of s times 2,677 and 9,029 by 65,536": draw by draw. */
    private static void drawsOneBehindTheOther() {
        for (int seed : new int[] {0, 1, 2, 21, 4999, 9998, 9999}) {
            StillTown x = Check.townOf("size 5 2;person o at 0 0 looks e far 9;person p at 4 0 looks n far 1;seen slow 0 turn 0 sign 8 self 0;");
            int s = seed;
            int seen = 0;
            for (int t = 1; t <= 60; t++) {
                plan(x, "p does loop " + t + " sign end;");
                s = next(s);
                seen += s / 8 % 16 < 8 ? 1 : 0;
                Check.answered(x, "day " + seed + " of " + t + " signs", x.day(seed), seen);
            }
        }
        // a WEIGHT of 16 asks for a draw, too; a WEIGHT of 0 for none
        for (int seed = 0; seed < 200; seed++) {
            StillTown x = Check.townOf("size 5 2;person o at 0 0 looks e far 9;person p at 4 0 looks n far 1;");
            plan(x, "p does step w sign;");
            Check.answered(x, "behind one of 16", x.day(seed), 1 + (next(next(seed)) / 8 % 16 < 2 ? 1 : 0));
            plan(x, "p does still 1 sign;");
            Check.answered(x, "behind one of 0", x.day(seed), next(seed) / 8 % 16 < 2 ? 1 : 0);
        }
    }

    /** "how many who HIDE were seen by a WATCHER": none, one, seven; by two of them it is one. */
    private static void caughtFromNoneToAll() {
        StringBuilder text = new StringBuilder("size 8 2;person o at 0 0 looks e far 9;");
        StringBuilder plan = new StringBuilder();
        StringBuilder hides = new StringBuilder();
        for (int i = 1; i < 8; i++) {
            String name = "p" + (char) ('a' + i);
            text.append("person ").append(name).append(" at 7 ").append(i % 2).append(" looks e far 1;");
            hides.append("hides ").append(name).append(" from o;");
            plan.append(name).append(" does step w;");
        }
        StillTown x = Check.townOf(text.toString());
        plan(x, plan.toString());
        Check.answered(x, "seven are seen", x.day(0), 7);
        Check.answered(x, "nobody hides", x.caught(), 0);
        x = Check.townOf(text.toString() + hides);
        Check.answered(x, "all stand still", x.day(0), 0);
        Check.answered(x, "none is caught", x.caught(), 0);
        plan(x, "pb does step w;");
        Check.answered(x, "one is seen", x.day(0), 1);
        Check.answered(x, "one is caught", x.caught(), 1);
        Check.answered(x, "o saw it", x.saw(0), 2);
        plan(x, plan.toString());
        Check.answered(x, "all are seen", x.day(0), 7);
        Check.answered(x, "all are caught", x.caught(), 7);
        Check.answered(x, "o saw all", x.saw(0), 254);
        plan(x, "pb does loop 3 step w end;");
        Check.answered(x, "seen three times", x.day(0), 3);
        Check.answered(x, "caught once", x.caught(), 1);
        Check.answered(x, "the last one saw nobody", x.saw(7), 0);
        x = Check.townOf("size 5 2;person p at 4 0 looks n far 1;person o at 0 0 looks e far 9;hides p from o;");
        plan(x, "p does step w;");
        Check.answered(x, "person 0 is seen", x.day(0), 1);
        Check.answered(x, "person 0 is caught", x.caught(), 1);
        // who SHOWS does not HIDE
        x = Check.townOf("size 5 2;person p at 4 0 looks n far 1;person o at 0 0 looks e far 9;shows p to o;hides o from p;");
        plan(x, "p does step w;");
        Check.answered(x, "who shows is seen", x.day(0), 1);
        Check.answered(x, "and not caught", x.caught(), 0);
    }

    /** "by how many of so many seeds (1 to 30)", "without a common divisor, the bottom above 0; 0 is 0 by 1". */
    private static void fractionsOfSafeDays() {
        StillTown x = new StillTown();
        fraction(x, 0, 1);
        x = Check.townOf("size 5 2;person o at 0 0 looks e far 9;person p at 4 0 looks n far 1;hides p from o;seen slow 0 turn 0 sign 8 self 0;");
        for (int n = 1; n <= 30; n++) {
            Check.affirmed(x, "all of " + n, x.safe(0, n));
            fraction(x, 1, 1);
        }
        plan(x, "p does step w;");
        for (int n = 1; n <= 30; n++) {
            Check.affirmed(x, "none of " + n, x.safe(0, n));
            fraction(x, 0, 1);
        }
        plan(x, "p does sign;");
        for (int n = 1; n <= 30; n++) {
            int safe = 0;
            for (int seed = 9999; seed > 9999 - n; seed--) {
                safe += next(seed) / 8 % 16 < 8 ? 0 : 1;
            }
            int divisor = n;
            while (safe % divisor != 0 || n % divisor != 0) {
                divisor--;
            }
            Check.affirmed(x, "the last " + n, x.safe(10000 - n, n));
            fraction(x, safe / divisor, n / divisor);
        }
        Check.denied(x, "none of them", x.safe(0, 0), 1);
        Check.denied(x, "one more", x.safe(9971, 30), 1);
        Check.due("the fraction stays: top", x.top() > 0, true);
    }

    /** "by day() latest with STATUS 0 .. (6: there was none, no such PERSON then)": saw, caught. */
    private static void sawThen() {
        StillTown x = Check.townOf("size 5 2;person o at 0 0 looks e far 9;person p at 4 0 looks n far 1;");
        Check.refused(x, "no day yet", x.caught(), 6);
        for (int p = 0; p < 8; p++) {
            Check.refused(x, "no day yet for " + p, x.saw(p), 6);
        }
        Check.refused(x, "no seed", x.day(10000), 1);
        Check.refused(x, "still no day", x.caught(), 6);
        plan(x, "p does step w;");
        Check.answered(x, "a day", x.day(9999), 1);
        Check.refused(x, "no day", x.day(-1), 1);
        Check.answered(x, "the latest one", x.saw(0), 2);
        for (int p = 2; p < 8; p++) {
            Check.refused(x, "nobody then: " + p, x.saw(p), 6);
        }
        // "then": in the TOWN of that DAY
        Check.town(x, "size 2 2;" + eightPeople("0 0 looks n far 1"));
        Check.answered(x, "o then", x.saw(0), 2);
        Check.refused(x, "nobody then, though there is one now", x.saw(7), 6);
        Check.answered(x, "a day of eight", x.day(0), 0);
        Check.answered(x, "the eighth", x.saw(7), 0);
        Check.town(x, "size 2 2;");
        Check.answered(x, "the eighth then, though there is none now", x.saw(7), 0);
        Check.answered(x, "a day of nobody", x.day(0), 0);
        Check.refused(x, "nobody then", x.saw(0), 6);
        Check.answered(x, "nobody caught then", x.caught(), 0);
    }

    /** "In WAYS that are looked for a PERSON goes from where it is at minute 0, whatever the PLAN says of it". */
    private static void whateverThePlanSays() {
        String town = "size 6 3;wall 2 1 to 3 1;tree 1 2 sways 9;cart 5 0 goes w e;person o at 5 1 looks w far 4;person p at 0 2 looks n far 3;"
            + "person q at 3 2 looks w far 2;hides p from o;shows p to q;";
        long[][] answers = new long[4][];
        String[] plans = {"", "p does step n;", "p does loop 9 step e end turn s;", "p does sign slow n turn w still 3 step ne;"};
        for (int i = 0; i < plans.length; i++) {
            StillTown x = Check.townOf(town);
            plan(x, "o does turn nw still 3 turn sw step w;q does still 1 turn nw;" + plans[i]);
            answers[i] = new long[] {x.way(1, 5), x.wayCell(1), x.wayCell(2), x.way(1, 12), x.way(1, 15), x.likeliest(1, 4, 6), x.likeliest(1, 17, 5),
                x.shown(1), x.found(1, 1L << 17 | 1), x.found(1, 1L << 4), x.meeting(0, 1), x.meeting(1, 2), x.followed(1, 0, 4), x.followed(1, 2, 2),
                x.signs(1, 2, 800000), x.signs(1, 0, 800000), x.swept(1, 3), x.swept(1, 60), x.gallery(1), x.lamps(0), x.person(1, 0)};
            for (int k = 0; k < answers[i].length; k++) {
                Check.due("question " + k + " with the plan " + plans[i], answers[i][k], answers[0][k]);
            }
        }
        // but of all others it counts
        StillTown x = Check.townOf(CORNER);
        Check.refused(x, "o looks on", x.way(0, 5), 6);
        plan(x, "o does turn n;p does step e;");
        Check.answered(x, "o looks away", x.way(0, 5), 2);
    }

    /** The fullest town: 48 CELLS, 8 TREES, 4 CARTS of 8 WAYS, 8 LAMPS, 8 PEOPLE, who look away from all that. */
    private static String fullTown() {
        StringBuilder text = new StringBuilder("size 8 6;");
        for (int i = 0; i < 8; i++) {
            text.append("tree ").append(i).append(" 5 sways ").append(i + 1).append(";lamp ").append(i).append(" 4;");
        }
        text.append("cart 1 1 goes e e s s w w n n;cart 2 2 goes s s e e n n w w;cart 0 3 goes n n n s s s e w;cart 7 5 goes n w s e n w s e;");
        for (char c = 'a'; c <= 'h'; c++) {
            text.append("person p").append(c).append(" at 0 0 looks nw far 9;");
        }
        return text.append("hides pa from ph;shows ph to pa;").toString();
    }

    /** All at once as many as there may be: each call that goes over all of them. */
    private static void theFullestTown() {
        StillTown x = new StillTown();
        Check.answered(x, "the fullest town", Check.town(x, fullTown()), 48);
        plan(x, "ph does loop 60 turn nw end;pa does sign;");
        int[] told = {8, 6, 8, 4, 8, 8, 4, 8, 2, 16};
        for (int i = 0; i < told.length; i++) {
            Check.answered(x, "told " + i, x.told(i), told[i]);
        }
        for (int p = 0; p < 8; p++) {
            Check.answered(x, "sight", x.sight(p, 60), 0);
            Check.answered(x, "stands", x.stands(p, 0), 0);
            Check.answered(x, "gone", x.gone(p), 60);
            Check.answered(x, "near", x.near(p, 7 - p, 60), 60);
            Check.answered(x, "unseen", x.unseen(p, 7 - p, 60), 1000000);
            Check.answered(x, "stood", x.stood(p, 7 - p), 60);
            Check.answered(x, "followed", x.followed(p, 7 - p, 1), 60);
            Check.refused(x, "first", x.first(p, 7 - p, 1), 6);
            Check.refused(x, "signs", x.signs(p, 7 - p, 999999), 6);
            Check.answered(x, "way", x.way(p, 47), 7);
            Check.answered(x, "likeliest", x.likeliest(p, 47, 7), 1000000);
            Check.answered(x, "found", x.found(p, 1L << 47), x.found(0, 1L << 47));
            Check.answered(x, "mayBe", x.mayBe(p, 47, 60), (1L << 48) - 1);
            Check.answered(x, "meeting", x.meeting(p, 7 - p), 1);
        }
        Check.refused(x, "judged", x.judged(0), 6);
        Check.refused(x, "shown to one who looks away", x.shown(7), 6);
        Check.answered(x, "shown to nobody", x.shown(0), 0);
        Check.answered(x, "moving", x.moving(1), 2 + 4);
        Check.answered(x, "day", x.day(9999), 0);
        Check.answered(x, "caught", x.caught(), 0);
        Check.answered(x, "saw", x.saw(7), 0);
        Check.affirmed(x, "safe", x.safe(9970, 30));
        fraction(x, 1, 1);
        Check.refused(x, "lamps", x.lamps(1), 6);
        Check.refused(x, "gallery", x.gallery(1), 6);
        Check.answered(x, "swept", x.swept(7, 60) > 40 ? 1 : 0, 1);
        Check.answered(x, "hunted", x.hunted(0, 47) > 0 ? 1 : 0, 1);
    }

    /** "the TOWN, the PLAN are kept as they are": each part of the fullest town. */
    private static void theFullestTownIsKept() {
        StillTown x = new StillTown();
        StillTown kept = new StillTown();
        for (StillTown one : new StillTown[] {x, kept}) {
            Check.town(one, fullTown() + "wall 6 0 to 7 3;seen slow 1 turn 2 sign 3 self 5;");
            plan(one, "pa does step e step e turn sw;ph does slow s slow s sign turn n;pd does still 59 step e;");
        }
        Check.answered(x, "a mark", x.mark(), 1);
        Check.town(x, walls(".......", "#######", ".......") + "cart 1 1 goes w;cart 3 1 goes s n;cart 3 1 goes s s;cart 3 1 goes e;lamp 4 0;lamp 5 0;"
            + "tree 4 0 sways 16;tree 1 2 sways 0;person ph at 6 2 looks s far 1;person pb at 5 2 looks n far 2;shows pb to ph;hides ph from pb;"
            + "seen slow 9 turn 9 sign 9 self 9;");
        plan(x, "ph does sign loop 30 step e step w end;");
        Check.answered(x, "the other town", x.told(1), 3);
        Check.answered(x, "back", x.back(), 0);
        for (int i = 0; i < 10; i++) {
            Check.answered(x, "told " + i, x.told(i), kept.told(i));
        }
        for (int cell = 0; cell < 48; cell += 3) {
            Check.answered(x, "wall " + cell, x.wall(cell), kept.wall(cell));
            Check.answered(x, "sways " + cell, x.sways(cell), kept.sways(cell));
        }
        for (int t = 0; t <= 60; t += 7) {
            for (int cart = 0; cart < 4; cart++) {
                Check.answered(x, "cart " + cart + " at " + t, x.cart(cart, t), kept.cart(cart, t));
            }
        }
        for (int p = 0; p < 8; p++) {
            Check.answered(x, "lamp " + p, x.lamp(p), kept.lamp(p));
            for (int what = 0; what < 3; what++) {
                Check.answered(x, "person " + p, x.person(p, what), kept.person(p, what));
            }
            for (int t : new int[] {0, 2, 60}) {
                Check.answered(x, "at", x.at(p, t), kept.at(p, t));
                Check.answered(x, "looks", x.looks(p, t), kept.looks(p, t));
                Check.answered(x, "sight", x.sight(p, t), kept.sight(p, t));
            }
        }
        for (char c = 'a'; c <= 'h'; c++) {
            Check.answered(x, "the name of p" + c, Check.plan(x, "p" + c + " does sign;"), 1);
            Check.answered(x, "its sign", x.did(c - 'a', 1), 4);
        }
        Check.refused(x, "no other name", Check.plan(x, "pi does sign;"), 9);
    }

    /** "MARKS, at most 3: .. all is taken back to the latest MARK, which is gone then". */
    private static void threeMarks() {
        StillTown x = new StillTown();
        for (int round = 0; round < 3; round++) {
            for (int i = 1; i <= 3; i++) {
                Check.town(x, "size " + (1 + i) + " 2;person a at 0 0 looks e far " + i + ";");
                plan(x, "a does loop " + i + " step e step w end;");
                Check.answered(x, "mark", x.mark(), i);
            }
            Check.refused(x, "a fourth one", x.mark(), 4);
            Check.town(x, "size 8 6;");
            for (int i = 3; i >= 1; i--) {
                Check.answered(x, "back", x.back(), i - 1);
                Check.answered(x, "width", x.told(0), 1 + i);
                Check.answered(x, "far", x.person(0, 0), i);
                Check.answered(x, "its plan", x.did(0, 2 * i), 1);
                Check.answered(x, "no more of it", x.did(0, 2 * i + 1), 0);
                Check.refused(x, "no cell behind the last", x.wall(2 * (1 + i)), 1);
            }
            Check.refused(x, "no mark is left", x.back(), 6);
            Check.answered(x, "the first one is there still", x.told(0), 2);
        }
        // a PLAN that is taken behind a MARK is not the MARK's
        x.mark();
        plan(x, "");
        Check.answered(x, "no plan", x.did(0, 1), 0);
        x.back();
        Check.answered(x, "the plan of the mark", x.did(0, 1), 1);
        x.mark();
        x.mark();
        Check.answered(x, "two alike", x.back(), 1);
        Check.answered(x, "two alike", x.back(), 0);
    }

    public static void main(String[] args) {
        fiveHundredAndTwelveCalls();
        traysAtFirst();
        numbersCutToTheirSort();
        noneOrMinusOne();
        pouredAsTheyWere();
        bytesFromTheHighest();
        aheadAndAside();
        asFarAsOneSees();
        whatIsBetween();
        cartsBetween();
        outOfTheTown();
        intoAWall();
        seenByOneWhoMoves();
        weightsInATree();
        weightBehindTheMinute();
        unseenMinuteByMinute();
        unseenWays();
        firstByItsCells();
        notTooSoon();
        weightsAboveNothing();
        likeliestInSoManyMinutes();
        shownToAll();
        shownWithSixteen();
        foundInThirtyMinutes();
        mayBeAfterMinutes();
        meetingAsFarAsEachSees();
        meetingEachWay();
        huntedFromCellToCell();
        lampsFromNoneToAll();
        wordsByKinds();
        nearTillMinutes();
        stoodOnEnd();
        firstWithAtLeast();
        judgedInTheFirstMinute();
        movingFromNoneToAll();
        goneFromNoneToAll();
        standsFromNoneToAll();
        followedSoFar();
        signsTillAtMost();
        sweptInMinutes();
        galleryFromNoneToAll();
        drawsLessThanWeight();
        drawsOneBehindTheOther();
        caughtFromNoneToAll();
        fractionsOfSafeDays();
        sawThen();
        whateverThePlanSays();
        theFullestTown();
        theFullestTownIsKept();
        threeMarks();
        Check.finish("EdgeTest");
    }
}
