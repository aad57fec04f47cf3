import java.util.ArrayList;
import java.util.HashSet;
import java.util.List;
import java.util.Random;
import java.util.Set;
import java.util.regex.Matcher;
import java.util.regex.Pattern;

/** FAULTS of texts: a table by hand, and texts spoilt by a fixed row of draws against a grammar of its own. */
public final class FaultTest {
    private static final String[] WAYS = {"n", "ne", "e", "se", "s", "sw", "w", "nw"};
    private static final Set<String> KEPT = new HashSet<>(List.of(("size wall to tree sways cart goes lamp person at looks far"
        + " hides from shows seen slow turn sign self does step still loop end n ne e se s sw w nw").split(" ")));

    /** What the grammar finds. */
    private static final class Fault extends RuntimeException {
        private static final long serialVersionUID = 1;

        final int kind;
        final int place;

        Fault(int kind, int place) {
            super(null, null, false, false);
            this.kind = kind;
            this.place = place;
        }
    }

    private static final class Grammar {
        private final List<String> tokens = new ArrayList<>();
        private final List<Integer> places = new ArrayList<>();
        private int index = 0;
        private int width;
        private int height;
        private final List<String> names = new ArrayList<>();
        private final Set<String> walls = new HashSet<>();
        private final Set<String> trees = new HashSet<>();
        private final Set<String> lamps = new HashSet<>();
        private final Set<String> homes = new HashSet<>();
        private int carts = 0;
        private boolean seen = false;
        private int moves = 0;

        Grammar(String text) {
            Matcher m = Pattern.compile("[a-z]+|[0-9]+|[^ \n]", Pattern.DOTALL).matcher(text);
            while (m.find()) {
                tokens.add(m.group());
                places.add(m.start());
            }
            tokens.add("");
            places.add(text.length());
        }

        private String peek() {
            String token = tokens.get(index);
            if (!token.isEmpty() && !token.matches("[a-z]+|[0-9]{1,4}|;")) {
                throw new Fault(1, places.get(index));
            }
            return token;
        }

        private Fault bad(int kind) {
            return new Fault(kind, places.get(index));
        }

        private String take(String pattern) {
            String token = peek();
            if (!token.matches(pattern)) {
                throw bad(2);
            }
            index++;
            return token;
        }

        private int number(int least, int most) {
            String token = peek();
            if (!token.matches("[0-9]+")) {
                throw bad(2);
            }
            int value = Integer.parseInt(token);
            if (value < least || value > most) {
                throw bad(4);
            }
            index++;
            return value;
        }

        private void way() {
            take("n|ne|e|se|s|sw|w|nw");
        }

        private String name() {
            String token = peek();
            if (!token.matches("[a-z]{1,8}") || KEPT.contains(token)) {
                throw bad(2);
            }
            index++;
            return token;
        }

        private void ifSo(boolean wrong, int kind) {
            if (wrong) {
                index--;
                throw bad(kind);
            }
        }

        int town() {
            take("size");
            width = number(2, 8);
            height = number(2, 6);
            take(";");
            while (!peek().isEmpty()) {
                part();
            }
            return width * height;
        }

        private String cell(int x, int y) {
            return x + "," + y;
        }

        private void part() {
            String word = take("wall|tree|cart|lamp|person|hides|shows|seen");
            switch (word) {
                case "wall" -> wall();
                case "tree" -> {
                    ifSo(trees.size() == 8, 6);
                    String cell = cell(number(0, width - 1), number(0, height - 1));
                    ifSo(walls.contains(cell) || !trees.add(cell), 5);
                    take("sways");
                    number(0, 16);
                }
                case "lamp" -> {
                    ifSo(lamps.size() == 8, 6);
                    String cell = cell(number(0, width - 1), number(0, height - 1));
                    ifSo(walls.contains(cell) || !lamps.add(cell), 5);
                }
                case "cart" -> {
                    ifSo(++carts > 4, 6);
                    number(0, width - 1);
                    number(0, height - 1);
                    take("goes");
                    way();
                    for (int i = 2; !peek().equals(";"); i++) {
                        way();
                        ifSo(i == 9, 6);
                    }
                }
                case "person" -> person();
                case "seen" -> {
                    ifSo(seen, 5);
                    seen = true;
                    for (String kind : new String[] {"slow", "turn", "sign", "self"}) {
                        take(kind);
                        number(0, 16);
                    }
                }
                default -> {
                    String one = name();
                    ifSo(!names.contains(one), 3);
                    take(word.equals("hides") ? "from" : "to");
                    String other = name();
                    ifSo(!names.contains(other), 3);
                    ifSo(one.equals(other), 5);
                }
            }
            take(";");
        }

        private void wall() {
            int x = number(0, width - 1);
            int y = number(0, height - 1);
            take("to");
            int x2 = number(x, width - 1);
            int y2 = number(y, height - 1);
            boolean hit = false;
            for (int i = x; i <= x2; i++) {
                for (int k = y; k <= y2; k++) {
                    String cell = cell(i, k);
                    hit |= trees.contains(cell) || lamps.contains(cell) || homes.contains(cell);
                    walls.add(cell);
                }
            }
            ifSo(hit, 5);
        }

        private void person() {
            ifSo(names.size() == 8, 6);
            String name = name();
            ifSo(names.contains(name), 3);
            names.add(name);
            take("at");
            String cell = cell(number(0, width - 1), number(0, height - 1));
            ifSo(walls.contains(cell), 5);
            homes.add(cell);
            take("looks");
            way();
            take("far");
            number(1, 9);
        }

        int plan(List<String> people) {
            Set<String> planned = new HashSet<>();
            while (!peek().isEmpty()) {
                String name = name();
                ifSo(!people.contains(name), 3);
                ifSo(!planned.add(name), 5);
                take("does");
                moves(0);
                take(";");
            }
            return moves;
        }

        private void moves(int depth) {
            while (!peek().equals(depth == 0 ? ";" : "end")) {
                String word = take("step|slow|turn|sign|still|loop");
                ifSo(++moves > 40, 6);
                ifSo(word.equals("loop") && depth == 2, 7);
                if (word.equals("still") || word.equals("loop")) {
                    number(1, 60);
                } else if (!word.equals("sign")) {
                    way();
                }
                if (word.equals("loop")) {
                    moves(depth + 1);
                    take("end");
                }
            }
        }
    }

    private static final String BASE = "size 4 3;";
    private static final String ONE = BASE + "person a at 0 0 looks n far 1;";

    private static void townFault(String text, int kind, int place) {
        StillTown x = new StillTown();
        Check.refused(x, "town " + text, Check.town(x, text), 9);
        Check.due("fault of " + text, x.fault(0), kind);
        Check.due("its place in " + text, x.fault(1), place);
        Check.due("no cells of " + text, x.told(0), 0);
    }

    private static void planFault(String text, int kind, int place) {
        StillTown x = Check.townOf(ONE + "person b at 1 1 looks e far 2;");
        Check.plan(x, "b does step e;");
        Check.refused(x, "plan " + text, Check.plan(x, text), 9);
        Check.due("fault of " + text, x.fault(0), kind);
        Check.due("its place in " + text, x.fault(1), place);
        Check.due("the old plan behind " + text, x.at(1, 1), 6);
    }

    private static String times(int n, String part) {
        return part.repeat(n);
    }

    private static void townTable() {
        townFault("", 2, 0);
        townFault("  \n ", 2, 4);
        townFault("size 4 3", 2, 8);
        townFault("size 4 3 \n", 2, 10);
        townFault("Size 4 3;", 1, 0);
        townFault("size 4\t3;", 1, 6);
        townFault("size 4 3;\0", 1, 9);
        townFault("size 4 3;" + (char) 255, 1, 9);
        townFault("size 12345 3;", 1, 5);
        townFault("size 00004 3;", 1, 5);
        townFault("size 1 3;", 4, 5);
        townFault("size 9 3;", 4, 5);
        townFault("size 4 1;", 4, 7);
        townFault("size 4 7;", 4, 7);
        townFault("size 4 size", 2, 7);
        townFault("size ;", 2, 5);
        townFault("wall 0 0 to 0 0;", 2, 0);
        townFault(BASE + "size 4 3;", 2, 9);
        townFault(BASE + ";", 2, 9);
        townFault(BASE + "3", 2, 9);
        townFault(BASE + "ann", 2, 9);
        townFault(BASE + "wall 4 0 to 4 0;", 4, 14);
        townFault(BASE + "wall 0 3 to 0 3;", 4, 16);
        townFault(BASE + "wall 1 1 to 0 2;", 4, 21);
        townFault(BASE + "wall 1 1 to 1 0;", 4, 23);
        townFault(BASE + "wall 1 1 to 4 1;", 4, 21);
        townFault(BASE + "wall 1 1 to 1 3;", 4, 23);
        townFault(BASE + "wall 1 1 1 1;", 2, 18);
        townFault(ONE + "wall 0 0 to 1 1;", 5, 53);
        townFault(BASE + "lamp 1 1;wall 0 0 to 1 1;", 5, 32);
        townFault(BASE + "wall 1 1 to 1 1;lamp 1 1;", 5, 32);
        townFault(BASE + "wall 1 1 to 1 1;tree 1 1 sways 0;", 5, 32);
        townFault(BASE + "wall 1 1 to 1 1;person a at 1 1 looks", 5, 39);
        townFault(BASE + "tree 1 1 sways 0;tree 1 1 sways 0;", 5, 33);
        townFault(BASE + "lamp 1 1;tree 1 1 sways 0;lamp 1 1;", 5, 42);
        townFault(BASE + "tree 1 1 sways 17;", 4, 24);
        townFault(BASE + "cart 0 0 goes ;", 2, 23);
        townFault(BASE + "cart 0 0 goes n x;", 2, 25);
        townFault(BASE + "cart 0 0 goes" + times(9, " n") + ";", 6, 39);
        townFault(BASE + "cart 0 0 goes" + times(8, " n") + " 7", 2, 39);
        townFault(BASE + times(4, "cart 0 0 goes n;") + "cart 9", 6, 73);
        townFault(eight("tree %d %d sways 1;") + "tree 9", 6, 9 + 8 * 17);
        townFault(eight("lamp %d %d;") + "lamp 9", 6, 9 + 8 * 9);
        townFault(people(8) + "person 9", 6, 9 + 8 * 31);
        townFault(BASE + "person loop at 0 0", 2, 16);
        townFault(BASE + "person nw at 0 0", 2, 16);
        townFault(BASE + "person abcdefghi at 0 0", 2, 16);
        townFault(BASE + "person 7 at 0 0", 2, 16);
        townFault(BASE + "person a at 0 0 looks up far 1;", 2, 31);
        townFault(BASE + "person a at 0 0 looks n far 0;", 4, 37);
        townFault(BASE + "person a at 0 0 looks n far 10;", 4, 37);
        townFault(ONE + "person a at 0 0 looks n far 1;", 3, 46);
        townFault(ONE + "hides b from a;", 3, 45);
        townFault(ONE + "hides a from b;", 3, 52);
        townFault(ONE + "hides a from a;", 5, 52);
        townFault(ONE + "hides a to a;", 2, 47);
        townFault(ONE + "hides from from a;", 2, 45);
        townFault(ONE + "shows b to a;", 3, 45);
        townFault(ONE + "shows a to b;", 3, 50);
        townFault(ONE + "shows a to a;", 5, 50);
        townFault(ONE + "shows a from a;", 2, 47);
        townFault(ONE + "hides a from bbbbbbbbb;", 2, 52);
        townFault(BASE + "hides b from a;person b at 0 0 looks n far 1;", 3, 15);
        townFault(BASE + "seen slow 17", 4, 19);
        townFault(BASE + "seen slow 1 turn 17", 4, 26);
        townFault(BASE + "seen slow 1 turn 1 sign 17", 4, 33);
        townFault(BASE + "seen slow 1 turn 1 sign 1 self 17", 4, 40);
        townFault(BASE + "seen turn 1", 2, 14);
        townFault(BASE + "seen slow 1 turn 1 sign 1 self 1;seen", 5, 42);
    }

    private static String eight(String part) {
        StringBuilder text = new StringBuilder(BASE);
        for (int i = 0; i < 8; i++) {
            text.append(String.format(part, i % 4, i / 4));
        }
        return text.toString();
    }

    private static String people(int n) {
        StringBuilder text = new StringBuilder(BASE);
        for (int i = 0; i < n; i++) {
            text.append("person p").append((char) ('a' + i)).append(" at 0 0 looks n far 1;");
        }
        return text.toString();
    }

    private static void planTable() {
        planFault("a", 2, 1);
        planFault("a does", 2, 6);
        planFault("a does step n", 2, 13);
        planFault("a does step n;.", 1, 14);
        planFault("a does step 12345;", 1, 12);
        planFault("does a;", 2, 0);
        planFault(";", 2, 0);
        planFault("aaaaaaaaa does;", 2, 0);
        planFault("c does;", 3, 0);
        planFault("a step n;", 2, 2);
        planFault("a does n;", 2, 7);
        planFault("a does end;", 2, 7);
        planFault("a does step;", 2, 11);
        planFault("a does slow 3;", 2, 12);
        planFault("a does turn x;", 2, 12);
        planFault("a does sign n;", 2, 12);
        planFault("a does still;", 2, 12);
        planFault("a does still 0;", 4, 13);
        planFault("a does still 61;", 4, 13);
        planFault("a does loop 0 end;", 4, 12);
        planFault("a does loop 61 end;", 4, 12);
        planFault("a does loop 2 sign;", 2, 18);
        planFault("a does loop 2 sign", 2, 18);
        planFault("a does loop 2 end end;", 2, 18);
        planFault("a does;a does;", 5, 7);
        planFault("b does loop 1 loop 1 loop 1 end end end;", 7, 21);
        planFault("a does" + times(40, " sign") + " step", 6, 207);
        planFault("a does" + times(20, " sign") + ";b does" + times(20, " sign") + " loop", 6, 214);
        planFault("a does loop 1 loop 1" + times(38, " sign") + " loop", 6, 211);
    }

    private static final String RICH = "size 5 4;wall 2 1 to 2 2;tree 3 0 sways 8;cart 0 2 goes e w;lamp 4 2;lamp 0 0;"
        + "person o at 0 1 looks e far 9;person pq at 4 1 looks sw far 9;hides pq from o;shows o to pq;"
        + "seen slow 4 turn 8 sign 2 self 16;cart 1 1 goes n ne e se s sw w nw;wall 4 3 to 4 3;";
    private static final String RICH_PLAN = "pq does step nw loop 3 slow s loop 2 sign still 2 end end;o does turn ne turn e"
        + " loop 60 sign end;";

    private static void spoilt(long seed) {
        Random random = new Random(seed);
        String[] words = ("size wall to tree sways cart goes lamp person at looks far hides from shows seen slow turn sign self does"
            + " step still loop end n ne e se s sw w nw a pq o zz abcdefghi abcdefgh 0 1 2 3 4 5 6 7 8 9 10 16 17 60 61 0001 9999"
            + " 10000 ; ; ; A . -").split(" ");
        for (int i = 0; i < 6000; i++) {
            boolean isTown = random.nextInt(3) > 0;
            String text = isTown ? RICH : RICH_PLAN;
            List<String> tokens = new ArrayList<>();
            Matcher m = Pattern.compile("[a-z]+|[0-9]+|;").matcher(text);
            while (m.find()) {
                tokens.add(m.group());
            }
            int spoils = random.nextInt(4);
            for (int k = 0; k < spoils; k++) {
                int at = random.nextInt(tokens.size());
                String word = words[random.nextInt(words.length)];
                switch (random.nextInt(6)) {
                    case 0 -> tokens.remove(at);
                    case 1 -> tokens.add(at, word);
                    case 2 -> tokens.add(at, tokens.get(random.nextInt(tokens.size())));
                    case 3 -> {
                        int end = Math.min(tokens.size(), at + random.nextInt(20));
                        tokens.addAll(at, new ArrayList<>(tokens.subList(at, end)));
                    }
                    default -> tokens.set(at, word);
                }
            }
            StringBuilder made = new StringBuilder();
            for (String token : tokens) {
                boolean bare = random.nextInt(30) == 0 || token.equals(";") && random.nextInt(2) == 0;
                made.append(bare ? "" : random.nextInt(10) == 0 ? "\n" : " ").append(token);
            }
            if (random.nextInt(8) == 0) {
                made.setLength(random.nextInt(made.length() + 1));
            }
            if (made.length() <= (isTown ? 900 : 300)) {
                compare(made.toString(), isTown);
            }
        }
    }

    private static void compare(String text, boolean isTown) {
        StillTown x = isTown ? new StillTown() : Check.townOf(RICH);
        int answer = -1;
        int kind = 0;
        int place = -1;
        try {
            Grammar grammar = new Grammar(text);
            answer = isTown ? grammar.town() : grammar.plan(List.of("o", "pq"));
        } catch (Fault fault) {
            kind = fault.kind;
            place = fault.place;
        }
        Check.due("answer to " + text, isTown ? Check.town(x, text) : Check.plan(x, text), answer);
        Check.due("status of " + text, x.status(), kind == 0 ? 0 : 9);
        Check.due("fault of " + text, x.fault(0), kind);
        Check.due("its place in " + text, x.fault(1), place);
    }

    private static void taken() {
        StillTown x = new StillTown();
        String text = "size04 3;lamp0 0;wall1 1to2 1\n;";
        Check.answered(x, "a town without blanks", Check.town(x, text), 12);
        Check.due("its lamp", x.lamp(0), 0);
        Check.due("its wall", x.wall(6), 1);
        x = Check.townOf(people(8));
        Check.due("eight people", x.told(5), 8);
        x = Check.townOf(eight("tree %d %d sways 1;") + "lamp 0 0;person a at 0 0 looks n far 1;wall 0 2 to 3 2;");
        Check.due("eight trees", x.told(2), 8);
        x = Check.townOf(eight("lamp %d %d;"));
        Check.due("eight lamps", x.told(4), 8);
        x = Check.townOf(BASE + times(4, "cart 0 0 goes n n n n n n n n;") + "wall 0 0 to 0 0;wall 0 0 to 1 1;");
        Check.due("four carts", x.told(3), 4);
        x = Check.townOf(ONE);
        Check.due("forty moves", Check.plan(x, "a does loop 1 loop 1" + times(38, " sign") + " end end;"), 40);
        Check.due("a person who does nothing", Check.plan(x, "a does;"), 0);
        Check.due("an empty plan", Check.plan(x, ""), 0);
        x = Check.townOf(BASE + "person abcdefgh at 0 0 looks n far 1;person abcdefg at 0 0 looks n far 1;"
            + "person nn at 1 1 looks n far 1;hides nn from abcdefg;hides nn from abcdefgh;hides nn from abcdefg;");
        Check.due("long names are told apart", x.person(2, 1), 3);
    }

    public static void main(String[] args) {
        townTable();
        planTable();
        taken();
        spoilt(args.length > 0 ? Long.parseLong(args[0]) : 7);
        Check.finish("FaultTest");
    }
}
