/**
 * The edges that the document names in its texts, a sentence a test: the value at the edge, the one ahead of
 * it and the one behind it, the empty and the full.
 */
public final class EdgeTextTest {
    private static final String[] WAYS = {"n", "ne", "e", "se", "s", "sw", "w", "nw"};
    private static final String KEPT = "size wall to tree sways cart goes lamp person at looks far hides from shows seen slow turn sign"
        + " self does step still loop end n ne e se s sw w nw";
    private static final String BASE = "size 4 3;";
    private static final String PEOPLE = BASE + "person a at 0 0 looks n far 1;person b at 1 1 looks e far 2;";

    private static StillTown taken(String text, int cells) {
        StillTown x = new StillTown();
        Check.answered(x, "town " + text, Check.town(x, text), cells);
        Check.due("fault of " + text, x.fault(0), 0);
        Check.due("place of the fault of " + text, x.fault(1), StillTown.NONE);
        return x;
    }

    private static void fault(String text, int kind, int place) {
        StillTown x = new StillTown();
        Check.refused(x, "town " + text, Check.town(x, text), 9);
        Check.due("fault of " + text, x.fault(0), kind);
        Check.due("place of the fault of " + text, x.fault(1), place);
    }

    /** A FAULT at the place where this ending begins. */
    private static void faultBehind(String head, String ending, int kind) {
        fault(head + ending, kind, head.length());
    }

    private static StillTown planned(String text, int moves) {
        StillTown x = Check.townOf(PEOPLE);
        Check.answered(x, "plan " + text, Check.plan(x, text), moves);
        Check.due("fault of " + text, x.fault(0), 0);
        Check.due("place of the fault of " + text, x.fault(1), StillTown.NONE);
        return x;
    }

    private static void planFaultBehind(String head, String ending, int kind) {
        StillTown x = Check.townOf(PEOPLE);
        Check.refused(x, "plan " + head + ending, Check.plan(x, head + ending), 9);
        Check.due("fault of " + head + ending, x.fault(0), kind);
        Check.due("place of the fault of " + head + ending, x.fault(1), head.length());
    }

    private static String times(int n, String part) {
        return part.repeat(n);
    }

    /** "A TOWN is a TEXT of at most 900 bytes." */
    private static void townOfNineHundredBytes() {
        String text = BASE + times(900 - 18, " ") + "lamp 3 2;";
        StillTown x = taken(text, 12);
        Check.answered(x, "the lamp at the end of 900 bytes", x.lamp(0), 11);
        StillTown less = new StillTown();
        Check.feed(less, text);
        Check.refused(less, "899 of 900 bytes", less.town(899), 9);
        Check.due("its end", less.fault(1), 899);
        Check.due("nothing is on the tape then", less.feed(0, 0, 0, 0, 0), 20);
        StillTown more = new StillTown();
        Check.feed(more, text);
        Check.refused(more, "901 of 900 bytes", more.town(901), 1);
        Check.answered(more, "all 900 then", more.town(900), 12);
    }

    /** Texts of one TOKEN or of none that fill the tape to its last byte. */
    private static void nineHundredBytesAlike() {
        fault(times(900, "a"), 2, 0);
        fault(times(900, "7"), 1, 0);
        fault(times(900, ";"), 2, 0);
        fault(times(900, " "), 2, 900);
        fault(times(900, "?"), 1, 0);
        String lamp = BASE + times(900 - 17, " ") + "lamp 0 ";
        fault(lamp + "1", 2, 900);
        String head = BASE + times(900 - 9 - 5, "\n");
        fault(head + "lamps", 2, 895);
        fault(head + "12345", 1, 895);
        fault(head + " seen", 2, 900);
    }

    /** "The first n bytes of the tape": what is behind them is not read, though a TOKEN could go on. */
    private static void theFirstBytesAlone() {
        String text = BASE + "person abcdefghij at 0 0 looks nw far 9999;lamp 12 11;cart 1 1 goes ne n;";
        for (int n = 0; n < text.length(); n++) {
            StillTown whole = new StillTown();
            Check.feed(whole, text);
            StillTown cut = new StillTown();
            int answer = Check.town(cut, text.substring(0, n));
            Check.due("the first " + n + " bytes", whole.town(n), answer);
            Check.due("their fault", whole.fault(0), cut.fault(0));
            Check.due("its place", whole.fault(1), cut.fault(1));
        }
        fault("size 4 3;lamp 0 0", 2, 17);
        StillTown x = new StillTown();
        Check.feed(x, "size 4 32;lamp");
        Check.refused(x, "size 4 3 and no more", x.town(8), 9);
        Check.due("it ends there", x.fault(1), 8);
        Check.feed(x, "size 4 3;lamp 0 10;");
        Check.refused(x, "lamp 0 1 and no more", x.town(17), 9);
        Check.due("the number is 1", x.fault(0), 2);
        Check.due("it ends behind it", x.fault(1), 17);
        x = Check.townOf(PEOPLE);
        Check.feed(x, "a does step nw;b does still 601;");
        Check.refused(x, "step n and no more", x.plan(13), 9);
        Check.due("it ends there", x.fault(1), 13);
        Check.feed(x, "a does step nw;b does still 60;does");
        Check.answered(x, "two moves and no more", x.plan(31), 2);
    }

    /** "PART: wall .. or seen ..", "MOVE: step WAY, .. or loop ..", "WAY: n, .. or nw": no other WORD can stand there. */
    private static void wordsWhereTheyCanStand() {
        java.util.Set<String> parts = java.util.Set.of("wall", "tree", "cart", "lamp", "person", "hides", "shows", "seen");
        java.util.Set<String> moves = java.util.Set.of("step", "slow", "turn", "sign", "still", "loop");
        java.util.Set<String> ways = java.util.Set.of(WAYS);
        for (String word : (KEPT + " a b abcdefghi 7 0 ;").split(" ")) {
            if (parts.contains(word)) {
                fault(BASE + word, 2, BASE.length() + word.length());
            } else {
                faultBehind(BASE, word, 2);
                faultBehind(BASE + "lamp 0 0;", word + " 0 0;", 2);
            }
            if (!word.equals("size")) {
                faultBehind("", word + " 4 3;", 2);
            }
            if (!ways.contains(word)) {
                faultBehind(BASE + "cart 1 1 goes ", word + ";", 2);
                faultBehind(BASE + "person c at 0 0 looks ", word + " far 1;", 2);
                planFaultBehind("a does step ", word + ";", 2);
                planFaultBehind("a does slow ", word + ";", 2);
                planFaultBehind("a does turn ", word + ";", 2);
            }
            if (!moves.contains(word) && !word.equals(";")) {
                planFaultBehind("a does ", word + ";", 2);
                planFaultBehind("a does sign ", word + ";", 2);
            }
            if (!moves.contains(word) && !word.equals("end")) {
                planFaultBehind("a does loop 2 ", word, 2);
            }
            if (!word.equals("does")) {
                planFaultBehind("a ", word + " sign;", 2);
            }
        }
    }

    /** "TOKENS, as long as they go": no TOKEN ends where it could go on. */
    private static void tokensGoAsLongAsTheyCan() {
        fault("sizes 4 3;", 2, 0);
        fault("siz e 4 3;", 2, 0);
        fault("size 43;", 4, 5);
        faultBehind(BASE, "lamps 0 0;", 2);
        faultBehind(BASE + "lamp 0 ", "00000;", 1);
        StillTown one = taken(BASE + "cart 1 1 goes ne;", 12);
        Check.answered(one, "ne is one way", one.cart(0, 1), 2);
        StillTown two = taken(BASE + "cart 1 1 goes n e;", 12);
        Check.answered(two, "n e are two: n", two.cart(0, 1), 1);
        Check.answered(two, "n e are two: e", two.cart(0, 2), 2);
        faultBehind(BASE + "cart 1 1 goes ", "nee;", 2);
        faultBehind(BASE + "person a at 0 0 looks ", "nn far 1;", 2);
    }

    /** "between them blanks (10, 32)", "no TOKEN begins so": every byte that there is. */
    private static void everyByteBetweenTokens() {
        for (int b = 0; b < 256; b++) {
            String text = "size" + (char) b + "4 3;";
            // 04 is 4
            if (b == 10 || b == 32 || b == '0') {
                taken(text, 12);
            } else if (b >= '1' && b <= '9') {
                fault(text, 4, 4);
            } else if (b >= 'a' && b <= 'z') {
                fault(text, 2, 0);
            } else {
                fault(text, b == ';' ? 2 : 1, 4);
            }
        }
        for (int b = 0; b < 256; b++) {
            String text = BASE + (char) b;
            if (b == 10 || b == 32) {
                taken(text, 12);
            } else {
                boolean begins = b >= '0' && b <= '9' || b >= 'a' && b <= 'z' || b == ';';
                fault(text, begins ? 2 : 1, 9);
            }
        }
        taken("\n \nsize\n\n4  3 \n ; \n", 12);
        taken("size 4 3;lamp 0 0 ;lamp 1 0\n;  lamp 2 0;\nlamp 3 0;", 12);
    }

    /** "WORDS (small letters)": from a to z, and none of their neighbours. */
    private static void wordsOfSmallLetters() {
        for (char letter = 'a'; letter <= 'z'; letter++) {
            boolean kept = "nesw".indexOf(letter) >= 0;
            String head = BASE + "person ";
            String tail = " at 0 0 looks n far 1;";
            if (kept) {
                faultBehind(head, letter + tail, 2);
            } else {
                taken(head + letter + tail, 12);
            }
        }
        faultBehind(BASE + "person a", "` at 0 0 looks n far 1;", 1);
        faultBehind(BASE + "person z", "{ at 0 0 looks n far 1;", 1);
        faultBehind(BASE + "person ", "A at 0 0 looks n far 1;", 1);
        faultBehind(BASE + "person ", "Z at 0 0 looks n far 1;", 1);
        // a digit ends a WORD: 1 can't stand behind the NAME
        faultBehind(BASE + "person a", "1 at 0 0 looks n far 1;", 2);
    }

    /** "NUMBERS (1 to 4 digits)", "1 no TOKEN begins so (a NUMBER of 5 digits and more: at its first)". */
    private static void numbersOfOneToFourDigits() {
        for (String four : new String[] {"4", "04", "004", "0004"}) {
            taken("size " + four + " 3;", 12);
        }
        for (String more : new String[] {"00004", "000004", "12345", "99999999999999999999"}) {
            faultBehind("size ", more + " 3;", 1);
            faultBehind("size 4 ", more + ";", 1);
            faultBehind(BASE, more, 1);
        }
        faultBehind("size ", "9999 3;", 4);
        faultBehind("size 4 ", "9999;", 4);
        faultBehind("size ", "-4 3;", 1);
        faultBehind("size 4", ".0 3;", 1);
        faultBehind("size 4", "/3;", 1);
        faultBehind("size 4", ":3;", 1);
    }

    /** "FAULTS, the first along the text (of one TOKEN the least kind)". */
    private static void theFirstFaultCounts() {
        // too wide, ahead of what is no TOKEN
        fault("size 9 ?", 4, 5);
        fault("size ? 9", 1, 5);
        // a NUMBER of 5 digits where none can stand: 1 is less than 2
        faultBehind(BASE + "wall 0 0 ", "12345 0 0;", 1);
        // a CELL that there is not is told at its own NUMBER, though a wall stands on its row
        faultBehind(BASE + "wall 0 2 to 3 2;lamp ", "4 2;", 4);
        faultBehind(BASE + "lamp 0 0;lamp 0 ", "3;", 4);
        // a NAME that is kept is no NAME, whoever bears another one
        faultBehind(PEOPLE + "hides ", "lamp from a;", 2);
        faultBehind(PEOPLE + "hides ", "c from c;", 3);
        // the 41st MOVE is a third loop, too: 6 is less than 7
        planFaultBehind("a does loop 1 loop 1 " + times(38, "sign "), "loop 1 end end end;", 6);
        // a PERSON who is none, again
        planFaultBehind("", "c does;c does;", 3);
    }

    /** "2 it can't stand there (the end: the text's length ..": the empty text, and where one more TOKEN is due. */
    private static void theEndStandsNowhereElse() {
        String[] tokens = {"size", " 4", " 3", ";"};
        String text = "";
        for (String token : tokens) {
            fault(text, 2, text.length());
            fault(text + " ", 2, text.length() + 1);
            fault(text + "\n\n", 2, text.length() + 2);
            text += token;
        }
        taken(text, 12);
        taken(text + " ", 12);
        String[] parts = {"wall 3 2 to 3 2 ;", "tree 0 0 sways 0 ;", "cart 0 0 goes n ;", "lamp 0 0 ;", "person c at 0 0 looks n far 1 ;",
            "hides a from b ;", "shows a to b ;", "seen slow 0 turn 0 sign 0 self 0 ;"};
        for (String part : parts) {
            taken(PEOPLE + part, 12);
            String head = PEOPLE;
            for (String token : part.split(" ")) {
                head += token.equals(part.split(" ")[0]) ? token : " " + token;
                if (!token.equals(";")) {
                    fault(head, 2, head.length());
                    faultBehind(head + " ", "size", 2);
                }
            }
        }
        String head = "";
        for (String token : "a does step n slow n turn n sign still 1 loop 1 sign end ;".split(" ")) {
            if (!head.isEmpty()) {
                planFaultBehind(head, "", 2);
                planFaultBehind(head + " ", "size", 2);
            }
            head += head.isEmpty() ? token : " " + token;
        }
        planned(head, 7);
    }

    /** "NAME: a WORD of 1 to 8 letters", "a WORD of 9 letters and more where a NAME must stand". */
    private static void namesOfOneToEightLetters() {
        String tail = " at 0 0 looks n far 1;";
        for (int n = 1; n <= 12; n++) {
            String name = "abcdefghijkl".substring(0, n);
            if (n <= 8) {
                StillTown x = taken(BASE + "person " + name + tail, 12);
                Check.answered(x, "plan of " + name, Check.plan(x, name + " does sign;"), 1);
            } else {
                faultBehind(BASE + "person ", name + tail, 2);
                faultBehind(PEOPLE + "hides ", name + " from a;", 2);
                faultBehind(PEOPLE + "hides a from ", name + ";", 2);
                faultBehind(PEOPLE + "shows ", name + " to a;", 2);
                faultBehind(PEOPLE + "shows a to ", name + ";", 2);
                faultBehind(BASE, name + " 0 0;", 2);
                planFaultBehind("", name + " does;", 2);
            }
        }
        taken(BASE + "person abcdefgh" + tail + "person abcdefg" + tail + "person bcdefgh" + tail + "person abcdefgi" + tail, 12);
        faultBehind(BASE + "person abcdefgh" + tail + "person ", "abcdefgh" + tail, 3);
        faultBehind(BASE + "person zzzzzzzz" + tail + "hides ", "zzzzzzz from zzzzzzzz;", 3);
    }

    /** "that is none of size, wall, .. and the WAYS": each of them, a letter less, a letter more. */
    private static void wordsThatAreNoNames() {
        String tail = " at 0 0 looks n far 1;";
        java.util.List<String> kept = java.util.List.of(KEPT.split(" "));
        Check.due("words kept", kept.size(), 33);
        for (String word : kept) {
            faultBehind(BASE + "person ", word + tail, 2);
            faultBehind(PEOPLE + "hides a from ", word + ";", 2);
            planFaultBehind("", word + " does;", 2);
            String less = word.substring(0, word.length() - 1);
            if (!less.isEmpty() && !kept.contains(less)) {
                taken(BASE + "person " + less + tail, 12);
            }
            if (!kept.contains(word + "e")) {
                taken(BASE + "person " + word + "e" + tail, 12);
            }
        }
    }

    /** "so many CELLS wide (2 to 8) and high (2 to 6)". */
    private static void widthsAndHeights() {
        for (int n = 0; n <= 10; n++) {
            if (n >= 2 && n <= 8) {
                StillTown x = taken("size " + n + " 3;", 3 * n);
                Check.answered(x, "its width", x.told(0), n);
                Check.answered(x, "its last cell", x.wall(3 * n - 1), 0);
                Check.refused(x, "no cell behind it", x.wall(3 * n), 1);
            } else {
                faultBehind("size ", n + " 3;", 4);
            }
            if (n >= 2 && n <= 6) {
                StillTown x = taken("size 5 " + n + ";", 5 * n);
                Check.answered(x, "its height", x.told(1), n);
            } else {
                faultBehind("size 5 ", n + ";", 4);
            }
        }
        taken("size 2 2;", 4);
        taken("size 8 6;", 48);
    }

    /** "4 a NUMBER that can't be (a CELL's that there is not, too)": every CELL's x and y at its last and behind it. */
    private static void cellsAtTheEdgeOfTheTown() {
        String[] parts = {"wall # to 3 2;", "wall 0 0 to #;", "tree # sways 1;", "cart # goes n;", "lamp #;", "person c at # looks n far 1;"};
        for (String part : parts) {
            String head = BASE + part.substring(0, part.indexOf('#'));
            String tail = part.substring(part.indexOf('#') + 1);
            taken(head + "0 0" + tail, 12);
            taken(head + "3 2" + tail, 12);
            taken(head + "3 0" + tail, 12);
            taken(head + "0 2" + tail, 12);
            faultBehind(head, "4 0" + tail, 4);
            faultBehind(head, "9999 0" + tail, 4);
            faultBehind(head + "0 ", "3" + tail, 4);
            faultBehind(head + "3 ", "9999" + tail, 4);
            faultBehind(head, "4 3" + tail, 4);
        }
        StillTown x = taken("size 8 6;lamp 7 5;lamp 0 5;lamp 7 0;", 48);
        Check.answered(x, "the last cell", x.lamp(0), 47);
        Check.answered(x, "the first of the last row", x.lamp(1), 40);
        Check.answered(x, "the last of the first row", x.lamp(2), 7);
    }

    /** "WALLS are all CELLS from x, y to x, y (the second not below the first)". */
    private static void wallsFromFirstToSecond() {
        StillTown x = taken("size 4 4;wall 1 1 to 2 3;", 16);
        for (int cell = 0; cell < 16; cell++) {
            boolean within = cell % 4 >= 1 && cell % 4 <= 2 && cell / 4 >= 1;
            Check.answered(x, "wall " + cell, x.wall(cell), within ? 1 : 0);
        }
        x = taken("size 4 4;wall 2 2 to 2 2;", 16);
        for (int cell = 0; cell < 16; cell++) {
            Check.answered(x, "one wall: " + cell, x.wall(cell), cell == 10 ? 1 : 0);
        }
        faultBehind("size 4 4;wall 2 2 to ", "1 2;", 4);
        faultBehind("size 4 4;wall 2 2 to 2 ", "1;", 4);
        faultBehind("size 4 4;wall 2 2 to 3 ", "0;", 4);
        x = taken("size 8 6;wall 0 0 to 7 5;", 48);
        for (int cell = 0; cell < 48; cell++) {
            Check.answered(x, "all walls: " + cell, x.wall(cell), 1);
        }
        x = taken("size 8 6;", 48);
        for (int cell = 0; cell < 48; cell++) {
            Check.answered(x, "no walls: " + cell, x.wall(cell), 0);
        }
        // a WALL may stand on a WALL, and a CART, and any number of them
        taken(BASE + "wall 0 0 to 3 2;wall 0 0 to 3 2;cart 1 1 goes n;" + times(40, "wall 1 1 to 1 1;"), 12);
    }

    private static String eight(String part, int n) {
        StringBuilder text = new StringBuilder(BASE);
        for (int i = 0; i < n; i++) {
            text.append(String.format(part, i % 4, i / 4, (char) ('a' + i)));
        }
        return text.toString();
    }

    /** "TREES, at most 8", "LAMPS, at most 8", "PEOPLE, at most 8", "CARTS, at most 4", "6 one more than there may be of these (at its WORD)". */
    private static void asManyAsThereMayBe() {
        String[] parts = {"tree %d %d sways 1;", "cart %d %d goes n;", "lamp %d %d;", "person p%3$c at %d %d looks n far 1;"};
        int[] most = {8, 4, 8, 8};
        for (int i = 0; i < 4; i++) {
            for (int n = 0; n <= most[i]; n++) {
                StillTown x = taken(eight(parts[i], n), 12);
                Check.answered(x, n + " times " + parts[i], x.told(2 + i), n);
            }
            faultBehind(eight(parts[i], most[i]), String.format(parts[i], 3, 2, 'z'), 6);
            // at its WORD, whatever is behind it
            faultBehind(eight(parts[i], most[i]), parts[i].substring(0, 4) + (i == 3 ? "on" : ""), 6);
            fault(eight(parts[i], most[i]) + "lamps", 2, eight(parts[i], most[i]).length());
        }
        String all = eight("tree %d %d sways 1;", 8) + eight("lamp %d %d;", 8).substring(9) + eight("cart %d %d goes n;", 4).substring(9);
        StillTown x = taken(all + eight("person p%3$c at %d %d looks n far 1;", 8).substring(9), 12);
        int[] told = {8, 4, 8, 8};
        for (int i = 0; i < 4; i++) {
            Check.answered(x, "all at once: " + (2 + i), x.told(2 + i), told[i]);
        }
        for (int i = 0; i < 8; i++) {
            Check.answered(x, "lamp " + i + " as it stands", x.lamp(i), i);
            Check.answered(x, "person " + i + " as it stands", x.at(i, 0), i);
            if (i < 4) {
                Check.answered(x, "cart " + i + " as it stands", x.cart(i, 0), i);
            }
        }
    }

    /** "SWAYS with so many sixteenths (0 to 16)". */
    private static void swaysOfATree() {
        for (int n = 0; n <= 18; n++) {
            if (n <= 16) {
                StillTown x = taken(BASE + "tree 1 1 sways " + n + ";", 12);
                Check.answered(x, "sways", x.sways(5), n);
                Check.answered(x, "sways beside it", x.sways(4), 0);
                Check.answered(x, "a tree", x.told(2), 1);
            } else {
                faultBehind(BASE + "tree 1 1 sways ", n + ";", 4);
            }
        }
        faultBehind(BASE + "tree 1 1 sways ", "9999;", 4);
    }

    /** "the WAYS (1 to 8) they go", "a ninth WAY (at it)". */
    private static void waysOfACart() {
        faultBehind(BASE + "cart 1 1 goes", ";", 2);
        faultBehind(BASE + "cart 1 1 goes ", "lamp;", 2);
        // once round the CELL 1, 1, and so on: behind minute 8 all begins again
        int[] round = {5, 1, 2, 6, 10, 9, 8, 4, 0};
        String[] ways = {"n", "e", "s", "s", "w", "w", "n", "n"};
        String text = BASE + "cart 1 1 goes";
        for (int n = 1; n <= 8; n++) {
            text += " " + ways[n - 1];
            StillTown x = taken(text + ";", 12);
            for (int t = 0; t <= n; t++) {
                Check.answered(x, "cart of " + n + " ways at " + t, x.cart(0, t), round[t]);
            }
        }
        StillTown x = taken(text + ";", 12);
        Check.answered(x, "the first way over again: out of the town", x.cart(0, 9), 0);
        Check.answered(x, "the second way over again", x.cart(0, 10), 1);
        StillTown one = taken(BASE + "cart 1 1 goes e;", 12);
        Check.answered(one, "one way over and over", one.cart(0, 2), 7);
        Check.answered(one, "and at the edge it stays", one.cart(0, 60), 7);
        faultBehind(text + " ", "n;", 6);
        faultBehind(text + " ", "n lamp", 6);
        faultBehind(text + " ", "7;", 2);
        faultBehind(text + " ", "lamp;", 2);
        fault(text, 2, text.length());
    }

    /** "where they are, look, how FAR they see (1 to 9)". */
    private static void farOfAPerson() {
        for (int n = 0; n <= 11; n++) {
            if (n >= 1 && n <= 9) {
                StillTown x = taken(BASE + "person c at 3 2 looks n far " + n + ";", 12);
                Check.answered(x, "far", x.person(0, 0), n);
            } else {
                faultBehind(BASE + "person c at 3 2 looks n far ", n + ";", 4);
            }
        }
        for (int way = 0; way < 8; way++) {
            StillTown x = taken(BASE + "person c at 3 2 looks " + WAYS[way] + " far 9;", 12);
            Check.answered(x, "looks", x.looks(0, 0), way);
        }
    }

    /** "No TREE, LAMP, PERSON is on a WALL": within it, at its corners, and just out of it; told ahead or behind. */
    private static void wallsUnderThings() {
        String[] things = {"tree # sways 1;", "lamp #;", "person c at # looks n far 1;"};
        for (String thing : things) {
            for (int cell = 0; cell < 25; cell++) {
                boolean within = cell % 5 >= 1 && cell % 5 <= 3 && cell / 5 >= 1 && cell / 5 <= 3;
                String told = thing.replace("#", cell % 5 + " " + cell / 5);
                String wall = "wall 1 1 to 3 3;";
                if (!within) {
                    taken("size 5 5;" + told + wall, 25);
                    taken("size 5 5;" + wall + told, 25);
                } else {
                    // at the wall's last NUMBER, or at the CELL's second one
                    faultBehind("size 5 5;" + told + "wall 1 1 to 3 ", "3;", 5);
                    int second = told.indexOf(cell % 5 + " " + cell / 5) + 2;
                    faultBehind("size 5 5;" + wall + told.substring(0, second), told.substring(second), 5);
                    faultBehind("size 5 5;" + wall + told.substring(0, second), cell / 5 + " lamp", 5);
                }
            }
        }
    }

    /** "on a CELL there is one TREE, one LAMP at most". */
    private static void oneTreeOneLamp() {
        String tail = " at 1 1 looks n far 1;";
        taken(BASE + "tree 1 1 sways 1;lamp 1 1;cart 1 1 goes n;cart 1 1 goes n;person c" + tail + "person d" + tail, 12);
        faultBehind(BASE + "tree 1 1 sways 0;tree 1 ", "1 sways 0;", 5);
        faultBehind(BASE + "tree 1 1 sways 0;lamp 1 1;lamp 1 ", "1;", 5);
        taken(BASE + "tree 1 1 sways 0;tree 1 2 sways 0;tree 2 1 sways 0;lamp 1 1;lamp 1 2;lamp 2 1;", 12);
        // the ninth one is told at its WORD, ahead of its CELL
        faultBehind(eight("lamp %d %d;", 8), "lamp 0 0;", 6);
    }

    /** "SEEN: with how many sixteenths (0 to 16 each) ..", "(without: 4, 8, 2, 16)", "5 seen told already (at that WORD)". */
    private static void seenOfEachKind() {
        StillTown without = taken(BASE, 12);
        int[] made = {4, 8, 2, 16};
        String[] kinds = {"slow", "turn", "sign", "self"};
        for (int i = 0; i < 4; i++) {
            Check.answered(without, "without, " + kinds[i], without.told(6 + i), made[i]);
            String head = BASE + "seen";
            for (int k = 0; k < i; k++) {
                head += " " + kinds[k] + " 0";
            }
            String tail = ";";
            for (int k = 3; k > i; k--) {
                tail = " " + kinds[k] + " 0" + tail;
            }
            for (int n = 0; n <= 18; n++) {
                if (n <= 16) {
                    StillTown x = taken(head + " " + kinds[i] + " " + n + tail, 12);
                    for (int k = 0; k < 4; k++) {
                        Check.answered(x, kinds[k] + " where " + kinds[i] + " is " + n, x.told(6 + k), k == i ? n : 0);
                    }
                } else {
                    faultBehind(head + " " + kinds[i] + " ", n + tail, 4);
                }
            }
        }
        faultBehind(BASE + "seen slow 0 turn 0 sign 0 self 0;", "seen slow 0 turn 0 sign 0 self 0;", 5);
        faultBehind(BASE + "seen slow 4 turn 8 sign 2 self 16;lamp 0 0;", "seen", 5);
        // what one TOWN told is not told for the next one
        StillTown x = taken(BASE + "seen slow 0 turn 0 sign 0 self 0;", 12);
        Check.answered(x, "the next one", Check.town(x, BASE + "seen slow 1 turn 1 sign 1 self 1;"), 12);
        Check.answered(x, "the one without", Check.town(x, BASE), 12);
        for (int i = 0; i < 4; i++) {
            Check.answered(x, "as it is without, " + kinds[i], x.told(6 + i), made[i]);
        }
    }

    /** "3 a person's NAME that one has already; a NAME that no PERSON told ahead has", "somebody who hides from, shows to itself (at the second NAME)". */
    private static void namesThatAreKnown() {
        faultBehind(PEOPLE + "person ", "b at 9 9", 3);
        faultBehind(PEOPLE + "person ", "a at", 3);
        for (String pair : new String[] {"hides from", "shows to"}) {
            String word = pair.split(" ")[0];
            String between = " " + pair.split(" ")[1] + " ";
            faultBehind(PEOPLE + word + " ", "c" + between + "c;", 3);
            faultBehind(PEOPLE + word + " a" + between, "c;", 3);
            faultBehind(PEOPLE + word + " a" + between, "a;", 5);
            faultBehind(PEOPLE + word + " b" + between, "b lamp", 5);
            faultBehind(BASE + word + " ", "a" + between + "b;" + PEOPLE.substring(9), 3);
            String twice = word + " a" + between + "b;";
            StillTown x = taken(PEOPLE + twice + twice + word + " b" + between + "a;", 12);
            int what = word.equals("hides") ? 1 : 2;
            Check.answered(x, twice + " twice is once", x.person(0, what), 2);
            Check.answered(x, "the other way round, too", x.person(1, what), 1);
            Check.answered(x, "nobody else: 0", x.person(0, 3 - what), 0);
            Check.answered(x, "nobody else: 1", x.person(1, 3 - what), 0);
        }
        StringBuilder all = new StringBuilder(eight("person p%3$c at %d %d looks n far 1;", 8));
        for (int i = 1; i < 8; i++) {
            all.append("hides pa from p").append((char) ('a' + i)).append(";shows ph to p").append((char) ('a' + i - 1)).append(";");
        }
        StillTown x = taken(all.toString(), 12);
        Check.answered(x, "the first hides from all others", x.person(0, 1), 254);
        Check.answered(x, "the last shows to all others", x.person(7, 2), 127);
    }

    /** "A TOWN that is taken is there in place of that ahead; there is no PLAN then." "9: the old one stays". */
    private static void inPlaceOfThatAhead() {
        StillTown x = Check.planned(PEOPLE + "lamp 0 0;tree 1 1 sways 3;wall 3 2 to 3 2;cart 0 0 goes e;hides a from b;", "b does step e;");
        Check.answered(x, "planned", x.at(1, 1), 6);
        Check.refused(x, "a spoilt one", Check.town(x, "size 2 2;lamp 1 1;lamp 1 1;"), 9);
        Check.answered(x, "the width stays", x.told(0), 4);
        Check.answered(x, "the lamp stays", x.lamp(0), 0);
        Check.answered(x, "the plan stays", x.at(1, 1), 6);
        Check.answered(x, "who hides stays", x.person(0, 1), 2);
        Check.answered(x, "the same people again", Check.town(x, PEOPLE), 12);
        Check.answered(x, "no plan", x.at(1, 1), 5);
        int[] told = {4, 3, 0, 0, 0, 2};
        for (int i = 0; i < told.length; i++) {
            Check.answered(x, "told " + i, x.told(i), told[i]);
        }
        Check.answered(x, "no wall", x.wall(11), 0);
        Check.answered(x, "no tree", x.sways(5), 0);
        Check.answered(x, "nobody hides", x.person(0, 1), 0);
    }

    /** "A PLAN is a TEXT of at most 300 bytes". */
    private static void planOfThreeHundredBytes() {
        String text = times(300 - 14, " ") + "b does step e;";
        StillTown x = planned(text, 1);
        Check.answered(x, "the step at the end of 300 bytes", x.at(1, 1), 6);
        StillTown less = Check.townOf(PEOPLE);
        Check.feed(less, text);
        Check.refused(less, "299 of 300 bytes", less.plan(299), 9);
        Check.due("its end", less.fault(1), 299);
        StillTown more = Check.townOf(PEOPLE);
        Check.feed(more, text + "    ");
        Check.refused(more, "301 bytes, though the tape has them", more.plan(301), 1);
        Check.answered(more, "300 of them", more.plan(300), 1);
    }

    /** "{NAME does {MOVE} ;}", "none at first: all stand still": no line, no MOVE, a MOVE. */
    private static void noMovesAndOne() {
        StillTown x = planned("", 0);
        Check.answered(x, "still", x.did(0, 1), 0);
        x = planned("a does;", 0);
        Check.answered(x, "still", x.did(0, 1), 0);
        x = planned("b does;a does;", 0);
        x = planned("a does loop 60 end;", 1);
        Check.answered(x, "still", x.did(0, 1), 0);
        x = planned("a does sign;", 1);
        Check.answered(x, "a sign", x.did(0, 1), 4);
        Check.answered(x, "one alone", x.did(0, 2), 0);
        planFaultBehind("a does;", ";", 2);
        planFaultBehind("", ";", 2);
    }

    private static void does(StillTown x, int minute, int what) {
        Check.answered(x, "did in minute " + minute, x.did(0, minute), what);
    }

    /** "still n (1 to 60): n minutes". */
    private static void stillSoManyMinutes() {
        planFaultBehind("a does still ", "0 sign;", 4);
        planFaultBehind("a does still ", "61 sign;", 4);
        planFaultBehind("a does still ", "9999 sign;", 4);
        for (int n : new int[] {1, 2, 58, 59}) {
            StillTown x = planned("a does still " + n + " sign;", 2);
            does(x, n, 0);
            does(x, n + 1, 4);
            if (n + 2 <= 60) {
                does(x, n + 2, 0);
            }
        }
        StillTown x = planned("a does still 60 sign;", 2);
        does(x, 60, 0);
    }

    /** "loop n (1 to 60): as often", "what is beyond is left out; behind them it is still". */
    private static void loopsSoOften() {
        planFaultBehind("a does loop ", "0 sign end;", 4);
        planFaultBehind("a does loop ", "61 sign end;", 4);
        planFaultBehind("a does loop ", "9999 sign end;", 4);
        for (int n : new int[] {1, 2, 58, 59}) {
            StillTown x = planned("a does loop " + n + " sign end turn n;", 3);
            does(x, n, 4);
            does(x, n + 1, 3);
            if (n + 2 <= 60) {
                does(x, n + 2, 0);
            }
        }
        StillTown x = planned("a does loop 60 sign end turn n;", 3);
        does(x, 60, 4);
        // two by 30 are 60 minutes, two by 31 are more
        x = planned("a does loop 30 sign turn n end slow e;", 4);
        does(x, 59, 4);
        does(x, 60, 3);
        x = planned("a does loop 29 sign turn n end slow e;", 4);
        does(x, 59, 2);
        does(x, 60, 0);
        x = planned("a does sign loop 60 sign turn n end;", 4);
        does(x, 59, 3);
        does(x, 60, 4);
        x = planned("a does loop 60 loop 60 still 60 sign end sign end sign;", 6);
        does(x, 60, 0);
        x = planned("a does loop 1 loop 1 sign end end turn n;", 4);
        does(x, 1, 4);
        does(x, 2, 3);
        does(x, 3, 0);
    }

    /** "what is beyond is left out": it comes to nobody else's minutes. */
    private static void beyondIsLeftOut() {
        for (String moves : new String[] {"still 60 sign", "loop 60 sign end turn n", "loop 60 loop 60 step e end end", "still 59 still 60 sign sign"}) {
            StillTown x = planned("a does " + moves + ";", moves.split("still|sign|loop|turn|step", -1).length - 1);
            for (int t = 1; t <= 60; t++) {
                Check.answered(x, "b is still behind " + moves, x.did(1, t), 0);
            }
            x = Check.townOf(eight("person p%3$c at %d %d looks n far 1;", 8));
            Check.due("of the last one", Check.plan(x, "ph does " + moves + ";") > 0, true);
            for (int t : new int[] {1, 2, 59, 60}) {
                for (int p = 0; p < 7; p++) {
                    Check.answered(x, p + " is still behind " + moves, x.did(p, t), 0);
                }
            }
        }
        // told ahead of the one whose minutes come next, and behind it
        StillTown x = planned("b does sign still 1 sign;a does still 60 turn n;", 5);
        Check.answered(x, "b signs", x.did(1, 1), 4);
        x = planned("a does still 60 turn n;b does sign still 1 sign;", 5);
        Check.answered(x, "b signs", x.did(1, 1), 4);
    }

    /** "6 a 41st MOVE (at its WORD; loop is one, end none)". */
    private static void fortyMoves() {
        planned("a does " + times(39, "sign ") + ";", 39);
        planned("a does " + times(40, "sign ") + ";", 40);
        for (String word : new String[] {"sign", "step n", "slow n", "turn n", "still 1", "loop 1 end", "step", "loop"}) {
            planFaultBehind("a does " + times(40, "sign "), word + ";", 6);
        }
        // end is none, and none comes behind the 40th
        planned("a does " + times(39, "sign ") + "loop 1 end;", 40);
        planned("a does loop 1 " + times(39, "sign ") + "end;", 40);
        planFaultBehind("a does loop 1 " + times(39, "sign ") + "end ", "sign;", 6);
        planFaultBehind("a does " + times(40, "sign "), "end;", 2);
        planFaultBehind("a does " + times(40, "sign "), "n;", 2);
        // a loop's MOVES count once, however often they are done
        planned("a does loop 60 sign end loop 60 sign end;", 4);
        planned("a does " + times(20, "sign ") + ";b does " + times(20, "sign ") + ";", 40);
        planFaultBehind("a does " + times(20, "sign ") + ";b does " + times(20, "sign "), "sign;", 6);
    }

    /** "7 a loop within two others (at its WORD)". */
    private static void loopsWithinLoops() {
        planned("a does loop 2 sign end;", 2);
        planned("a does loop 2 loop 2 sign end end;", 3);
        planned("a does loop 2 loop 2 end loop 2 end end loop 2 loop 2 end end;", 5);
        planFaultBehind("a does loop 2 loop 2 ", "loop 2 sign end end end;", 7);
        planFaultBehind("a does loop 2 loop 2 ", "loop", 7);
        planFaultBehind("a does loop 2 loop 2 end loop 2 ", "loop 2 end end end;", 7);
        planFaultBehind("a does loop 2 loop 2 sign end ", ";", 2);
        planFaultBehind("a does loop 2 ", ";", 2);
        planFaultBehind("a does ", "end;", 2);
        planFaultBehind("a does loop 2 end ", "end;", 2);
        // each PERSON's loops are its own
        planned("a does loop 2 loop 2 end end;b does loop 2 loop 2 end end;", 4);
    }

    /** "3 a NAME that no PERSON has", "5 a PERSON again (at its NAME)". */
    private static void peopleOfAPlan() {
        planFaultBehind("", "c does;", 3);
        planFaultBehind("", "aa does;", 3);
        planFaultBehind("a does;", "a does;", 5);
        planFaultBehind("b does;a does;", "b", 5);
        StillTown nobody = new StillTown();
        Check.refused(nobody, "a plan ahead of any town", Check.plan(nobody, "a does;"), 9);
        Check.due("its fault", nobody.fault(0), 3);
        Check.due("its place", nobody.fault(1), 0);
        Check.answered(nobody, "a plan of nobody", Check.plan(nobody, " "), 0);
        StringBuilder all = new StringBuilder();
        for (int i = 7; i >= 0; i--) {
            all.append("p").append((char) ('a' + i)).append(" does still ").append(i + 1).append(" sign;");
        }
        StillTown x = Check.townOf(eight("person p%3$c at %d %d looks n far 1;", 8));
        Check.answered(x, "a plan of eight", Check.plan(x, all.toString()), 16);
        for (int i = 0; i < 8; i++) {
            Check.answered(x, "the sign of " + i, x.did(i, i + 2), 4);
            Check.answered(x, "ahead of it", x.did(i, i + 1), 0);
        }
    }

    /** "11: Likewise the PLAN (9)": the old PLAN stays, and a new one is in its place. */
    private static void plansOneBehindTheOther() {
        StillTown x = planned("b does step e step e;", 2);
        Check.refused(x, "a spoilt one", Check.plan(x, "b does sign loop 2 sign"), 9);
        Check.answered(x, "the old one stays", x.at(1, 2), 7);
        Check.due("the tape is empty", x.feed(0, 0, 0, 0, 0), 20);
        Check.refused(x, "nothing but zeros", x.plan(20), 9);
        Check.due("its fault", x.fault(0), 1);
        Check.answered(x, "a new one", Check.plan(x, "a does sign;"), 1);
        Check.answered(x, "nothing of the old one", x.at(1, 60), 5);
        Check.answered(x, "an empty one", x.plan(0), 0);
        Check.answered(x, "nothing of that", x.did(0, 1), 0);
    }

    public static void main(String[] args) {
        townOfNineHundredBytes();
        nineHundredBytesAlike();
        theFirstBytesAlone();
        wordsWhereTheyCanStand();
        tokensGoAsLongAsTheyCan();
        everyByteBetweenTokens();
        wordsOfSmallLetters();
        numbersOfOneToFourDigits();
        theFirstFaultCounts();
        theEndStandsNowhereElse();
        namesOfOneToEightLetters();
        wordsThatAreNoNames();
        widthsAndHeights();
        cellsAtTheEdgeOfTheTown();
        wallsFromFirstToSecond();
        asManyAsThereMayBe();
        swaysOfATree();
        waysOfACart();
        farOfAPerson();
        wallsUnderThings();
        oneTreeOneLamp();
        seenOfEachKind();
        namesThatAreKnown();
        inPlaceOfThatAhead();
        planOfThreeHundredBytes();
        noMovesAndOne();
        stillSoManyMinutes();
        loopsSoOften();
        beyondIsLeftOut();
        fortyMoves();
        loopsWithinLoops();
        peopleOfAPlan();
        plansOneBehindTheOther();
        Check.finish("EdgeTextTest");
    }
}
