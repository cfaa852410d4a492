/**
 * Terms 1 and promises 2 to 5, edge by edge: the last letter, number, row and item that is taken in a TEXT, and the
 * first that is not. Each test bears the words of the document that it holds the class to.
 */
public final class TextTests {
    private static final int BAD = Checks.BAD, NO = Checks.NO, FULL = Checks.FULL, NONE = Checks.NONE;
    private static final String AT_FIRST =
        "w5,ab;w3,abc;w7,d;w2,de;w4,fa;w6,c;l01;l23;l4;l25;x7;h3,2;a0,0,20;a1,3,9;a2,4,30;a3,1,15;r2;";
    /** Two words told ahead of the item that is tried, so that its place is not 0. */
    private static final String LEAD = "w1,a;w2,b;";
    private static final int PLACE = LEAD.length();

    private static void fault(String where, String text, int place) {
        CharadePost x = Checks.written(text);
        Checks.due(where, "fault of " + text, x.fault(), place);
        if (place != NONE) {
            Checks.due(where, "lay of " + text, x.lay(), NO);
        }
    }

    private static void taken(String where, String item, boolean so) {
        fault(where, LEAD + item, so ? NONE : PLACE);
    }

    private static void aThing(String where, String text, String steps) {
        Checks.run(where, text, steps);
    }

    private static void letters() {
        String where = "2: a letter (32 to 126)";
        for (int letter = -40; letter <= 300; letter++) {
            CharadePost x = new CharadePost();
            boolean so = letter >= 32 && letter <= 126;
            Checks.due(where, "write " + letter, x.write(letter), so ? 1 : BAD);
            Checks.due(where, "count 12 behind " + letter, x.count(12), so ? 1 : 0);
        }
        aThing(where, "", "write LOW = BAD; write HIGH = BAD; count 12 = 0");
    }

    private static void twoHundred() {
        String where = "a TEXT is letters (200 at most)";
        String full = "w1,a;" + "x00;".repeat(47) + "a0,0,7;";
        CharadePost x = new CharadePost();
        for (int n = 1; n <= 200; n++) {
            Checks.due(where, "write letter " + n, x.write(full.charAt(n - 1)), n);
        }
        Checks.due(where, "write a 201st", x.write('r'), FULL);
        Checks.due(where, "write what is no letter", x.write(31), BAD);
        Checks.due(where, "how many", x.count(12), 200);
        Checks.due(where, "fault of 200", x.fault(), NONE);
        Checks.due(where, "lay of 200", x.lay(), 1);
        Checks.due(where, "coins told by the 199th", x.actor(0, 2), 7);
        Checks.due(where, "the text stays", x.count(12), 200);
        Checks.due(where, "a 201st still", x.write('r'), FULL);
        Checks.due(where, "wipe of 200", x.wipe(), 200);
        Checks.due(where, "one behind it", x.write('w'), 1);
        fault(where, "w1,a;" + "x00;".repeat(47) + "a0,0,10;", 5 + 4 * 47);
        fault(where, "w1,a;" + "x00;".repeat(46) + "x0;" + "a0,0,10;", NONE);
        fault(where, "w1,a;" + "x00;".repeat(48) + "r1;", NONE);
        fault(where, "w1,a;" + "x00;".repeat(48) + "r1,", 5 + 4 * 48);
    }

    private static void wiped() {
        String where = "3: THE TEXT is empty: how long it was";
        aThing(where, "", "wipe = 0; write 119 = 1; wipe = 1; wipe = 0; count 12 = 0; fault = NONE; lay = NO; write 120 = 1");
    }

    /** All numbers of none to three figures, from place to place. */
    private static void numbers(String ahead, int low, int high, String behind) {
        String where = "numbers: " + ahead + low + " to " + high + behind;
        for (int n = 0; n <= 120; n++) {
            taken(where, ahead + n + behind, n >= low && n <= high);
        }
        for (int n = 0; n <= 9; n++) {
            taken("one or two figures", ahead + "0" + n + behind, n >= low && n <= high);
            taken("one or two figures", ahead + "00" + n + behind, false);
        }
        for (String none : new String[] {"", " ", "-1", "+2", " 2", "2 ", "2.", "a", "2a", "2,", ",2", ";2"}) {
            taken("one or two figures", ahead + none + behind, false);
        }
    }

    private static void allNumbers() {
        numbers("w", 1, 9, ",ab;");
        numbers("x", 0, 14, ";");
        numbers("h", 2, 5, ",1;");
        numbers("h5,", 1, 4, ";");
        numbers("r", 0, 9, ";");
        numbers("a", 0, 3, ",1,50;");
        numbers("a3,", 0, 1, ",50;");
        numbers("a3,1,", 0, 99, ";");
    }

    private static void whatNumbersTell() {
        for (int n = 0; n <= 99; n++) {
            String two = (n < 10 ? "0" : "") + n;
            aThing("C (0 to 99) COINS", "w1,a;a0,0," + n + ";a1,0," + two + ";", "actor 0 2 = " + n + "; actor 1 2 = " + n);
        }
        for (int n = 0; n <= 9; n++) {
            aThing("R (0 to 9) COINS", "w1,a;a0,0,0;r" + n + ";", "count 3 = " + n);
            aThing("R (0 to 9) COINS", "w1,a;a0,0,0;r0" + n + ";", "count 3 = " + n);
        }
        for (int n = 1; n <= 9; n++) {
            aThing("W (1 to 9)", "w" + n + ",a;w0" + n + ",b;a0,0,0;", "word 0 0 = " + n + "; word 1 0 = " + n);
        }
        for (int kind = 0; kind <= 3; kind++) {
            aThing("KIND K (0 to 3)", "w1,a;a" + kind + ",0,0;", "actor 0 0 = " + kind);
        }
        for (int w = 0; w < 8; w++) {
            aThing("WORD W", "w1,a;".repeat(8) + "a0," + w + ",0;a0,0" + w + ",0;", "actor 0 1 = " + w + "; actor 1 1 = " + w);
        }
        for (int s = 0; s <= 14; s++) {
            String text = "x" + s + ";w1,a;l0;l0;l0;l0;l0;l0;a0,0,0;";
            for (int other = 0; other <= 14; other++) {
                Checks.run("SIGN S (0 to 14) is FORBIDDEN", text, "forbidden " + other + " = " + (s == other ? 1 : 0));
            }
        }
    }

    /** Each letter in each place of an item: but for the right ones the item is not so. */
    private static void everyLetterEverywhere() {
        String where = "each a letter, then what it tells, parted by , and a ; behind it";
        for (char c = 32; c <= 126; c++) {
            boolean part = c >= 'a' && c <= 'f';
            boolean comma = c == ',';
            taken(where, c + "1,ab;", c == 'w');
            taken(where, c + "1;", c == 'x' || c == 'r' || c == 'l');
            taken(where, c + "2,1;", c == 'h');
            taken(where, c + "1,1,1;", c == 'a');
            taken("a to f each", "w1," + c + ";", part);
            taken("told ahead", "l" + c + ";", c == '0' || c == '1');
            taken(where, "w1" + c + "ab;", comma);
            taken(where, "h2" + c + "1;", comma);
            taken(where, "a1" + c + "1,1;", comma);
            taken(where, "a1,1" + c + "1;", comma);
            for (String item : new String[] {"w1,abc", "l0", "x1", "h2,1", "r1", "a1,1,1"}) {
                taken(where, item + c, c == ';');
            }
            if (c != ';') {
                taken("a to f each", "w1,a" + c + ";", part);
                taken("a to f each", "w1,aa" + c + ";", part);
                taken("a row of 1 to 3", "w1,aaa" + c + ";", false);
                taken("a row of one or more, unlike", "l0" + c + ";", c == '1');
                taken("a row of one or more, unlike", "l01" + c + ";", false);
            }
        }
    }

    private static void rows() {
        for (int n = 0; n <= 6; n++) {
            taken("a row of 1 to 3, a to f each", "w1," + "fedcba".substring(0, n) + ";", n >= 1 && n <= 3);
            taken("alike ones or not", "w1," + "eeeeee".substring(0, n) + ";", n >= 1 && n <= 3);
        }
        String eight = "w1,a;".repeat(8);
        for (int n = 0; n <= 8; n++) {
            fault("a row of one or more", eight + "l" + "76543210".substring(0, n) + ";", n == 0 ? 40 : NONE);
        }
        for (int n = 0; n <= 8; n++) {
            fault("unlike", eight + "l76543210".substring(0, 9) + n + ";", 40);
            fault("unlike", eight + "l0" + "1234567".substring(0, Math.max(0, n - 1)) + "0;", 40);
        }
        fault("one next to the other", eight + "l0,1;", 40);
        fault("one next to the other", eight + "l0 1;", 40);
        fault("one next to the other", "w1,a,b;", 0);
        aThing("a row of all", eight + "l76543210;l7;a0,0,0;", "word 0 3 = 1; word 7 3 = 3; word 6 3 = 1");
    }

    private static void toldAhead() {
        for (int words = 0; words <= 8; words++) {
            String ahead = "w1,a;".repeat(words);
            for (int w = 0; w <= 9; w++) {
                int place = w < words ? NONE : 5 * words;
                fault("a LIKENESS to WORDS (told ahead)", ahead + "l" + w + ";", place);
                fault("who acts for WORD W (told ahead)", ahead + "a0," + w + ",0;", place);
            }
        }
        fault("told ahead", "l0;w1,a;", 0);
        fault("told ahead", "w1,a;l01;w1,b;", 5);
        fault("told ahead", "w1,a;a0,1,0;w1,b;", 5);
        aThing("told ahead", "w1,a;l0;w1,b;l1;a0,1,0;", "word 0 3 = 1; word 1 3 = 2; actor 0 1 = 1");
    }

    private static void howManyOfEach() {
        for (int n = 1; n <= 9; n++) {
            fault("WORDS: 8 at most", "w1,a;".repeat(n) + "r1;", n <= 8 ? NONE : 40);
        }
        for (int n = 1; n <= 8; n++) {
            fault("LIKENESSES: 6 at most", "w1,a;" + "l0;".repeat(n) + "r1;", n <= 6 ? NONE : 23);
        }
        for (int n = 1; n <= 7; n++) {
            fault("ACTORS: 5 at most", "w1,a;" + "a0,0,0;".repeat(n) + "r1;", n <= 5 ? NONE : 40);
        }
        fault("8 at most, whatever is between", "w1,a;x0;".repeat(8) + "w1,a;", 64);
        fault("6 at most, whatever is between", "w1,a;" + "l0;r1;".repeat(6) + "l0;", 41);
        fault("5 at most, whatever is between", "w1,a;" + "a0,0,0;h2,1;".repeat(5) + "a0,0,0;", 65);
        fault("no matter if told once more", "x3;".repeat(66), NONE);
        fault("of several such the last one counts", "h2,1;".repeat(40), NONE);
        fault("of several such the last one counts", "r9;".repeat(66), NONE);
        String most = "w1,a;".repeat(7) + "w9,fff;" + "l7;".repeat(5) + "l01234567;" + "a0,0,0;".repeat(4) + "a3,7,99;";
        aThing("the most of all", most, "count 0 = 8; count 1 = 15; count 2 = 5; count 4 = 5; word 7 0 = 9; word 7 1 = 3;"
            + "word 7 2 = 32; word 7 3 = 63; word 6 3 = 32; word 8 0 = BAD; actor 4 0 = 3; actor 4 1 = 7; actor 4 2 = 99;"
            + "actor 5 0 = BAD; forbidden 14 = 0; forbidden 15 = BAD; show 4 14 = 1; show 4 15 = BAD");
    }

    private static void forbiddenOnes() {
        aThing("or if there is no such SIGN", "x14;x9;w1,a;a0,0,0;", "count 1 = 9; forbidden 8 = 0; forbidden 9 = BAD; forbidden 14 = BAD");
        aThing("told ahead of what it forbids", "x14;x9;w1,a;l0;l0;l0;l0;l0;l0;a0,0,0;",
            "forbidden 8 = 0; forbidden 9 = 1; forbidden 10 = 0; forbidden 13 = 0; forbidden 14 = 1; show 0 14 = 0");
        aThing("no matter if told once more", "x8;w1,a;x8;a0,0,0;x08;", "forbidden 8 = 1; forbidden 7 = 0");
    }

    private static void habitsAndPrices() {
        aThing("(3, 2 without)", "w1,a;l0;a0,0,9;", "show 0 9; weight 0 0 = 3; show 0 0; weight 0 0 = 6; count 3 = 2");
        for (int a = 2; a <= 5; a++) {
            for (int b = 1; b <= 4; b++) {
                String steps = "show 0 9; weight 0 0 = " + a + "; undo; show 0 0; weight 0 0 = " + b;
                aThing("A (2 to 5), B (1 to 4)", "w1,a;l0;a0,0,9;h" + a + "," + b + ";", steps);
                aThing("the last one counts", "h5,4;w1,a;h3,2;l0;a0,0,9;h" + a + "," + b + ";", steps);
            }
        }
        aThing("the last one counts", "r9;w1,a;r1;a0,0,9;r5;r0;", "count 3 = 0");
        aThing("the last one counts", "r0;w1,a;a0,0,9;r09;", "count 3 = 9");
    }

    /** Letter by letter: what is not yet ended is at fault, from its first letter on. */
    private static void faultsOfTheFirstText() {
        String where = "the place of the first letter of the first ITEM that is not so";
        CharadePost x = new CharadePost();
        Checks.due(where, "fault of nothing", x.fault(), NONE);
        int place = 0;
        for (int i = 0; i < AT_FIRST.length(); i++) {
            x.write(AT_FIRST.charAt(i));
            boolean ended = AT_FIRST.charAt(i) == ';';
            Checks.due(where, "fault by letter " + i, x.fault(), ended ? NONE : place);
            place = ended ? i + 1 : place;
        }
        place = 0;
        for (int i = 0; i < AT_FIRST.length(); i++) {
            String spoilt = AT_FIRST.substring(0, i) + "~" + AT_FIRST.substring(i + 1);
            fault(where, spoilt, place);
            fault("the first one", spoilt + "~", place);
            fault("the first one", spoilt.substring(0, spoilt.length() - 1) + "?", place);
            place = AT_FIRST.charAt(i) == ';' ? i + 1 : place;
        }
        fault(where, AT_FIRST + ";", AT_FIRST.length());
        fault(where, AT_FIRST + "w", AT_FIRST.length());
        fault(where, " " + AT_FIRST, 0);
        fault(where, ";", 0);
    }

    private static void laid() {
        String where = "LAID is a TEXT without FAULT, of a WORD and an ACTOR at least (NO else";
        for (String none : new String[] {"", "w1,a;", "x0;", "r1;", "h2,1;", "x0;r1;h2,1;", "w1,a;l0;x9;r1;h2,1;"}) {
            CharadePost x = Checks.written(none);
            Checks.due(where, "fault of " + none, x.fault(), NONE);
            Checks.due(where, "lay of " + none, x.lay(), NO);
        }
        for (int actors = 1; actors <= 5; actors++) {
            CharadePost x = Checks.written("w1,a;" + "a0,0,0;".repeat(actors));
            Checks.due("5: how many ACTORS", "lay", x.lay(), actors);
            Checks.due("5: how many ACTORS", "count 2", x.count(2), actors);
            Checks.due("5: how many ACTORS", "count 4", x.count(4), actors);
        }
        fault(where, "w1,a;a0,0,0;a", 12);
        fault(where, "w1,a;a0,0,0", 5);
    }

    /** A smaller post behind a larger one: nothing of the larger one is left. */
    private static void laidAnew() {
        String where = "5: nothing SHOWN, GUESSED, SEEN, UNDONE, KEPT; THE TEXT stays";
        CharadePost x = new CharadePost();
        x.show(0, 7);
        x.show(1, 9);
        x.guess(2);
        x.guess(2);
        x.keep();
        x.keep();
        x.see(1, 1);
        for (char c : "w4,f;w5,e;l1;a1,1,8;a0,0,3;".toCharArray()) {
            x.write(c);
        }
        Checks.due(where, "lay", x.lay(), 2);
        int[] counts = {2, 10, 2, 2, 2, 0, 0, 0, 0, 0, 0, 0, 27};
        for (int what = 0; what < counts.length; what++) {
            Checks.due(where, "count " + what, x.count(what), counts[what]);
        }
        Checks.due(where, "forbidden 7", x.forbidden(7), 0);
        Checks.due(where, "undo", x.undo(), NO);
        Checks.due(where, "back", x.back(), NO);
        Checks.due(where, "habits", x.habits(0), 16);
        Checks.due(where, "actor 0 acts for", x.actor(0, 1), 1);
        Checks.due(where, "actor 0 guessed", x.actor(0, 4), 0);
        Checks.due(where, "actor 0 stands", x.actor(0, 5), 0);
        Checks.due(where, "actor 1 shown", x.actor(1, 3), 0);
        Checks.due(where, "actor 2", x.actor(2, 0), BAD);
        Checks.due(where, "word 2", x.word(2, 0), BAD);
        Checks.due(where, "sign 10", x.forbidden(10), BAD);
        Checks.due(where, "likeness of word 1", x.word(1, 3), 1);
        x.show(0, 9);
        x.see(0, 0);
        x.keep();
        Checks.due(where, "the same text once more", x.lay(), 2);
        for (int what = 0; what < counts.length; what++) {
            Checks.due(where, "again count " + what, x.count(what), counts[what]);
        }
        Checks.due(where, "again shown", x.shown(0, 0), NONE);
        Checks.due(where, "again forbidden 7", x.forbidden(7), 0);
    }

    public static void main(String[] args) {
        letters();
        twoHundred();
        wiped();
        allNumbers();
        whatNumbersTell();
        everyLetterEverywhere();
        rows();
        toldAhead();
        howManyOfEach();
        forbiddenOnes();
        habitsAndPrices();
        faultsOfTheFirstText();
        laid();
        laidAnew();
        Checks.finish("TextTests");
    }
}
