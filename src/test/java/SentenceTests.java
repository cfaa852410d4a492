import java.io.IOException;
import java.nio.file.Files;
import java.nio.file.Path;
import java.util.ArrayList;
import java.util.List;

/**
 * The document sentence by sentence, in its order: its words, then runs of calls that answer otherwise if they do not
 * hold. At the end the words are held against ../shared/DOC.md: each of its sentences, from Terms to Promise 31, must
 * stand here, and each that stands here must have been tried.
 */
public final class SentenceTests {
    private static final int NO = Checks.NO, NONE = Checks.NONE;
    private static final String DOCUMENT = "../shared/DOC.md";
    private static final String AT_FIRST =
        "w5,ab;w3,abc;w7,d;w2,de;w4,fa;w6,c;l01;l23;l4;l25;x7;h3,2;a0,0,20;a1,3,9;a2,4,30;a3,1,15;r2;";
    /** Sign 2 alone can make word 0 the guess, by 2 each time; the other word is common by what stands behind it. */
    private static final String RARE = "w1,c;x6;x7;x8;w";
    private static final List<String> SAID = new ArrayList<>();
    private static String where = "";
    private static int madeAhead = 0;

    /** From here on these words are tried. */
    private static void says(String words) {
        tried();
        where = words;
        SAID.add(words);
    }

    private static void tried() {
        if (!where.isEmpty() && Checks.made() == madeAhead) {
            Checks.fail(where, "was not tried");
        }
        madeAhead = Checks.made();
    }

    private static void run(String text, String steps) {
        Checks.run(where, text, steps);
    }

    private static void fault(String text, int place) {
        Checks.due(where, "fault of " + text, Checks.written(text).fault(), place);
    }

    private static void lay(String text, int answer) {
        Checks.due(where, "lay of " + text, Checks.written(text).lay(), answer);
    }

    // ---- Terms 1

    private static void texts() {
        says("A TEXT is letters (200 at most)");
        run("w1,a;a0,0,9;" + "x14;".repeat(47), "count 12 = 200; fault = NONE; write 120 = FULL; count 12 = 200");
        says("ITEMS one behind the other, each a letter, then what it tells, parted by , and a ; behind it");
        fault("w1,a;x3;h2,1;r0;l0;a0,0,0;", NONE);
        for (String item : new String[] {" x3;", "x3,", "x3", "x3 ;", "X3;", "3;", "w1.a;", "w1a;", "h2;1;", "h21;", "a0,00;", ";", "x3;;"}) {
            fault("w1,a;" + item, item.equals("x3;;") ? 8 : 5);
        }
        says("(numbers: one or two figures; a row: letters, figures one next to the other)");
        fault("r9;r09;x4;x04;x14;", NONE);
        fault("w1,a;w1,b;l01;", NONE);
        for (String item : new String[] {"r009;", "x014;", "x;", "r;", "w,a;", "w001,a;", "w1,a,b;", "w1,a b;"}) {
            fault(item, 0);
        }
        fault("w1,a;w1,b;l0,1;", 10);
        run("w09,ab;w1,c;l10;a00,01,07;", "word 0 0 = 9; word 0 1 = 2; word 0 3 = 1; word 1 3 = 1; actor 0 0 = 0; actor 0 1 = 1; actor 0 2 = 7");
    }

    private static void wordsAndLikenesses() {
        says("wW,P a WORD that is common by W (1 to 9)");
        fault("w1,a;w9,a;", NONE);
        fault("w0,a;", 0);
        fault("w10,a;", 0);
        run("w1,a;w9,b;a0,0,0;", "word 0 0 = 1; word 1 0 = 9; weight 0 0 = 1; weight 0 1 = 9");
        says("of PARTS P (a row of 1 to 3, a to f each, alike ones or not)");
        fault("w1,a;w1,ff;w1,aba;w1,abc;w1,fff;", NONE);
        for (String row : new String[] {"", "abcd", "aaaa", "g", "aag", "A", "1", "a1"}) {
            fault("w1," + row + ";", 0);
        }
        run("w1,f;w1,aba;w1,cc;a0,0,0;", "word 0 1 = 1; word 0 2 = 32; word 1 1 = 3; word 1 2 = 3; word 2 1 = 2; word 2 2 = 4");
        says("8 at most, 0, 1, ..");
        fault("w1,a;".repeat(8), NONE);
        fault("w1,a;".repeat(9), 40);
        run("w3,a;" + "w1,a;".repeat(6) + "w2,a;a0,7,0;", "count 0 = 8; word 0 0 = 3; word 1 0 = 1; word 7 0 = 2; word 8 0 = BAD; actor 0 1 = 7");
        says("lR a LIKENESS to WORDS R (told ahead; a row of one or more, unlike)");
        fault("w1,a;l0;w1,b;l10;", NONE);
        for (String row : new String[] {"", "1", "00", "0a", "a", "9"}) {
            fault("w1,a;l" + row + ";", 5);
        }
        fault("l0;w1,a;", 0);
        fault("w1,a;w1,b;l010;", 10);
        fault("w1,a;w1,b;l11;", 10);
        fault("w1,a;w1,b;l101;", 10);
        run("w1,a;w1,b;w1,c;l20;l1;a0,0,0;",
            "word 0 3 = 1; word 1 3 = 2; word 2 3 = 1; show 0 9; weight 0 0 = 3; weight 0 1 = 1; weight 0 2 = 3");
        says("6 at most, 0, 1, ..");
        fault("w1,a;" + "l0;".repeat(6), NONE);
        fault("w1,a;" + "l0;".repeat(7), 23);
        run("w1,a;w1,b;l01;l0;l0;l0;l0;l1;a0,0,0;", "word 0 3 = 31; word 1 3 = 33; count 1 = 15");
    }

    private static void theOfficerAndTheSigns() {
        says("xS SIGN S (0 to 14) is FORBIDDEN");
        fault("x0;x14;", NONE);
        fault("x15;", 0);
        run("x5;w1,a;x0;a0,0,0;", "forbidden 0 = 1; forbidden 1 = 0; forbidden 4 = 0; forbidden 5 = 1; forbidden 8 = 0; show 0 5 = 0");
        says("(no matter if told once more, or if there is no such SIGN)");
        fault("x3;x3;x9;x14;x3;", NONE);
        run("x3;x3;x10;x14;w1,a;l0;a0,0,0;", "forbidden 3 = 1; forbidden 9 = 0; forbidden 10 = BAD; forbidden 14 = BAD; count 1 = 10");
        says("hA,B the OFFICER weighs a LIKENESS by A (2 to 5), a PART by B (1 to 4)");
        fault("h2,1;h5,4;", NONE);
        for (String item : new String[] {"h1,1;", "h6,1;", "h2,0;", "h2,5;", "h2;", "h2,;", "h,1;"}) {
            fault(item, 0);
        }
        run("w1,a;l0;h5,4;a0,0,0;", "show 0 9; weight 0 0 = 5; show 0 0; weight 0 0 = 20");
        run("w1,a;l0;h2,1;a0,0,0;", "show 0 9; weight 0 0 = 2; show 0 0; weight 0 0 = 2");
        says("(3, 2 without; of several such the last one counts)");
        run("w1,a;l0;a0,0,0;", "show 0 9; weight 0 0 = 3; show 0 0; weight 0 0 = 6");
        run("h5,4;w1,a;h2,1;l0;a0,0,0;h4,3;", "show 0 9; weight 0 0 = 4; show 0 0; weight 0 0 = 12");
        says("rR a SIGN costs R (0 to 9) COINS");
        fault("r0;r9;", NONE);
        fault("r10;", 0);
        run("w1,a;r9;a0,0,20;", "count 3 = 9; show 0 0; show 0 1; guess 0 = 0; actor 0 2 = 2");
        run("w1,a;r0;a0,0,20;", "count 3 = 0; show 0 0; show 0 1; guess 0 = 0; actor 0 2 = 20");
        says("(2 without; of several such the last one counts)");
        run("w1,a;a0,0,20;", "count 3 = 2; show 0 0; guess 0 = 0; actor 0 2 = 18");
        run("r9;w1,a;r8;a0,0,20;r3;", "count 3 = 3; show 0 0; guess 0 = 0; actor 0 2 = 17");
    }

    private static void theActors() {
        says("aK,W,C an ACTOR of KIND K (0 PLAIN, 1 CHILD, 2 SMUGGLER, 3 OLD HAND)");
        fault("w1,a;a0,0,0;a3,0,0;", NONE);
        fault("w1,a;a4,0,0;", 5);
        fault("w1,a;a,0,0;", 5);
        run("w1,ab;l0;a0,0,0;a1,0,0;a2,0,0;a3,0,0;", "actor 0 0 = 0; actor 1 0 = 1; actor 2 0 = 2; actor 3 0 = 3;"
            + "show 0 9; show 1 9; show 2 9; show 3 9; weight 0 0 = 3; weight 1 0 = 3; weight 2 0 = 9; weight 3 0 = 4;"
            + "show 0 1; show 1 1; show 2 1; show 3 1; weight 0 0 = 6; weight 1 0 = 3; weight 2 0 = 36; weight 3 0 = 8");
        says("who acts for WORD W (told ahead)");
        fault("w1,a;w1,b;a0,1,0;", NONE);
        fault("w1,a;a0,1,0;w1,b;", 5);
        fault("a0,0,0;w1,a;", 0);
        run("w1,a;w1,b;a0,1,0;a0,0,0;", "actor 0 1 = 1; actor 1 1 = 0; guess 1 = 0; count 5 = 1; guess 0 = 0; count 5 = 1; guess 0 = 1; count 5 = 2");
        says("with C (0 to 99) COINS");
        fault("w1,a;a0,0,0;a0,0,99;", NONE);
        fault("w1,a;a0,0,100;", 5);
        fault("w1,a;a0,0;", 5);
        fault("w1,a;a0,0,;", 5);
        run("w1,a;a0,0,0;a0,0,99;", "actor 0 2 = 0; actor 1 2 = 99");
        says("5 at most, 0, 1, ..");
        fault("w1,a;" + "a0,0,0;".repeat(5), NONE);
        fault("w1,a;" + "a0,0,0;".repeat(6), 40);
        run("w1,a;a0,0,1;a0,0,2;a0,0,3;a0,0,4;a0,0,5;", "actor 0 2 = 1; actor 1 2 = 2; actor 4 2 = 5; actor 5 2 = BAD; count 2 = 5");
    }

    private static void faultsAndWhatIsLaid() {
        says("FAULT: the place of the first letter of the first ITEM that is not so.");
        fault("", NONE);
        fault("?", 0);
        fault("w1,a;w2,b", 5);
        fault("w1,a;w0,b;w0,c;", 5);
        fault("w1,a;r1;r10;x15;", 8);
        fault("w1,a;r1;w1,a;l2;", 13);
        says("LAID is a TEXT without FAULT, of a WORD and an ACTOR at least (NO else;");
        lay("w1,a;a0,0,1;", 1);
        for (String text : new String[] {"", "r1;", "w1,a;", "w1,a;l0;x1;h2,1;r1;", "a0,0,1;", "w1,a;a0,0,1;?", "w1,a;a0,0,1", "w1,a;a0,0,1;w0,a;"}) {
            lay(text, NO);
        }
        says("at first " + AT_FIRST + ")");
        int[][] words = {{5, 2, 3, 1}, {3, 3, 7, 1}, {7, 1, 8, 10}, {2, 2, 24, 2}, {4, 2, 33, 4}, {6, 1, 4, 8}};
        int[][] actors = {{0, 0, 20}, {1, 3, 9}, {2, 4, 30}, {3, 1, 15}};
        StringBuilder steps = new StringBuilder("count 0 = 6; count 1 = 13; count 2 = 4; count 3 = 2;");
        for (int w = 0; w < words.length; w++) {
            for (int what = 0; what < 4; what++) {
                steps.append("word ").append(w).append(' ').append(what).append(" = ").append(words[w][what]).append(';');
            }
        }
        for (int a = 0; a < actors.length; a++) {
            for (int what = 0; what < 3; what++) {
                steps.append("actor ").append(a).append(' ').append(what).append(" = ").append(actors[a][what]).append(';');
            }
        }
        for (int s = 0; s < 13; s++) {
            steps.append("forbidden ").append(s).append(" = ").append(s == 7 ? 1 : 0).append(';');
        }
        String weighed = "show 0 9; weight 0 0 = 15; show 0 0; weight 0 0 = 30";
        run("", steps + weighed);
        run(AT_FIRST, steps + weighed);
    }

    // ---- Terms 2

    private static void signs() {
        says("SIGNS are 0 to 5: a PART (a to f);");
        for (int s = 0; s <= 5; s++) {
            for (int w = 0; w <= 5; w++) {
                run("w1,a;w1,b;w1,c;w1,d;w1,e;w1,f;a0,0,0;", "show 0 " + s + "; weight 0 " + w + " = " + (w == s ? 2 : 1));
            }
        }
        says("6 to 8: 1 to 3 PARTS (as many as the row of a WORD has, alike ones, too);");
        run("w4,a;w5,aa;w6,aab;a0,0,0;a0,0,0;a0,0,0;", "show 0 6; weight 0 0 = 4; weight 0 1 = 0; weight 0 2 = 0;"
            + "show 1 7; weight 1 0 = 0; weight 1 1 = 5; weight 1 2 = 0; show 2 8; weight 2 0 = 0; weight 2 1 = 0; weight 2 2 = 6");
        says("9 and on: a LIKENESS (9 the first one), as many as were told.");
        run("w1,a;w1,b;l0;l1;l01;a0,0,0;a0,0,0;a0,0,0;", "show 0 9; weight 0 0 = 3; weight 0 1 = 1; show 1 10; weight 1 0 = 1; weight 1 1 = 3;"
            + "show 2 11; weight 2 0 = 3; weight 2 1 = 3; show 2 12 = BAD; forbidden 12 = BAD; count 1 = 12");
        run("w1,a;a0,0,0;", "show 0 9 = BAD; count 1 = 9");
    }

    private static void whatASignMultiplies() {
        says("A SIGN multiplies: of a PART, a WORD that has it (however often), by B, others by 1");
        run("w5,aba;w5,aaa;w5,cd;h2,4;a0,0,0;a3,0,0;", "show 0 0; weight 0 0 = 20; weight 0 1 = 20; weight 0 2 = 5;"
            + "show 1 0; weight 1 0 = 20; weight 1 1 = 20; weight 1 2 = 5");
        says("(a CHILD shows the PART behind it, a behind f)");
        run("w5,a;w5,b;w5,f;a1,0,0;a1,0,0;a1,0,0;", "show 0 0; weight 0 0 = 5; weight 0 1 = 10; weight 0 2 = 5;"
            + "show 1 5; weight 1 0 = 10; weight 1 1 = 5; weight 1 2 = 5; show 2 4; weight 2 0 = 5; weight 2 1 = 5; weight 2 2 = 10");
        says("of so many PARTS, a WORD of so many by 1, others by 0;");
        for (int kind = 0; kind <= 3; kind++) {
            run("w5,ab;w7,c;h5,4;a" + kind + ",0,0;", "show 0 7; weight 0 0 = 5; weight 0 1 = 0; show 0 7; weight 0 0 = 5; show 0 6; weight 0 0 = 0; weight 0 1 = 0");
        }
        says("of a LIKENESS, a WORD in it by A, others by 1, an OLD HAND's by A and 1;");
        run("w5,a;w7,b;l0;h4,3;a0,0,0;a1,0,0;a3,0,0;", "show 0 9; weight 0 0 = 20; weight 0 1 = 7; show 1 9; weight 1 0 = 20; weight 1 1 = 7;"
            + "show 2 9; weight 2 0 = 25; weight 2 1 = 7");
        says("a SMUGGLER's twice over (a PART by B times B, a LIKENESS by A times A).");
        run("w5,a;w7,b;l0;h4,3;a2,0,0;a2,0,0;", "show 0 0; weight 0 0 = 45; weight 0 1 = 7; show 1 9; weight 1 0 = 80; weight 1 1 = 7");
        says("WEIGHT of a WORD for an ACTOR is what it is common by, multiplied by each SIGN he has SHOWN;");
        run("w5,a;w7,b;l0;a0,0,0;a0,0,0;", "weight 0 0 = 5; show 0 0; weight 0 0 = 10; show 0 0; weight 0 0 = 20; show 0 9; weight 0 0 = 60;"
            + "weight 0 1 = 7; weight 1 0 = 5");
        says("0, if it was GUESSED at him.");
        run("w5,a;w7,b;a0,0,0;a0,0,0;", "guess 0 = 1; weight 0 1 = 0; weight 0 0 = 5; weight 1 1 = 7; show 0 1; weight 0 1 = 0");
        says("A WORD is LIKELY by its WEIGHT of those of all WORDS together.");
        run("w2,a;w4,b;w6,cc;a0,0,0;", "likely 0 1 0 = 4; likely 0 1 1 = 12; show 0 1; likely 0 1 0 = 8; likely 0 1 1 = 16; show 0 6; likely 0 1 1 = 10");
    }

    private static void showingAndGuessing() {
        says("At first all ACTORS WAIT.");
        run("w1,a;" + "a0,0,0;".repeat(5), "actor 0 5 = 0; actor 1 5 = 0; actor 2 5 = 0; actor 3 5 = 0; actor 4 5 = 0; count 4 = 5");
        says("One who WAITS SHOWS a SIGN (5 at most; a SIGN can be SHOWN more than once)");
        run("w1,a;a0,0,0;", "show 0 3 = 1; show 0 3 = 1; show 0 0 = 1; show 0 3 = 1; show 0 8 = 1; show 0 8 = NO; actor 0 3 = 5;"
            + "shown 0 0 = 3; shown 0 1 = 3; shown 0 2 = 0; shown 0 3 = 3; shown 0 4 = 8");
        run("w1,a;a0,0,0;", "guess 0 = 0; show 0 0 = NO; actor 0 3 = 0");
        says("if it is FORBIDDEN, he is SEIZED instead.");
        run("x5;w1,a;a0,0,7;", "show 0 0 = 1; show 0 5 = 0; actor 0 5 = 3; actor 0 3 = 1; shown 0 1 = NONE; actor 0 2 = 7; show 0 0 = NO; guess 0 = NO");
        says("The OFFICER GUESSES at one who WAITS the WORD of most WEIGHT (above 0), of several the lowest;");
        run("w2,a;w3,b;w3,c;a0,2,0;a0,0,9;", "guess 0 = 1; guess 0 = 2; guess 0 = NO; show 1 0; guess 1 = 0");
        says("there being none, that ACTOR is sent BACK.");
        run("w2,a;w3,b;a0,0,9;a0,0,9;", "show 0 8; guess 0 = NONE; actor 0 5 = 2; actor 0 2 = 9; actor 0 4 = 0; count 6 = 1; actor 1 5 = 0");
        says("Is it what he acts for, he PAYS R for each SIGN he has SHOWN, and is THROUGH;");
        run("w2,a;r4;a0,0,9;a0,0,8;a0,0,0;", "show 0 0; show 0 0; guess 0 = 0; actor 0 5 = 1; actor 0 2 = 1; actor 0 4 = 0;"
            + "show 1 0; show 1 1; guess 1 = 0; actor 1 5 = 1; actor 1 2 = 0; guess 2 = 0; actor 2 5 = 1; actor 2 2 = 0");
        says("has he fewer COINS, he is sent BACK, and keeps them.");
        run("w2,a;r4;a0,0,7;", "show 0 0; show 0 0; guess 0 = 0; actor 0 5 = 2; actor 0 2 = 7; actor 0 4 = 0");
        says("Is it not, it was GUESSED; by the third such he is sent BACK.");
        run("w9,a;w8,b;w7,c;w6,d;a0,3,9;a0,2,9;", "guess 0 = 0; actor 0 4 = 1; actor 0 5 = 0; guess 0 = 1; actor 0 4 = 3; actor 0 5 = 0;"
            + "guess 0 = 2; actor 0 4 = 7; actor 0 5 = 2; guess 0 = NO; guess 1 = 0; guess 1 = 1; guess 1 = 2; actor 1 5 = 1");
    }

    private static void changingAndUndoing() {
        says("Two ACTORS who WAIT and have SHOWN nothing change what they act for");
        run("w9,a;w8,b;x5;a0,0,7;a1,1,8;a2,0,9;a3,1,6;", "change 0 1 = 1; actor 0 1 = 1; actor 1 1 = 0; actor 0 0 = 0; actor 0 2 = 7; actor 2 1 = 0;"
            + "show 2 0; change 0 2 = NO; change 2 0 = NO; show 3 5; change 3 0 = NO; change 0 3 = NO; count 10 = 3");
        says("(what was GUESSED at each stays with him).");
        run("w9,a;w8,b;w7,c;a0,1,0;a0,2,0;", "guess 0 = 0; guess 1 = 0; guess 1 = 1; change 0 1 = 2; actor 0 4 = 1; actor 1 4 = 3; next 0 = 1; next 1 = 2");
        says("UNDONE are the latest of these (the last 8 can be).");
        run("w9,a;w8,b;x5;r3;a0,1,9;a0,0,9;a0,0,9;", "show 0 1; guess 0 = 1; change 1 2; show 1 5; show 2 8; guess 2 = NONE; count 10 = 6;"
            + "undo = 5; actor 2 5 = 0; undo = 4; actor 2 3 = 0; undo = 3; actor 1 5 = 0; undo = 2; undo = 1; actor 0 5 = 0; actor 0 2 = 9; undo = 0; actor 0 3 = 0");
        run("w9,a;a0,0,0;a0,0,0;", "show 0 0;show 0 1;show 0 2;show 0 3;show 0 4;show 1 0;show 1 1;show 1 2;show 1 3; count 10 = 8;"
            + "undo = 7; count 8 = 8; undo = 6; count 8 = 7; undo = 5; count 8 = 6; undo = 4; count 8 = 5; undo = 3; count 8 = 4; undo = 2; count 8 = 3;"
            + "undo = 1; count 8 = 2; undo = 0; count 8 = 1; undo = NO; count 8 = 1; shown 0 0 = 0");
    }

    // ---- Terms 3

    private static void fewestAndTells() {
        says("FEWEST for an ACTOR, a WORD: of rows of none to 3 SIGNS");
        run(RARE + "1,ab;a0,0,0;", "fewest 0 0 0 = 0; fewest 0 1 0 = 1; fewest 0 1 1 = 0");
        run(RARE + "8,ab;a0,0,0;", "fewest 0 0 0 = 3; fewest 0 0 1 = 2; fewest 0 0 2 = 2; fewest 0 0 3 = 2; fewest 0 1 0 = 0");
        run(RARE + "9,ab;a0,0,0;", "fewest 0 0 0 = NONE");
        says("none FORBIDDEN, in order of their numbers");
        run("w2,bcd;w3,b;w3,c;w3,d;x6;x7;x8;a0,0,0;", "fewest 0 0 0 = 2; fewest 0 0 1 = 1; fewest 0 0 2 = 2");
        run("x1;w2,bcd;w3,b;w3,c;w3,d;x6;x7;x8;a0,0,0;", "fewest 0 0 0 = 2; fewest 0 0 1 = 2; fewest 0 0 2 = 3");
        run("w2,bcd;w3,b;w3,c;w3,d;x6;x7;a0,0,0;", "fewest 0 0 0 = 1; fewest 0 0 1 = 8");
        says("(they may be alike; no more than he can SHOW)");
        run(RARE + "4,ab;a0,0,0;", "fewest 0 0 0 = 2; fewest 0 0 1 = 2; fewest 0 0 2 = 2; show 0 3;show 0 3;show 0 3; fewest 0 0 0 = 2;"
            + "show 0 3; fewest 0 0 0 = NONE; fewest 0 1 0 = 0; show 0 3; fewest 0 1 0 = 0; fewest 0 0 0 = NONE");
        says("by which the WORD would be GUESSED next, SHOWN besides");
        run(RARE + "4,ab;a0,0,0;", "show 0 2; fewest 0 0 0 = 1; show 0 2; fewest 0 0 0 = 0; fewest 0 1 0 = 1; show 0 0; fewest 0 0 0 = 1; actor 0 3 = 3");
        run("x6;x7;x8;w4,ab;w1,c;a0,1,0;", "fewest 0 1 0 = 3; guess 0 = 0; fewest 0 0 0 = NONE; fewest 0 1 0 = 0");
        says("that of fewest, of several the first (by the first SIGN, then the second, ..)");
        run("w1,bc;w3,b;w3,c;w3,da;x6;x8;l0;h5,2;a0,0,0;", "fewest 0 0 0 = 1; fewest 0 0 1 = 9");
        run("w1,bcd;w3,b;w3,c;w3,d;x6;x7;x8;a0,0,0;", "fewest 0 0 0 = 3; fewest 0 0 1 = 1; fewest 0 0 2 = 2; fewest 0 0 3 = 3");
        run("w2,ab;w3,a;w3,b;l0;l0;h2,2;x6;x7;a0,0,0;", "fewest 0 0 0 = 1; fewest 0 0 1 = 9");
        says("how many; the k-th; none.");
        run("w1,c;x6;x7;w4,ab;a0,0,0;", "fewest 0 0 0 = 2; fewest 0 0 1 = 2; fewest 0 0 2 = 2; fewest 0 0 3 = NONE; show 0 8; fewest 0 0 0 = NONE; fewest 0 0 1 = NONE");
        run("", "fewest 0 0 0 = 1; fewest 0 0 1 = 0; fewest 0 1 0 = 1; fewest 0 1 1 = 8; fewest 0 2 0 = 0; fewest 0 3 0 = 2; fewest 0 3 1 = 4; fewest 0 3 2 = 4;"
            + "fewest 0 3 3 = NONE; fewest 1 3 1 = 3; fewest 1 3 2 = 3; fewest 2 4 0 = 1; fewest 2 4 1 = 5; fewest 3 1 1 = 8");
        says("TELLS: the SIGN that is not FORBIDDEN by which what he acts for would be most LIKELY");
        run("w2,a;w3,b;x6;x7;x8;l0;a0,0,9;a0,1,9;", "tells 0 = 9; tells 1 = 1; next 0 = 1; actor 0 3 = 0");
        run("w2,a;w3,b;x6;x7;x8;x9;l0;a0,0,9;", "tells 0 = 0");
        run("w1,ab;w1,ac;w5,d;h3,4;x1;a0,0,9;", "tells 0 = 7");
        run("x0;x1;x2;x3;x4;x5;w3,ab;w2,ab;a0,1,5;", "tells 0 = 7");
        run("w1,ab;w1,ac;x1;a0,0,9;", "tells 0 = 0");
        says("(0, where its WEIGHT is 0), SHOWN besides (he being able to), of several the lowest; none.");
        run("w2,a;w3,b;x0;x1;a0,0,9;", "show 0 8; tells 0 = 2");
        run("w9,aa;w1,a;w1,b;x6;x7;x8;a0,1,9;a0,0,9;", "guess 0 = 0; tells 0 = 0; show 0 0; show 0 1; tells 0 = 0; show 0 0; show 0 0; tells 0 = 0; show 0 0; tells 0 = NONE");
        run("w2,a;w2,a;x0;x1;x2;x3;x4;x5;x6;x7;x8;a0,0,9;", "tells 0 = NONE");
    }

    private static void sendAndQueue() {
        says("SEND: ACTORS who WAIT and have SHOWN nothing act for what they act for now, dealt out to them anew so that the SIGNS"
            + " (FEWEST of each for his; 9, if none) are fewest in sum");
        run("w9,a;w1,b;x6;x7;x8;h5,3;a2,0,9;a0,1,9;", "send -1 = 2; send 0 = 1; send 1 = 0; actor 0 1 = 0; show 0 0; send -1 = 3; send 0 = NONE; send 1 = 1");
        run("w1,a;w1,a;a0,1,9;a0,1,9;", "send -1 = 18; guess 0 = 0; send -1 = 9; guess 0 = 1; send -1 = 9; send 0 = NONE; send 1 = 1");
        says("of several the first (by for whose WORD the lowest ACTOR acts, that of the lowest ahead, then the next, ..)");
        run("w1,a;w1,a;w1,a;a0,2,0;a0,1,0;a0,0,0;", "send -1 = 18; send 0 = 2; send 1 = 1; send 2 = 0");
        run("w2,a;w1,a;w1,a;a0,1,0;a2,0,0;a0,2,0;", "send -1 = 18; send 0 = 1; send 1 = 0; send 2 = 2");
        says("how many; for what the ACTOR acts then; none (for those who do not).");
        run("w9,a;w8,b;a0,1,9;a0,0,9;a0,1,9;", "show 2 0; send -1 = 1; send 0 = 1; send 1 = 0; send 2 = NONE; show 0 0; show 1 0; send -1 = 0; send 1 = NONE");
        says("QUEUE of ACTORS who WAIT: each takes 1 minute, and 1 for each SIGN of FEWEST for what he acts for (5 minutes in all, if none)");
        run(RARE + "8,ab;w1,c;a0,2,0;a0,0,0;a0,1,0;", "queue -1 = 6; queue 0 = 2; queue 1 = 1; queue 2 = 0");
        run("w2,a;w1,a;a0,1,0;a0,1,0;a0,0,0;a0,0,0;", "queue -1 = 10; queue 0 = 2; queue 1 = 3; queue 2 = 0; guess 2; queue -1 = 7; queue 0 = 3; queue 3 = NONE");
        says("of all orders that one by which they WAIT least in sum, until each is begun, of several the first (by who is first, then second, ..)");
        run("w4,ab;w3,c;x6;x7;x8;a0,1,0;a0,0,0;a0,1,0;a0,0,0;", "queue -1 = 7; queue 0 = 1; queue 1 = 3; queue 2 = 0; queue 3 = 2");
        says("how long in sum (0, if nobody WAITS); the k-th; none.");
        run("w1,a;a0,0,0;a0,0,0;", "queue -1 = 1; queue 0 = 0; queue 1 = 1; queue 2 = NONE; guess 0; queue -1 = 0; queue 0 = 1; guess 1; queue -1 = 0; queue 0 = NONE");
    }

    private static void partedAndMost() {
        says("PARTED: SIGNS (bits; FORBIDDEN ones, too) by which, SHOWN by a PLAIN one, two WORDS would be multiplied by unlike numbers.");
        run("x0;x7;x10;w2,ab;w3,a;l0;l1;l01;a1,0,0;a2,0,0;", "parted 0 1 = 1730; parted 1 0 = 1730");
        run("w2,a;w3,f;h2,1;a1,0,0;", "parted 0 1 = 0");
        run("w2,aab;w3,bba;a3,0,0;", "parted 0 1 = 0; show 0 0; guess 0 = 1; parted 0 1 = 0");
        says("MOST: how many ACTORS who WAIT would be THROUGH, did each SHOW the SIGNS of FEWEST for what he acts for, and were he GUESSED at then.");
        run("w2,a;w3,b;r5;a0,0,5;a0,0,4;a0,1,0;", "most = 2; guess 2; most = 1; show 0 2; most = 0; undo; undo; show 1 0; most = 2; count 4 = 3");
        run("w1,a;w1,a;r0;a0,1,9;", "most = 0; guess 0 = 0; most = 1; show 0 8; most = 0");
    }

    // ---- Terms 4

    private static void seenAndHabits() {
        says("SEEN (6 at most) is that a WORD would be GUESSED next at an ACTOR, as all stands when it is asked for");
        run("w1,a;w4,b;a0,0,0;", "see 0 0; habits 0 = 0; show 0 0; habits 0 = 4; habits 1 = 24; show 0 0; habits 0 = 12; habits 1 = 22; see 0 1; habits 0 = 0;"
            + "see 0 1; see 0 1; see 0 1; see 0 1 = 6; see 0 1 = FULL; count 9 = 6");
        says("(at one who does not WAIT then it is not so).");
        run("w1,a;x5;a0,0,0;a0,0,0;a0,0,0;", "see 0 0; habits 0 = 16; guess 0; habits 0 = 0; forget; see 1 0; habits 0 = 16; show 1 5; habits 0 = 0; undo; habits 0 = 16;"
            + "forget; see 2 0; show 2 8; guess 2 = NONE; habits 0 = 0");
        says("HABITS: A (2 to 5), B (1 to 4) by which all that is SEEN would be so");
        run("w1,a;w5,b;w4,c;l0;h2,1;a0,0,0;a0,0,0;", "habits 0 = 16; show 0 9; see 0 0; habits 0 = 4; show 1 0; show 1 0; see 1 0; habits 0 = 2; weight 0 0 = 2");
        run("w1,a;w6,b;l0;a3,0,0;a2,0,0;", "show 0 9; see 0 0; habits 0 = 4; habits 1 = 51; forget; show 1 0; see 1 0; habits 0 = 8; habits 1 = 23");
        says("how many; the first (by A, then B), as 10 A and B together; none.");
        run("w3,a;w4,b;w7,c;l0;a0,0,0;a0,0,0;", "habits 0 = 16; habits 1 = 21; guess 0 = 2; show 0 0; see 0 0; habits 0 = 12; habits 1 = 22;"
            + "show 1 9; see 1 0; habits 0 = 9; habits 1 = 32; see 1 1; habits 0 = 0; habits 1 = NONE");
        says("WANTS of an ACTOR: WORDS (bits) that can be had by FEWEST, were he to act for them (whatever he has COINS for).");
        run("w1,a;w1,a;w1,b;w9,cd;r9;x0;x1;x2;x3;x4;x5;a0,2,0;", "wants 0 = 9; guess 0 = 3; wants 0 = 1; guess 0 = 0; wants 0 = 2");
        run("w1,c;x6;x7;w8,ab;r9;a0,0,0;", "wants 0 = 3; show 0 3;show 0 3;show 0 3; wants 0 = 2; show 0 8; wants 0 = 0");
    }

    private static void missedAndSeasons() {
        says("MISSED: each SIGN that an ACTOR has SHOWN is not taken in by x (0 to 10) of ten, for itself:"
            + " the chance that what he acts for would be GUESSED next, in lowest terms.");
        run("w2,a;w3,bc;l0;a0,0,9;", "show 0 0; show 0 9; missed 0 0 0 = 1; missed 0 0 1 = 1; missed 0 3 0 = 91; missed 0 3 1 = 100;"
            + "missed 0 5 0 = 3; missed 0 5 1 = 4; missed 0 10 0 = 0; missed 0 10 1 = 1");
        run("w2,a;a0,0,9;", "missed 0 10 0 = 1; missed 0 10 1 = 1; show 0 8; missed 0 4 0 = 2; missed 0 4 1 = 5; missed 0 10 0 = 1");
        run("w1,a;w3,b;a0,0,9;", "show 0 0; show 0 0; missed 0 2 0 = 16; missed 0 2 1 = 25; show 0 0; missed 0 5 0 = 1; missed 0 5 1 = 2");
        // Draws: z 0: 0, 20743 (both guess); z 1: 11401 (shows 1425), 27050 (guesses).
        says("A SEASON by z (0 to 9999) of n (1 to 60) from now on: in the k-th (0 first), at ACTOR DRAW modulo as many as there are,");
        run("w9,a;a0,0,0;a0,0,0;", "season 0 1 0 = 1; season 0 2 0 = 2; guess 0; season 0 1 0 = 1; season 0 2 0 = 2; undo; guess 1; season 0 1 0 = 2");
        run("w9,a;w8,b;a0,0,0;a0,1,0;a0,0,0;a0,0,0;", "season 0 2 0 = 2; season 0 1 0 = 1");
        says("if (DRAW by 256, cut) modulo 3 is 0, the OFFICER GUESSES, else he SHOWS SIGN (DRAW by 8, cut) modulo as many as there are;");
        run("w2,a;w1,d;h4,3;a0,1,10;", "season 1 1 0 = 0; season 1 2 0 = 1; season 1 2 1 = 2; season 0 1 0 = 0; season 0 2 0 = 1; season 0 2 1 = 0");
        run("w2,a;w1,d;l1;h4,3;a0,1,10;", "season 1 2 0 = 0; season 1 2 1 = 0; show 0 9; season 1 2 0 = 1; season 1 2 1 = 4");
        run("w2,a;w1,d;x3;h4,3;a0,1,10;", "season 1 2 0 = 0; count 7 = 0");
        says("each if it can be;");
        run("w2,a;w1,d;a0,1,10;", "show 0 3; show 0 3; show 0 3; show 0 3; show 0 3; season 1 2 0 = 1; season 1 2 1 = 10; guess 0 = 1; season 1 2 0 = 1; season 1 2 1 = 0");
        says("DRAW being ((x times x) modulo 65521) by 2, cut, x 7919 z, 6151 k and 1 together:");
        run("", "season 5 60 0 = 2; season 5 60 1 = 8; season 9999 60 0 = 2; season 9999 60 1 = 4");
        says("how many are THROUGH then; what all PAY in it.");
        run("w9,a;r3;a0,0,9;a0,0,9;", "show 0 0; show 1 0; show 1 0; season 0 1 0 = 1; season 0 1 1 = 3; season 0 2 0 = 2; season 0 2 1 = 9; actor 0 2 = 9; count 4 = 2;"
            + "guess 1; season 0 2 0 = 2; season 0 2 1 = 3");
        says("KEPT is all as it stands, but what is SEEN and THE TEXT (these stay by back(), behind which nothing can be UNDONE): 2 at most.");
        run("w9,a;w8,b;x5;r2;a0,0,9;a0,1,9;a0,0,9;a0,1,9;", "show 0 0; guess 1 = 0; keep = 1; keep = 2; keep = FULL; see 0 0; write 119; guess 0 = 0; guess 1 = 1; show 2 5;"
            + "change 1 3; show 3 0; back = 1; actor 0 5 = 0; actor 0 2 = 9; actor 0 3 = 1; actor 1 4 = 1; actor 1 5 = 0; actor 2 5 = 0; actor 3 3 = 0; count 9 = 1;"
            + "count 10 = 0; undo = NO; count 12 = 45; forget; wipe; back = 0; count 9 = 0; count 12 = 0; actor 0 3 = 1");
    }

    // ---- the lines behind the Terms

    private static void refusals() {
        says("BAD: a number is none that is told (WORDS, SIGNS, ACTORS: such as there are).");
        run("w1,a;w1,b;l0;a0,0,0;", "word 1 0 = 1; word 2 0 = BAD; word -1 0 = BAD; word 0 4 = BAD; forbidden 9 = 0; forbidden 10 = BAD; forbidden -1 = BAD;"
            + "actor 0 5 = 0; actor 1 0 = BAD; actor -1 0 = BAD; weight 0 2 = BAD; see 1 0 = BAD; see 0 2 = BAD; count HIGH = BAD; season LOW 1 0 = BAD");
        says("NO: not as things stand.");
        run("w1,a;a0,0,0;a0,0,0;", "undo = NO; back = NO; guess 0 = 0; guess 0 = NO; show 0 0 = NO; change 0 1 = NO; next 0 = NO; tells 0 = NO; wants 0 = NO; missed 0 1 0 = NO");
        says("NONE: there is none.");
        run("w1,a;w1,a;a0,1,0;", "fault = NONE; shown 0 0 = NONE; fewest 0 1 0 = NONE; queue 1 = NONE; see 0 1 = 1; habits 1 = NONE; show 0 8; next 0 = NONE; send 0 = NONE");
        says("FULL.");
        run("w1,a;a0,0,0;", "keep; keep; keep = FULL; see 0 0;see 0 0;see 0 0;see 0 0;see 0 0;see 0 0; see 0 0 = FULL");
        says("Of several the first in this order, whatever the order at a call; nothing changes then.");
        run("w1,a;w1,a;x5;a0,1,0;a0,1,0;", "guess 0; guess 0 = 1; actor 0 5 = 1; fewest 0 1 4 = BAD; fewest 0 2 0 = BAD; fewest 0 1 0 = NO; fewest 0 1 1 = NO; missed 0 11 0 = BAD;"
            + "change 0 0 = BAD; change 0 2 = BAD; change 0 1 = NO; show 0 9 = BAD; show 0 5 = NO; see 0 0;see 0 0;see 0 0;see 0 0;see 0 0;see 0 0; see 0 2 = BAD; see 0 0 = FULL;"
            + "count 4 = 1; count 7 = 0; count 9 = 6; count 10 = 2; actor 0 1 = 1; actor 1 1 = 1");
        run("w1,a;a0,0,0;" + "x14;".repeat(47), "write 31 = BAD; write 127 = BAD; write 59 = FULL; count 12 = 200; lay = 1");
    }

    // ---- the promises

    private static void posts() {
        says("As told.");
        run("", "count 12 = 0; fault = NONE; count 4 = 4; count 8 = 0; count 9 = 0; count 10 = 0; count 11 = 0; undo = NO; back = NO; forget = 0; wipe = 0");
        says("A letter (32 to 126, as in ASCII) comes behind THE TEXT: how long it is. BAD; FULL.");
        run("", "write 32 = 1; write 126 = 2; write 31 = BAD; write 127 = BAD; write 119 = 3; count 12 = 3; fault = 0; count 0 = 6");
        run("w1,a;a0,0,0;" + "x14;".repeat(47), "write 59 = FULL");
        says("THE TEXT is empty: how long it was.");
        run("", "write 63 = 1; write 63 = 2; wipe = 2; count 12 = 0; fault = NONE; wipe = 0; count 2 = 4");
        says("FAULT. NONE.");
        run("", "fault = NONE; write 63; fault = 0; fault = 0; count 12 = 1; wipe; fault = NONE");
        says("LAID: how many ACTORS; nothing SHOWN, GUESSED, SEEN, UNDONE, KEPT; THE TEXT stays. NO.");
        run("w2,a;w3,b;a0,0,9;a0,0,9;", "show 0 0; guess 1 = 1; see 0 0; keep; season 1 60 0; lay = 2; count 0 = 2; count 1 = 9; actor 0 3 = 0; actor 1 4 = 0; count 4 = 2; count 8 = 0; count 9 = 0; count 10 = 0; count 11 = 0;"
            + "count 12 = 24; undo = NO; back = NO; write 63; lay = NO; count 2 = 2");
        run("", "show 0 0; keep; see 0 0; lay = NO; count 8 = 1; count 9 = 1; count 10 = 1; count 11 = 1");
        says("Of a WORD: what it is common by (what = 0), how many PARTS (1), PARTS that it has (2; bits, a 1), LIKENESSES in which it is (3; bits). BAD.");
        run("w9,fab;w8,aa;l1;l0;l01;a0,0,0;", "word 0 0 = 9; word 0 1 = 3; word 0 2 = 35; word 0 3 = 6; word 1 0 = 8; word 1 1 = 2; word 1 2 = 1; word 1 3 = 5;"
            + "word 0 4 = BAD; word 0 -1 = BAD; word 2 0 = BAD; word -1 3 = BAD");
        says("1 if a SIGN is FORBIDDEN, 0. BAD.");
        run("x0;x9;x11;w9,a;l0;l0;a0,0,0;", "forbidden 0 = 1; forbidden 1 = 0; forbidden 9 = 1; forbidden 10 = 0; forbidden 11 = BAD; forbidden -1 = BAD");
        says("Of an ACTOR: KIND (what = 0), for what he acts (1), COINS (2), how many SIGNS he has SHOWN (3), WORDS that were GUESSED at him (4; bits),"
            + " 0 WAITS, 1 THROUGH, 2 BACK, 3 SEIZED (5). BAD.");
        run("w9,a;w8,b;x5;r3;a2,1,20;a3,0,7;a0,0,0;a0,0,0;", "actor 0 0 = 2; actor 0 1 = 1; actor 0 2 = 20; actor 0 3 = 0; actor 0 4 = 0; actor 0 5 = 0; guess 0 = 0; actor 0 4 = 1;"
            + "show 0 8; show 0 7; actor 0 3 = 2; guess 0 = NONE; actor 0 5 = 2; show 1 0; guess 1 = 0; actor 1 5 = 1; actor 1 2 = 4; show 2 5; actor 2 5 = 3; actor 3 5 = 0;"
            + "actor 0 6 = BAD; actor 0 -1 = BAD; actor 4 0 = BAD; actor -1 0 = BAD");
        says("The k-th SIGN (0 first) that an ACTOR has SHOWN. NONE: there are not so many; BAD: k below 0, too.");
        run("w9,a;a0,0,0;", "shown 0 0 = NONE; show 0 8; show 0 3; shown 0 0 = 8; shown 0 1 = 3; shown 0 2 = NONE; shown 0 5 = NONE; shown 0 HIGH = NONE; shown 0 -1 = BAD; shown 1 0 = BAD;"
            + "shown -1 0 = BAD");
    }

    private static void acting() {
        says("A SIGN is SHOWN: 1; 0: he is SEIZED. BAD; NO: he does not WAIT, has SHOWN 5.");
        run("w9,a;x5;a0,0,0;a0,0,0;a0,0,0;", "show 0 0 = 1; shown 0 0 = 0; show 0 5 = 0; actor 0 5 = 3; show 0 0 = NO; guess 1; show 1 0 = NO; show 2 0;show 2 0;show 2 0;show 2 0;"
            + "show 2 0 = 1; show 2 0 = NO; show 2 5 = NO; show 2 9 = BAD; show 2 -1 = BAD; show 3 0 = BAD; show -1 0 = BAD; count 8 = 6");
        says("The OFFICER GUESSES: which WORD (NONE: there is none, he is sent BACK). BAD; NO: he does not WAIT.");
        run("w9,a;w8,b;a0,1,0;a0,0,0;", "guess 0 = 0; guess 0 = 1; guess 0 = NO; show 1 8; guess 1 = NONE; actor 1 5 = 2; guess 1 = NO; guess 2 = BAD; guess -1 = BAD");
        says("Two ACTORS change: for what the first one acts then. BAD (alike, too); NO.");
        run("w9,a;w8,b;a0,1,0;a0,0,0;", "change 0 1 = 0; change 1 0 = 0; change 1 0 = 1; change 0 0 = BAD; change 0 2 = BAD; change -1 0 = BAD; show 0 0; change 0 1 = NO; change 1 0 = NO");
        says("UNDONE: how many more can be. NO.");
        run("w9,a;a0,0,0;", "undo = NO; show 0 0; show 0 1; undo = 1; undo = 0; undo = NO; actor 0 3 = 0");
    }

    private static void whatItComesTo() {
        String done = "w9,a;w8,b;x5;a0,0,0;a0,1,0;a0,0,0;";
        String gone = "show 0 0; guess 0 = 0; show 1 5; show 2 8; guess 2 = NONE;";
        says("WEIGHT (of any ACTOR). BAD.");
        run(done, gone + "weight 0 0 = 18; weight 0 1 = 8; weight 1 0 = 9; weight 1 1 = 8; weight 2 0 = 0; weight 3 0 = BAD; weight 0 2 = BAD; weight -1 0 = BAD; weight 0 -1 = BAD");
        says("LIKELY (of any ACTOR): above (part = 0), below (1) (0 by 1, where no WORD has any WEIGHT). BAD.");
        run(done, gone + "likely 0 0 0 = 18; likely 0 0 1 = 26; likely 1 1 0 = 8; likely 1 1 1 = 17; likely 2 0 0 = 0; likely 2 0 1 = 1; likely 0 0 2 = BAD; likely 0 0 -1 = BAD;"
            + "likely 3 0 0 = BAD; likely 0 2 0 = BAD");
        says("Which WORD would be GUESSED next. NONE; BAD; NO: he does not WAIT.");
        run(done, "next 0 = 0; show 0 1; next 0 = 1; guess 0 = 1; next 0 = 0; show 0 8; next 0 = NONE; actor 0 5 = 0; show 1 5; next 1 = NO; next 3 = BAD; next -1 = BAD");
        says("FEWEST: how many (k = 0), the k-th (1 to 3; NONE: there are not so many). NONE; BAD; NO: he does not WAIT.");
        run("w1,c;x6;x7;w4,ab;a0,0,9;", "fewest 0 0 0 = 2; fewest 0 0 1 = 2; fewest 0 0 3 = NONE; fewest 0 0 4 = BAD; fewest 0 0 -1 = BAD; fewest 1 0 0 = BAD; fewest 0 2 0 = BAD;"
            + "show 0 2; fewest 0 0 1 = 2; fewest 0 0 2 = NONE; show 0 8; fewest 0 0 0 = NONE; guess 0 = NONE; fewest 0 0 0 = NO; fewest 0 0 4 = BAD");
        says("TELLS. NONE; BAD; NO: he does not WAIT.");
        run(done, "tells 0 = 0; tells 1 = 1; show 0 0;show 0 0;show 0 0;show 0 0;show 0 0; tells 0 = NONE; guess 0 = 0; tells 0 = NO; tells 3 = BAD; tells -1 = BAD");
        says("SEND: how many (a = -1; 0: nobody is dealt out to), for what ACTOR a acts (NONE). BAD.");
        run(done, "send -1 = 1; send 0 = 0; send 1 = 1; send 2 = 0; show 0 0; send 0 = NONE; send 1 = 1; send 2 = 0; show 1 0; show 2 0; send -1 = 0; send 3 = BAD; send -2 = BAD");
        says("QUEUE: how long (k = -1), the k-th (0 first; NONE: there are not so many). BAD.");
        run(done, "queue -1 = 3; queue 0 = 0; queue 1 = 2; queue 2 = 1; queue 3 = NONE; queue HIGH = NONE; queue -2 = BAD; queue LOW = BAD");
        says("PARTED, as bits. BAD (alike, too).");
        run(done, "parted 0 1 = 3; parted 1 0 = 3; parted 0 0 = BAD; parted 1 1 = BAD; parted 0 2 = BAD; parted -1 0 = BAD");
        says("MOST.");
        run(done, "most = 2; guess 0 = 0; most = 1; guess 2 = 0; most = 0; count 5 = 2");
    }

    private static void whatWasSeen() {
        says("SEEN: how many. BAD; FULL.");
        run("w9,a;a0,0,0;", "see 0 0 = 1; see 0 0 = 2; see 0 0 = 3; see 0 0 = 4; see 0 0 = 5; see 0 0 = 6; see 0 0 = FULL; see 0 1 = BAD; see 1 0 = BAD; see -1 0 = BAD; see 0 -1 = BAD; undo = NO");
        says("Nothing is SEEN: how many were.");
        run("w9,a;w8,b;a0,0,0;", "forget = 0; see 0 1; see 0 0; habits 0 = 0; forget = 2; count 9 = 0; habits 0 = 16; forget = 0");
        says("HABITS: how many (what = 0), the first (1; NONE). BAD.");
        run("w1,a;w3,b;a0,0,0;", "show 0 0; see 0 0; habits 0 = 8; habits 1 = 23; see 0 1; habits 0 = 0; habits 1 = NONE; habits 2 = BAD; habits -1 = BAD");
        says("WANTS, as bits. BAD; NO: he does not WAIT.");
        run("w9,a;w8,b;w9,a;a0,0,0;", "wants 0 = 3; guess 0 = 0; wants 0 = NO; wants 1 = BAD; wants -1 = BAD");
    }

    private static void missedSignsSeasons() {
        says("MISSED: above (part = 0), below (1). BAD; NO: he does not WAIT.");
        run("w1,a;w1,b;a0,1,0;", "missed 0 4 0 = 0; missed 0 4 1 = 1; show 0 1; missed 0 4 0 = 3; missed 0 4 1 = 5; missed 0 11 0 = BAD; missed 0 -1 0 = BAD; missed 0 4 2 = BAD;"
            + "missed 0 4 -1 = BAD; missed 1 4 0 = BAD; guess 0 = 1; missed 0 4 0 = NO; missed 0 11 0 = BAD");
        says("A SEASON: THROUGH (what = 0), COINS (1). BAD.");
        run("w9,a;r3;a0,0,9;", "show 0 0; season 0 1 0 = 1; season 0 1 1 = 3; season 0 1 2 = BAD; season 0 1 -1 = BAD; season 0 0 0 = BAD; season 0 61 0 = BAD; season -1 1 0 = BAD;"
            + "season 10000 1 0 = BAD; season 9999 60 0 = 1; count 4 = 1; count 10 = 1");
        says("KEPT: how many. FULL.");
        run("w9,a;a0,0,9;", "keep = 1; show 0 0; keep = 2; keep = FULL; count 11 = 2; undo = 0");
        says("As KEPT last (it is KEPT no more then): how many are left; nothing is UNDONE then. NO.");
        run("w9,a;a0,0,9;", "back = NO; keep = 1; show 0 0; keep = 2; show 0 1; guess 0; back = 1; actor 0 3 = 1; actor 0 5 = 0; count 10 = 0; show 0 4; back = 0; actor 0 3 = 0; undo = NO;"
            + "back = NO; count 11 = 0; keep = 1");
        says("How many: 0 WORDS, 1 SIGNS, 2 ACTORS, 3 R, 4 who WAIT, 5 THROUGH, 6 BACK, 7 SEIZED, 8 SIGNS SHOWN in all, 9 SEEN, 10 that can be UNDONE, 11 KEPT,"
            + " 12 letters of THE TEXT. BAD.");
        run("w9,a;w8,b;l0;r7;x5;a0,0,9;a0,0,9;a0,0,9;a0,0,9;a0,0,9;", "show 0 0; show 0 0; guess 0; guess 1; show 2 8; guess 2; show 3 5; see 4 0; see 4 1; see 4 0; keep; count 0 = 2; count 1 = 10;"
            + "count 2 = 5; count 3 = 7; count 4 = 1; count 5 = 1; count 6 = 2; count 7 = 1; count 8 = 3; count 9 = 3; count 10 = 7; count 11 = 1; count 12 = 54; count 13 = BAD; count -1 = BAD");
    }

    // ---- the document itself

    /** From Terms to Promise 31, in one line, without headings, places of code and what the interface says. */
    private static String document() throws IOException {
        String all = Files.readString(Path.of(DOCUMENT));
        int from = all.indexOf("## Terms");
        int to = all.indexOf("## Not promised");
        if (from < 0 || to < from) {
            return "no Terms, no promises";
        }
        return all.substring(from, to).replaceAll("(?m)^## .*$", " ").replaceAll("(?m)^`int .*?`: |^`CharadePost\\(\\)`: ", " ")
            .replaceAll("(?m)^Ahead of the calls .* the interface says: ---- .*$", " ").replaceAll("```(text)?|======== \\d", " ").replaceAll("\\s+", " ");
    }

    private static void nothingIsLeftOut() throws IOException {
        String document = document();
        int at = 0;
        for (String words : SAID) {
            int place = document.indexOf(words, at);
            if (place < 0) {
                Checks.fail(words, "does not stand in the document, behind what was tried ahead of it");
                return;
            }
            told(document.substring(at, place));
            at = place + words.length();
        }
        told(document.substring(at));
    }

    private static void told(String between) {
        Checks.due("the document", "untried: " + between.trim(), between.replaceAll("[\\s.,:;()]", "").length(), 0);
    }

    public static void main(String[] args) throws IOException {
        texts();
        wordsAndLikenesses();
        theOfficerAndTheSigns();
        theActors();
        faultsAndWhatIsLaid();
        signs();
        whatASignMultiplies();
        showingAndGuessing();
        changingAndUndoing();
        fewestAndTells();
        sendAndQueue();
        partedAndMost();
        seenAndHabits();
        missedAndSeasons();
        refusals();
        posts();
        acting();
        whatItComesTo();
        whatWasSeen();
        missedSignsSeasons();
        tried();
        nothingIsLeftOut();
        Checks.finish("SentenceTests");
    }
}
