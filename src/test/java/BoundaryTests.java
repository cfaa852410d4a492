import java.math.BigInteger;

/**
 * Terms 2 to 4, edge by edge: the last that is taken and the first that is not, the empty and the full.
 * Each test bears the words of the document that it holds the class to; answers are reckoned by hand.
 */
public final class BoundaryTests {
    private static final int BAD = Checks.BAD, NO = Checks.NO, NONE = Checks.NONE;
    private static final String ONE = "w1,a;a0,0,9;";
    /** What can make word 0 the guess is sign 2 alone, by 2 each time; the other one is common by what stands behind it. */
    private static final String RARE = "w1,c;x6;x7;x8;w";

    private static void run(String where, String text, String steps) {
        Checks.run(where, text, steps);
    }

    // ---- Terms 2: signs, kinds, weights

    private static void signs() {
        for (int n = 0; n <= 6; n++) {
            int signs = 9 + n;
            run("SIGNS: a LIKENESS (9 the first one), as many as were told", "w1,a;" + "l0;".repeat(n) + "a0,0,9;",
                "count 1 = " + signs + "; forbidden " + (signs - 1) + " = 0; forbidden " + signs + " = BAD; show 0 " + signs
                + " = BAD; count 10 = 0; show 0 " + (signs - 1) + " = 1; shown 0 0 = " + (signs - 1) + "; show 0 -1 = BAD");
        }
    }

    private static void lengths() {
        String where = "6 to 8: 1 to 3 PARTS (as many as the row of a WORD has, alike ones, too)";
        String text = "w4,a;w5,bb;w6,cc;w7,aba;w8,ddd;a0,0,9;a1,0,9;a2,0,9;a3,0,9;";
        int[] common = {4, 5, 6, 7, 8};
        int[] long1 = {1, 2, 2, 3, 3};
        for (int kind = 0; kind <= 3; kind++) {
            for (int n = 1; n <= 3; n++) {
                StringBuilder steps = new StringBuilder("show " + kind + " " + (5 + n));
                for (int w = 0; w < 5; w++) {
                    steps.append("; weight ").append(kind).append(' ').append(w).append(" = ").append(long1[w] == n ? common[w] : 0);
                }
                run(where, text, steps.toString());
            }
        }
    }

    /** By what the signs 0 to 9 multiply a WORD: B, b (twice over), A, a, O (A and 1) or a number; a row for each KIND. */
    private static final String[] ABF_IN_IT = {"BB111B001A", "B111BB001A", "bb111b001a", "BB111B001O"};
    private static final String[] CCC_NOT_IN_IT = {"11B1110011", "1B11110011", "11b1110011", "11B1110011"};

    private static void kinds() {
        for (int a = 2; a <= 5; a++) {
            for (int b = 1; b <= 4; b++) {
                for (int kind = 0; kind <= 3; kind++) {
                    for (int s = 0; s <= 9; s++) {
                        int one = times(ABF_IN_IT[kind].charAt(s), a, b);
                        int other = times(CCC_NOT_IN_IT[kind].charAt(s), a, b);
                        run("a SIGN multiplies", "w7,abf;w9,ccc;l0;h" + a + "," + b + ";a" + kind + ",0,0;",
                            "show 0 " + s + "; weight 0 0 = " + 7 * one + "; weight 0 1 = " + 9 * other
                            + "; show 0 " + s + "; weight 0 0 = " + 7 * one * one + "; weight 0 1 = " + 9 * other * other);
                    }
                }
            }
        }
    }

    private static int times(char told, int a, int b) {
        switch (told) {
            case 'B': return b;
            case 'b': return b * b;
            case 'A': return a;
            case 'a': return a * a;
            case 'O': return a + 1;
            default: return told - '0';
        }
    }

    private static void parts() {
        run("a WORD that has it (however often), by B", "w2,aab;w2,aaa;w2,ab;h3,4;a0,0,0;",
            "show 0 0; weight 0 0 = 8; weight 0 1 = 8; weight 0 2 = 8; word 0 2 = 3; word 1 2 = 1");
        StringBuilder text = new StringBuilder("h2,3;");
        for (char c = 'a'; c <= 'f'; c++) {
            text.append("w1,").append(c).append(';');
        }
        for (int s = 0; s <= 5; s++) {
            for (int w = 0; w <= 5; w++) {
                run("a PART (a to f)", text + "a0,0,9;", "show 0 " + s + "; weight 0 " + w + " = " + (w == s ? 3 : 1));
                run("a CHILD shows the PART behind it, a behind f", text + "a1,0,9;",
                    "show 0 " + s + "; weight 0 " + w + " = " + (w == (s + 1) % 6 ? 3 : 1));
            }
        }
    }

    private static void weights() {
        run("0, if it was GUESSED at him", "w3,a;w2,b;a0,1,9;a0,1,9;",
            "guess 0 = 0; weight 0 0 = 0; weight 0 1 = 2; weight 1 0 = 3; show 0 0; weight 0 0 = 0; show 0 0; next 0 = 1");
        run("the largest of all", "w9,a;l0;h5,4;a3,0,0;a2,0,0;",
            "show 0 9;show 0 9;show 0 9;show 0 9;show 0 9; weight 0 0 = 69984; show 1 9;show 1 9;show 1 9;show 1 9;show 1 9;"
            + "weight 1 0 = 87890625; likely 1 0 1 = 87890625; next 1 = 0");
        StringBuilder text = new StringBuilder("h5,4;l");
        text.insert(0, "w9,abc;".repeat(8)).append("01234567;a2,7,9;");
        run("of those of all WORDS together", text.toString(),
            "show 0 9;show 0 9;show 0 9;show 0 9; likely 0 7 0 = 3515625; likely 0 7 1 = 28125000; tells 0 = 0; show 0 9;"
            + "likely 0 7 0 = 87890625; likely 0 7 1 = 703125000; missed 0 5 0 = 0; next 0 = 0");
        run("0 by 1, where no WORD has any WEIGHT", "w3,a;w2,b;a0,1,9;",
            "likely 0 0 0 = 3; likely 0 0 1 = 5; show 0 8; likely 0 0 0 = 0; likely 0 0 1 = 1; likely 0 1 0 = 0; likely 0 1 1 = 1");
        run("0 of what others have", "w3,a;w2,bb;a0,1,9;", "show 0 6; likely 0 1 0 = 0; likely 0 1 1 = 3; likely 0 0 0 = 3");
        run("by its WEIGHT of those of all WORDS together, as they are", "w3,a;w3,b;w6,c;a0,1,9;",
            "likely 0 0 0 = 3; likely 0 0 1 = 12; likely 0 2 0 = 6");
    }

    // ---- Terms 2: shown, guessed, changed, undone

    private static void shows() {
        run("SHOWS a SIGN (5 at most; a SIGN can be SHOWN more than once)", ONE,
            "shown 0 0 = NONE; show 0 3 = 1; show 0 0 = 1; show 0 3 = 1; show 0 3 = 1; actor 0 3 = 4; shown 0 4 = NONE; show 0 8 = 1;"
            + "shown 0 0 = 3; shown 0 1 = 0; shown 0 2 = 3; shown 0 3 = 3; shown 0 4 = 8; shown 0 5 = NONE; show 0 0 = NO;"
            + "actor 0 3 = 5; count 8 = 5; actor 0 5 = 0; count 10 = 5");
        String one = "x5;w1,a;a0,0,9;a0,0,9;";
        run("if it is FORBIDDEN, he is SEIZED instead", one,
            "show 0 0 = 1; show 0 0 = 1; show 0 0 = 1; show 0 0 = 1; show 0 5 = 0; actor 0 3 = 4; shown 0 4 = NONE; actor 0 5 = 3;"
            + "actor 0 2 = 9; count 8 = 4; count 7 = 1; count 4 = 1; count 10 = 5; show 0 0 = NO; show 0 5 = NO; guess 0 = NO");
        run("NO: has SHOWN 5, if FORBIDDEN, too", one,
            "show 1 0;show 1 0;show 1 0;show 1 0;show 1 0 = 1; show 1 5 = NO; actor 1 5 = 0; count 7 = 0; count 10 = 5");
        run("SEIZED by the first", one, "show 0 5 = 0; actor 0 3 = 0; shown 0 0 = NONE; undo = 0; actor 0 5 = 0; show 0 5 = 0");
    }

    private static void guesses() {
        run("of most WEIGHT, of several the lowest", "w2,a;w3,b;w3,c;w3,d;a0,3,9;a0,2,9;",
            "next 0 = 1; guess 0 = 1; next 0 = 2; guess 0 = 2; next 0 = 3; guess 0 = 3; actor 0 5 = 1; guess 1 = 1; actor 1 5 = 0");
        run("(above 0); there being none, that ACTOR is sent BACK", "w2,a;w3,bb;a0,0,7;",
            "show 0 8; next 0 = NONE; actor 0 5 = 0; guess 0 = NONE; actor 0 5 = 2; actor 0 4 = 0; actor 0 2 = 7; count 6 = 1; guess 0 = NO;"
            + "undo = 1; actor 0 5 = 0; guess 0 = NONE");
        run("one WORD alone above 0", "w2,a;w3,bb;a0,0,7;", "show 0 6; next 0 = 0; guess 0 = 0; actor 0 5 = 1");
        run("none that was not GUESSED", "w9,a;w8,b;a0,1,9;a0,0,9;",
            "guess 0 = 0; change 0 1 = 0; guess 0 = 1; actor 0 5 = 0; actor 0 4 = 3; guess 0 = NONE; actor 0 5 = 2; actor 0 4 = 3");
        run("by the third such he is sent BACK", "w9,a;w8,b;w7,c;w6,d;a0,3,9;a0,2,9;",
            "guess 0 = 0; actor 0 5 = 0; guess 0 = 1; actor 0 5 = 0; actor 0 4 = 3; guess 0 = 2; actor 0 5 = 2; actor 0 4 = 7; actor 0 2 = 9;"
            + "guess 0 = NO; guess 1 = 0; guess 1 = 1; guess 1 = 2; actor 1 5 = 1; actor 1 4 = 3; count 5 = 1; count 6 = 1");
        run("the last of eight", "w1,a;w2,a;w3,a;w4,a;w5,a;w6,a;w7,a;w8,b;a0,0,0;", "guess 0 = 7; actor 0 4 = 128; weight 0 7 = 0; next 0 = 6");
    }

    private static void pays() {
        for (int r = 0; r <= 9; r++) {
            for (int n = 0; n <= 5; n++) {
                int due = r * n;
                String text = "w9,a;r" + r + ";a0,0," + due + ";a0,0," + Math.max(0, due - 1) + ";a0,0,99;";
                String shows = "show 0 0;".repeat(n) + "show 1 0;".repeat(n) + "show 2 0;".repeat(n);
                run("he PAYS R for each SIGN he has SHOWN, and is THROUGH", text,
                    shows + "guess 0 = 0; actor 0 5 = 1; actor 0 2 = 0; guess 2 = 0; actor 2 5 = 1; actor 2 2 = " + (99 - due));
                if (due > 0) {
                    run("has he fewer COINS, he is sent BACK, and keeps them", text,
                        shows + "guess 1 = 0; actor 1 5 = 2; actor 1 4 = 0; actor 1 2 = " + (due - 1));
                }
            }
        }
    }

    /** 0 is through, 1 seized, each with nothing shown; 2 waits and has shown; 3 and 4 wait and have not. */
    private static void changes() {
        String text = "w9,a;w8,b;x5;a0,0,9;a0,1,8;a2,0,7;a3,1,6;a0,0,5;";
        String stand = "guess 0 = 0; actor 0 5 = 1; show 1 5 = 0; show 2 0 = 1;";
        String where = "Two ACTORS who WAIT and have SHOWN nothing change what they act for";
        for (int a = 0; a <= 4; a++) {
            for (int b = 0; b <= 4; b++) {
                int due = a == b ? BAD : a < 3 || b < 3 ? NO : a == 3 ? 0 : 1;
                run(where, text, stand + "change " + a + " " + b + " = " + due + "; count 10 = " + (due >= 0 ? 4 : 3));
            }
        }
        run(where, text, stand + "change 3 4 = 0; actor 3 1 = 0; actor 4 1 = 1; actor 3 0 = 3; actor 3 2 = 6; actor 4 2 = 5; undo = 3;"
            + "actor 3 1 = 1; actor 4 1 = 0; undo = 2; actor 2 3 = 0; change 2 3 = 1; change 3 2 = 1; change 2 3 = 1");
        run("one who was sent BACK", "w9,a;w8,b;w7,c;w6,d;a0,3,9;a0,0,9;", "guess 0;guess 0;guess 0; change 0 1 = NO; change 1 0 = NO; undo; change 0 1 = 0");
        run("alike WORDS", "w9,a;a0,0,9;a1,0,9;", "change 0 1 = 0; count 10 = 1; actor 0 1 = 0; actor 1 1 = 0; undo = 0");
        run("what was GUESSED at each stays with him", "w9,a;w8,b;w7,c;a0,1,9;a0,2,9;",
            "guess 0 = 0; guess 1 = 0; guess 1 = 1; change 0 1 = 2; actor 0 4 = 1; actor 1 4 = 3; next 0 = 1; next 1 = 2;"
            + "guess 1 = 2; actor 1 4 = 7; actor 1 5 = 2");
        run("one to five ACTORS", ONE, "change 0 1 = BAD; change 0 0 = BAD; change 1 0 = BAD; change -1 0 = BAD; change 0 -1 = BAD");
    }

    private static void undoes() {
        String where = "UNDONE are the latest of these (the last 8 can be)";
        String text = "w9,a;w1,b;a0,0,9;a0,0,9;a0,0,9;";
        String[] signs = {"show 0 0", "show 0 1", "show 0 2", "show 0 3", "show 0 4", "show 1 0", "show 1 1", "show 1 2", "show 1 3", "show 1 4"};
        for (int n = 0; n <= 10; n++) {
            StringBuilder steps = new StringBuilder("undo = NO");
            for (int i = 0; i < n; i++) {
                steps.append(";").append(signs[i]).append(" = 1; count 10 = ").append(Math.min(i + 1, 8));
            }
            for (int left = Math.min(n, 8) - 1; left >= 0; left--) {
                steps.append("; undo = ").append(left).append("; count 10 = ").append(left);
                steps.append("; count 8 = ").append(left + Math.max(0, n - 8));
            }
            steps.append("; undo = NO; count 8 = ").append(Math.max(0, n - 8));
            run(where, text, steps.toString());
        }
        run("of each kind", "w9,a;w8,b;x5;r3;a0,1,9;a0,0,9;a0,0,9;",
            "show 0 1 = 1; guess 0 = 1; change 1 2 = 0; show 1 5 = 0; show 2 8 = 1; guess 2 = NONE; count 10 = 6;"
            + "undo = 5; actor 2 5 = 0; undo = 4; actor 2 3 = 0; undo = 3; actor 1 5 = 0; undo = 2; undo = 1; actor 0 5 = 0; actor 0 2 = 9;"
            + "actor 0 3 = 1; undo = 0; actor 0 3 = 0; undo = NO");
        run("undone, and others made", text, "show 0 0;show 0 1;show 0 2;show 0 3;show 1 0;show 1 1;show 1 2;show 1 3; count 10 = 8; undo = 7;"
            + "undo = 6; undo = 5; show 2 0;show 2 1;show 2 2;show 2 3;show 2 4; count 10 = 8;"
            + "undo = 7;undo = 6;undo = 5;undo = 4;undo = 3; actor 2 3 = 0; undo = 2; undo = 1; undo = 0; undo = NO; actor 0 3 = 2; actor 1 3 = 0;"
            + "shown 0 0 = 0; shown 0 1 = 1");
        run("neither what is asked nor what is SEEN, KEPT, written", text, "show 0 0; see 0 0; keep; write 119; next 0; count 10 = 1; undo = 0;"
            + "count 9 = 1; count 11 = 1; count 12 = 32");
    }

    // ---- Terms 3: fewest, tells, send, queue, parted, most

    private static String row(int a, int w, int... signs) {
        StringBuilder steps = new StringBuilder("fewest " + a + " " + w + " 0 = " + signs.length + ";");
        for (int k = 1; k <= 3; k++) {
            steps.append("fewest ").append(a).append(' ').append(w).append(' ').append(k).append(" = ");
            steps.append(k <= signs.length ? signs[k - 1] : NONE).append(";");
        }
        return steps.toString();
    }

    private static String noRow(int a, int w) {
        String call = "fewest " + a + " " + w + " ";
        return call + "0 = NONE;" + call + "1 = NONE;" + call + "2 = NONE;" + call + "3 = NONE;" + call + "4 = BAD;" + call + "-1 = BAD;";
    }

    private static void fewest() {
        String where = "rows of none to 3 SIGNS";
        run(where, RARE + "1,ab;a0,0,0;", row(0, 0) + row(0, 1, 0));
        run(where, RARE + "2,ab;a0,0,0;", row(0, 0, 2) + row(0, 1));
        run(where, RARE + "4,ab;a0,0,0;", row(0, 0, 2, 2));
        run(where, RARE + "5,ab;a0,0,0;", row(0, 0, 2, 2, 2));
        run(where, RARE + "8,ab;a0,0,0;", row(0, 0, 2, 2, 2));
        run(where, RARE + "9,ab;a0,0,0;", noRow(0, 0) + row(0, 1));
        run("of several the lowest is GUESSED", "x6;x7;x8;w8,ab;w1,c;a0,0,0;", noRow(0, 1));
        run("of several the lowest is GUESSED", "x6;x7;x8;w7,ab;w1,c;a0,0,0;", row(0, 1, 2, 2, 2));
        run("none FORBIDDEN", "x2;" + RARE + "2,ab;a0,0,0;", noRow(0, 0));
        run("none FORBIDDEN: a likeness", "x9;x2;" + RARE + "2,ab;l0;l0;a0,0,0;", row(0, 0, 10));
        run("all FORBIDDEN", "x0;x1;x2;x3;x4;x5;" + RARE + "2,ab;a0,0,0;", noRow(0, 0) + row(0, 1));
        String first = "of several the first (by the first SIGN, then the second, ..)";
        String three = "w2,bcd;w3,b;w3,c;w3,d;x6;x7;x8;a0,0,0;";
        run(first, three, row(0, 0, 1, 2));
        run(first, "x1;" + three, row(0, 0, 2, 3));
        run(first, "x2;" + three, row(0, 0, 1, 3));
        run(first, three.replace("w2", "w1"), row(0, 0, 1, 2, 3));
        run("that of fewest", "w1,bc;w3,b;w3,c;w3,da;x8;x6;l0;h5,2;a0,0,0;", row(0, 0, 9));
        run("if it was GUESSED", "w9,a;w8,b;a0,1,0;", "guess 0 = 0;" + noRow(0, 0) + row(0, 1));
    }

    private static void fewestThatCanBeShown() {
        String where = "(they may be alike; no more than he can SHOW)";
        String three = RARE + "8,ab;a0,0,0;";
        String two = RARE + "4,ab;a0,0,0;";
        String one = RARE + "2,ab;a0,0,0;";
        String none = RARE + "1,ab;a0,0,0;";
        String[] shown = {"", "show 0 3;", "show 0 3;show 0 3;", "show 0 3;show 0 3;show 0 3;", "show 0 3;".repeat(4), "show 0 3;".repeat(5)};
        for (int n = 0; n <= 5; n++) {
            run(where, three, shown[n] + (n <= 2 ? row(0, 0, 2, 2, 2) + "wants 0 = 3; most = 0" : noRow(0, 0) + "wants 0 = 2; most = 0"));
            run(where, two, shown[n] + (n <= 3 ? row(0, 0, 2, 2) + "wants 0 = 3" : noRow(0, 0) + "wants 0 = 2"));
            run(where, one, shown[n] + (n <= 4 ? row(0, 0, 2) + "wants 0 = 3" : noRow(0, 0) + "wants 0 = 2"));
            run(where, none, shown[n] + row(0, 0) + (n <= 4 ? row(0, 1, 0) + "wants 0 = 3" : noRow(0, 1) + "wants 0 = 1"));
        }
        run("SHOWN besides", three, "show 0 2;" + row(0, 0, 2, 2) + "show 0 2;" + row(0, 0, 2) + "show 0 2;" + row(0, 0));
    }

    private static void tells() {
        run("(he being able to)", "w2,a;w3,bc;a0,0,0;", "tells 0 = 6; show 0 3;show 0 3;show 0 3;show 0 3; tells 0 = 6; show 0 3; tells 0 = NONE");
        String all = "x0;x1;x2;x3;x4;x5;x6;x7;x8;";
        run("none", all + "w2,a;w3,b;a0,0,0;", "tells 0 = NONE; next 0 = 1");
        run("none", all + "x9;w2,a;w3,b;l0;a0,0,0;", "tells 0 = NONE");
        run("not FORBIDDEN", all + "x9;w2,a;w3,b;l1;l1;a0,0,0;", "tells 0 = 10");
        run("the last of 15", all + "w2,a;w3,b;l1;l1;l1;l1;l1;l0;a0,0,0;", "tells 0 = 14");
        run("(0, where its WEIGHT is 0), of several the lowest", "x0;x1;w2,a;w3,b;a0,0,0;", "show 0 8; tells 0 = 2");
        run("(0, where its WEIGHT is 0)", "x0;x1;w9,a;w3,b;a0,1,0;a0,0,0;", "guess 0 = 0; change 0 1 = 0; tells 0 = 2");
        run("by a fraction, not by WEIGHT: 2 of 4 is 1 of 2", "w1,ab;w1,ac;x1;a0,0,0;", "tells 0 = 0");
        run("1 of 2 is 2 of 4", "w1,ab;w1,ac;x1;x0;a0,0,0;", "tells 0 = 3");
        run("2 of 3", "w1,ab;w1,ac;a0,0,0;a0,1,0;", "tells 0 = 1; tells 1 = 2");
    }

    private static void send() {
        String alike = "w1,a;w1,a;w1,a;w1,a;w1,a;";
        run("9, if none; of several the first", alike + "a0,0,0;a0,1,0;a0,2,0;a0,3,0;a0,4,0;",
            "send -1 = 36; send 0 = 0; send 1 = 1; send 2 = 2; send 3 = 3; send 4 = 4; send 5 = BAD; send -2 = BAD");
        run("that of the lowest ahead", alike + "a0,4,0;a0,3,0;a0,2,0;a0,1,0;a0,0,0;",
            "send -1 = 36; send 0 = 4; send 1 = 3; send 2 = 2; send 3 = 1; send 4 = 0");
        run("9, if none", alike + "a0,4,0;".repeat(5), "send -1 = 45; send 0 = 4; send 4 = 4; show 4 0; send -1 = 36; send 4 = NONE; send 3 = 4");
        run("0: nobody is dealt out to", "w1,a;x5;a0,0,9;a0,0,9;a0,0,9;",
            "send -1 = 0; send 0 = 0; show 0 0; send 0 = NONE; guess 1; send 1 = NONE; send 2 = 0; show 2 5; send -1 = 0; send 2 = NONE");
        run("GUESSED at, he is dealt out to still", "w9,a;w8,b;a0,1,9;a0,1,9;", "guess 0 = 0; send -1 = 1; send 0 = 1; send 1 = 1");
        run("one ACTOR alone", RARE + "9,ab;a0,0,0;", "send -1 = 9; send 0 = 0; send 1 = BAD");
        run("3 SIGNS are fewer than none", RARE + "8,ab;w1,c;a0,2,0;a0,0,0;", "send -1 = 12; send 0 = 2; send 1 = 0");
    }

    private static void queue() {
        String where = "each takes 1 minute, and 1 for each SIGN of FEWEST (5 minutes in all, if none)";
        run(where, "w2,a;w1,a;" + "a0,1,0;".repeat(5), "queue -1 = 50; queue 0 = 0; queue 1 = 1; queue 2 = 2; queue 3 = 3; queue 4 = 4; queue 5 = NONE; queue -2 = BAD");
        run(where, "w2,a;" + "a0,0,0;".repeat(5), "queue -1 = 10; queue 0 = 0; queue 4 = 4; queue 5 = NONE; queue HIGH = NONE");
        run(where, RARE + "8,ab;w1,c;a0,2,0;a0,0,0;a0,1,0;", "queue -1 = 6; queue 0 = 2; queue 1 = 1; queue 2 = 0; queue 3 = NONE");
        run(where, RARE + "8,ab;w1,c;a0,0,0;a0,2,0;a0,0,0;a0,1,0;", "queue -1 = 15; queue 0 = 3; queue 1 = 0; queue 2 = 2; queue 3 = 1");
        run("(0, if nobody WAITS)", "w2,a;x5;a0,0,0;a0,0,0;a0,0,0;", "queue -1 = 3; guess 0; queue -1 = 1; queue 0 = 1; queue 2 = NONE;"
            + "show 1 5; queue -1 = 0; queue 0 = 2; queue 1 = NONE; show 2 8; guess 2 = NONE; queue -1 = 0; queue 0 = NONE; queue HIGH = NONE; queue LOW = BAD");
        run("one who can SHOW no more", RARE + "1,ab;a0,1,0;a0,0,0;", "show 0 3;show 0 3;show 0 3;show 0 3; queue -1 = 1; show 0 3; queue -1 = 1;"
            + "queue 0 = 1; show 1 3;show 1 3;show 1 3;show 1 3;show 1 3; queue -1 = 1; queue 1 = 0");
    }

    private static void parted() {
        run("FORBIDDEN ones, too", "x0;x1;x6;x7;x8;x9;w2,a;w3,bb;l1;a2,0,0;", "parted 0 1 = 707; parted 1 0 = 707");
        run("none", "w2,abc;w9,cba;l01;l10;a2,0,0;", "parted 0 1 = 0");
        run("by 1 no PART parts", "w2,a;w3,b;h2,1;a0,0,0;", "parted 0 1 = 0");
        run("by 2 each does", "w2,a;w3,b;h2,2;a0,0,0;", "parted 0 1 = 3");
        run("the first and the last SIGN", "w2,a;w3,f;l0;l1;l0;l1;l0;l1;h2,2;a0,0,0;", "parted 0 1 = " + (0b111111 * 512 + 33));
        run("SHOWN by a PLAIN one, what was GUESSED or not", "w2,a;w3,b;a1,0,0;", "guess 0 = 1; parted 0 1 = 3; parted 1 0 = 3");
        run("BAD (alike, too)", "w2,a;w3,b;a0,0,0;", "parted 0 0 = BAD; parted 1 1 = BAD; parted 0 2 = BAD; parted 2 0 = BAD; parted -1 0 = BAD; parted 2 2 = BAD");
    }

    private static void most() {
        int[] common = {1, 2, 4, 8};
        for (int r = 0; r <= 9; r++) {
            for (int n = 0; n <= 3; n++) {
                for (int shown = 0; shown + n <= 5 && shown <= 2; shown++) {
                    int due = r * (n + shown);
                    String text = RARE + common[n] + ",ab;r" + r + ";a0,0," + due + ";";
                    String steps = "show 0 3;".repeat(shown);
                    run("MOST: with just enough COINS", text, steps + row(0, 0, new int[] {2, 2, 2}, n) + "most = 1");
                    if (due > 0) {
                        run("MOST: with one less", text.replace("," + due + ";", "," + (due - 1) + ";"), steps + "most = 0");
                    }
                }
            }
        }
        run("MOST: no FEWEST", RARE + "9,ab;a0,0,99;", "most = 0");
        run("MOST: five of five", "w1,a;" + "a0,0,0;".repeat(5), "most = 5; guess 0; most = 4; guess 4; most = 3; show 1 8; most = 2");
        run("MOST: nobody WAITS", ONE, "most = 1; guess 0 = 0; most = 0");
    }

    private static String row(int a, int w, int[] signs, int many) {
        return row(a, w, java.util.Arrays.copyOf(signs, many));
    }

    // ---- Terms 4: seen, habits, wants, missed, seasons, kept

    private static void seen() {
        run("SEEN (6 at most)", "", "forget = 0; see 0 0 = 1; see 1 5 = 2; see 3 3 = 3; see 0 0 = 4; see 2 1 = 5; count 9 = 5; see 2 1 = 6;"
            + "see 0 0 = FULL; see 3 3 = FULL; see 4 0 = BAD; see 0 6 = BAD; count 9 = 6; forget = 6; count 9 = 0; forget = 0; see 0 2 = 1; habits 0 = 16");
        run("the sixth counts, too", "", "see 0 2; see 1 2; see 2 2; see 3 2; see 0 2; habits 0 = 16; see 0 1; habits 0 = 0; habits 1 = NONE; see 0 1 = FULL;"
            + "habits 0 = 0; forget = 6; habits 0 = 16; habits 1 = 21");
        run("as all stands when it is asked for", ONE + "a1,0,0;", "see 0 0 = 1; see 1 0 = 2; habits 0 = 16; show 0 0; habits 0 = 16; guess 0 = 0;"
            + "habits 0 = 0; habits 1 = NONE; undo; habits 0 = 16; show 1 8; habits 0 = 0; undo; habits 0 = 16");
        run("at one who does not WAIT then it is not so: SEIZED, BACK", "w1,a;x5;a0,0,9;a0,0,9;",
            "see 0 0 = 1; habits 0 = 16; show 0 5 = 0; habits 0 = 0; forget = 1; show 1 8; guess 1 = NONE; see 1 0 = 1; habits 0 = 0; count 9 = 1");
    }

    private static void habits() {
        run("A (2 to 5), B (1 to 4)", ONE, "habits 0 = 16; habits 1 = 21; habits 2 = BAD; habits -1 = BAD");
        run("B 4 alone", "w1,a;w4,b;a0,0,0;", "show 0 0; see 0 0; habits 0 = 4; habits 1 = 24");
        run("B 5 is none", "w1,a;w5,b;a0,0,0;", "show 0 0; see 0 0; habits 0 = 0; habits 1 = NONE");
        run("A 5 alone", "w1,a;w5,b;l0;a0,0,0;", "show 0 9; see 0 0; habits 0 = 4; habits 1 = 51");
        run("A 6 is none", "w1,a;w6,b;l0;a0,0,0;", "show 0 9; see 0 0; habits 0 = 0; habits 1 = NONE");
        run("an OLD HAND's 6 is", "w1,a;w6,b;l0;a3,0,0;", "show 0 9; see 0 0; habits 0 = 4; habits 1 = 51");
        run("all that is SEEN", "w1,a;w4,b;w5,c;l0;a0,0,0;a0,0,0;", "show 0 9; see 0 0; show 1 0; show 1 0; habits 0 = 4; see 1 0; habits 0 = 2; habits 1 = 53;"
            + "forget; see 0 0; show 1 1; see 1 1; habits 0 = 2; habits 1 = 52");
        run("54 alone", "w1,a;w4,b;w5,c;l0;a0,0,0;a0,0,0;", "show 0 9; guess 1 = 2; show 1 0; see 0 0; see 1 0; habits 0 = 1; habits 1 = 54");
        run("B 1 alone", "w1,b;w1,a;a0,0,0;", "show 0 0; see 0 0; habits 0 = 4; habits 1 = 21");
        run("A 2 alone", "w2,b;w1,a;l1;a0,0,0;", "show 0 9; see 0 0; habits 0 = 4; habits 1 = 21");
        run("A 1 is none", "w1,b;w1,a;l1;a0,0,0;", "show 0 9; see 0 0; habits 0 = 0; habits 1 = NONE");
        run("21 alone", "w2,b;w1,a;w2,c;l1;a0,0,0;a0,0,0;", "show 0 9; show 1 2; see 0 0; see 1 0; habits 0 = 1; habits 1 = 21");
        run("A 3 at least by two SIGNS, B 2 by three", "w1,a;w4,b;w1,d;w5,c;l0;a0,0,0;a0,2,0;", "show 0 9; show 0 9; see 0 0; habits 0 = 12; show 1 0; show 1 0; show 1 0;"
            + "see 1 0; habits 0 = 9; habits 1 = 32");
        run("by A, then B", "w3,a;w4,b;w4,c;l0;a0,0,0;a0,0,0;", "show 0 0; show 1 9; see 0 0; habits 0 = 12; habits 1 = 22; see 1 0; habits 0 = 12; habits 1 = 22");
        run("as they are told it is weighed still", "w1,a;w4,b;h2,3;a0,0,0;", "show 0 0; see 0 0; habits 0 = 4; next 0 = 1; weight 0 0 = 3");
    }

    private static void wants() {
        run("WORDS (bits)", "w1,a;".repeat(8) + "a0,7,0;", "wants 0 = 1; guess 0 = 0; wants 0 = 2; guess 0 = 1; wants 0 = 4; guess 0 = 2; wants 0 = NO");
        run("the last bit", "w1,a;".repeat(7) + "w2,a;a0,0,0;", "wants 0 = 128; guess 0 = 7; wants 0 = 1");
        run("none", "w1,a;w2,b;a0,0,0;", "show 0 8; wants 0 = 0");
        run("whatever he has COINS for", RARE + "8,ab;r9;a0,0,0;", "wants 0 = 3; most = 0");
        run("BAD; NO", ONE, "wants -1 = BAD; wants 1 = BAD; wants 0 = 1; guess 0; wants 0 = NO; wants 1 = BAD");
    }

    private static String missed(int x, long above, long below) {
        return "missed 0 " + x + " 0 = " + above + "; missed 0 " + x + " 1 = " + below + ";";
    }

    private static void missed() {
        String five = "show 0 0;".repeat(5);
        String where = "not taken in by x (0 to 10) of ten, for itself, in lowest terms";
        run(where, ONE, missed(0, 1, 1) + missed(10, 1, 1) + missed(7, 1, 1) + five + missed(0, 1, 1) + missed(10, 1, 1) + missed(3, 1, 1));
        String allMissed = "w9,b;w5,a;a0,0,0;";
        run(where, allMissed, five + missed(0, 0, 1) + missed(1, 1, 100000) + missed(2, 1, 3125) + missed(3, 243, 100000) + missed(4, 32, 3125)
            + missed(5, 1, 32) + missed(6, 243, 3125) + missed(7, 16807, 100000) + missed(8, 1024, 3125) + missed(9, 59049, 100000) + missed(10, 1, 1));
        run(where, "w1,a;w9,b;a0,0,0;", five + missed(0, 1, 1) + missed(1, 45927, 50000) + missed(9, 23, 50000) + missed(10, 0, 1) + missed(5, 3, 16));
        run(where, allMissed, missed(0, 1, 1) + missed(10, 1, 1) + "show 0 0;" + missed(0, 0, 1) + missed(1, 1, 10) + missed(4, 2, 5) + missed(10, 1, 1));
        run("BAD; NO", allMissed, "missed 0 -1 0 = BAD; missed 0 11 0 = BAD; missed 0 0 -1 = BAD; missed 0 0 2 = BAD; missed 1 0 0 = BAD; missed -1 0 0 = BAD;"
            + "guess 0 = 0; missed 0 0 0 = NO; missed 0 0 1 = NO; missed 0 11 0 = BAD; missed 0 5 2 = BAD; missed 1 5 0 = BAD");
        run("what was GUESSED is not GUESSED next", "w9,a;w8,b;a0,1,0;a0,0,0;", "guess 0 = 0; change 0 1 = 0;" + missed(0, 0, 1) + missed(10, 0, 1));
    }

    private static int draw(int z, int k) {
        BigInteger x = BigInteger.valueOf(7919).multiply(BigInteger.valueOf(z)).add(BigInteger.valueOf(6151L * k + 1));
        return x.multiply(x).mod(BigInteger.valueOf(65521)).divide(BigInteger.TWO).intValueExact();
    }

    /** Plays the draws by calls of the face on a second post, and holds the season against what came of it. */
    private static void playedSeason(String text, String before, int z, int n) {
        CharadePost asked = Checks.run("season", text, before);
        CharadePost played = Checks.run("season", text, before);
        int had = coins(played);
        for (int k = 0; k < n; k++) {
            int draw = draw(z, k);
            int a = draw % played.count(2);
            if (draw / 256 % 3 == 0) {
                played.guess(a);
            } else {
                played.show(a, draw / 8 % played.count(1));
            }
        }
        String call = "[" + text + "] " + before + " season " + z + " " + n + " ";
        Checks.due("how many are THROUGH then", call + "0", asked.season(z, n, 0), played.count(5));
        Checks.due("what all PAY in it", call + "1", asked.season(z, n, 1), had - coins(played));
        Checks.due("from now on: nothing is SHOWN by it", call, asked.count(8), Checks.run("season", text, before).count(8));
    }

    private static int coins(CharadePost x) {
        int sum = 0;
        for (int a = 0; a < x.count(2); a++) {
            sum += x.actor(a, 2);
        }
        return sum;
    }

    private static void seasons() {
        int[] zs = {0, 1, 2, 5, 77, 4096, 5000, 9998, 9999};
        int[] ns = {1, 2, 3, 30, 59, 60};
        String[] texts = {"", ONE, "w9,a;w8,b;r1;a0,1,20;a2,0,9;a3,0,9;", "w2,a;w2,b;w2,c;l0;l1;l2;x7;x8;r0;a0,0,0;a1,1,0;a2,2,0;a3,0,0;a0,1,0;"};
        for (int z : zs) {
            for (int n : ns) {
                for (String text : texts) {
                    playedSeason(text, "", z, n);
                    playedSeason(text, "show 0 0; guess 0; show 0 1", z, n);
                }
            }
        }
        for (int z = 0; z < 9999; z += 83) {
            playedSeason("", "", z, 60);
        }
        run("z (0 to 9999) of n (1 to 60)", ONE, "season -1 1 0 = BAD; season 10000 1 0 = BAD; season 0 0 0 = BAD; season 0 61 0 = BAD; season 0 -1 0 = BAD;"
            + "season 0 1 -1 = BAD; season 0 1 2 = BAD; season 0 1 0 = 1; season 0 60 0 = 1; season 9999 1 1 = 0; season LOW 1 0 = BAD; season HIGH 1 0 = BAD;"
            + "season 0 HIGH 0 = BAD; season 0 LOW 0 = BAD; season 0 1 HIGH = BAD; season 0 1 LOW = BAD; count 4 = 1; count 10 = 0");
    }

    private static void kept() {
        run("KEPT: 2 at most", "", "back = NO; keep = 1; keep = 2; keep = FULL; count 11 = 2; back = 1; count 11 = 1; keep = 2; keep = FULL; back = 1; back = 0;"
            + "back = NO; count 11 = 0; keep = 1; back = 0; back = NO");
        run("as KEPT last", ONE + "a0,0,9;", "keep = 1; show 0 0; keep = 2; show 0 0; show 1 0; guess 0 = 0; back = 1; actor 0 3 = 1; actor 0 5 = 0; actor 0 2 = 9;"
            + "actor 1 3 = 0; show 0 3; back = 0; actor 0 3 = 0; shown 0 0 = NONE; actor 1 3 = 0");
        run("all as it stands", "w9,a;w8,b;w7,c;x5;r4;a0,0,9;a0,1,9;a0,2,9;a0,1,9;a0,2,9;",
            "show 0 0; guess 0 = 0; guess 1 = 0; show 2 5; change 3 4 = 2; keep = 1; guess 1; guess 3; show 4 0; guess 4; change 3 1; back = 0; actor 0 5 = 1;"
            + "actor 0 2 = 5; actor 1 4 = 1; actor 1 5 = 0; actor 2 5 = 3; actor 3 1 = 2; actor 4 1 = 1; actor 3 4 = 0; actor 4 3 = 0; count 8 = 1; undo = NO");
        run("but what is SEEN and THE TEXT (these stay by back())", "", "see 0 0; write 119; keep; see 0 1; write 57; back = 0; count 9 = 2; count 12 = 2;"
            + "keep; forget = 2; wipe = 2; back = 0; count 9 = 0; count 12 = 0");
        run("behind which nothing can be UNDONE", ONE, "show 0 0; show 0 1; keep; count 10 = 2; undo = 1; back = 0; actor 0 3 = 2; count 10 = 0; undo = NO;"
            + "show 0 2 = 1; count 10 = 1; undo = 0; actor 0 3 = 2; undo = NO");
        run("kept and undone", ONE, "show 0 0; keep = 1; undo = 0; keep = 2; undo = NO; back = 1; actor 0 3 = 0; back = 0; actor 0 3 = 1");
    }

    // ---- the object, and what it counts

    private static void theFirstPost() {
        String like = "w5,ab;w3,abc;w7,d;w2,de;w4,fa;w6,c;l01;l23;l4;l25;x7;h3,2;a0,0,20;a1,3,9;a2,4,30;a3,1,15;r2;";
        String[] asked = {"count 0", "count 1", "count 2", "count 3", "count 4", "send -1", "send 3", "queue -1", "queue 3", "most", "parted 4 5",
            "season 5 60 0", "season 5 60 1", "tells 0", "tells 1", "tells 2", "tells 3", "wants 3", "fewest 0 3 2", "habits 0", "forbidden 7", "forbidden 12", "forbidden 13"};
        for (String call : asked) {
            Checks.due("at first", call, Checks.call(new CharadePost(), call), Checks.call(Checks.laid(like), call));
        }
        run("1: as told", "", "count 12 = 0; fault = NONE; wipe = 0; lay = NO; undo = NO; back = NO; forget = 0; count 9 = 0; count 10 = 0; count 11 = 0; count 13 = BAD; count -1 = BAD");
    }

    private static void lastCalls() {
        String where = "for at most 512 calls";
        run(where, "", "count 0 = 6;".repeat(509) + "show 0 9 = 1; guess 0 = 0; actor 0 2 = 18");
        run(where, "", "show 0 0 = 1; undo = 0;".repeat(256));
        run(where, "", "keep = 1; back = 0;".repeat(256));
        run(where, "", "show 0 9; show 0 9; show 0 9; show 0 9; show 0 9;" + "show 0 9 = NO;".repeat(500) + "undo = 4; undo = 3; show 0 1 = 1; shown 0 3 = 1");
        StringBuilder steps = new StringBuilder();
        for (int n = 1; n <= 512; n++) {
            steps.append("write 59 = ").append(n <= 200 ? "" + n : "FULL").append(';');
        }
        run(where, "", steps.toString());
        run(where, "", "season 9999 60 1 = 4; fewest 0 3 2 = 4; send 2 = 3; queue 3 = 1; most = 4; wants 1 = 63; missed 0 5 1 = 1; tells 2 = 11;".repeat(64));
    }

    private static void counts() {
        run("who WAIT, THROUGH, BACK, SEIZED", "w9,a;x5;r2;a0,0,2;a0,0,1;a0,0,9;a0,0,9;a0,0,9;", "count 4 = 5; show 0 0; guess 0 = 0; count 4 = 4; count 5 = 1;"
            + "show 1 0; guess 1 = 0; count 6 = 1; show 2 5; count 7 = 1; count 4 = 2; show 3 8; guess 3 = NONE; count 6 = 2; count 4 = 1; guess 4 = 0;"
            + "count 4 = 0; count 5 = 2; count 6 = 2; count 7 = 1; count 8 = 3; count 10 = 8; queue -1 = 0; send -1 = 0; most = 0");
        run("SIGNS SHOWN in all", "w9,a;" + "a0,0,0;".repeat(5), ("show 0 0;show 1 0;show 2 0;show 3 0;show 4 0;").repeat(5) + "count 8 = 25; show 4 0 = NO; count 8 = 25; undo; count 8 = 24");
    }

    public static void main(String[] args) {
        signs();
        lengths();
        kinds();
        parts();
        weights();
        shows();
        guesses();
        pays();
        changes();
        undoes();
        fewest();
        fewestThatCanBeShown();
        tells();
        send();
        queue();
        parted();
        most();
        seen();
        habits();
        wants();
        missed();
        seasons();
        kept();
        theFirstPost();
        lastCalls();
        counts();
        Checks.finish("BoundaryTests");
    }
}
