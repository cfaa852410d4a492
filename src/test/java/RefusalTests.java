import java.util.ArrayList;
import java.util.List;

/**
 * BAD, NO, NONE, FULL: which of several is answered, and that nothing changes then. Two posts are made by the same
 * calls; one of them is asked besides what it must refuse (or what only asks); all that the face tells must be alike
 * on both, down to what is UNDONE and KEPT.
 */
public final class RefusalTests {
    private static final String ALL_STANDINGS = "w4,ab;w5,c;w2,de;w1,f;l01;l2;x4;r2;h3,2;a0,0,9;a1,1,9;a2,3,9;a3,2,0;a0,1,20;";
    /** 0 SEIZED, 1 THROUGH, 2 BACK, 3 has SHOWN 5, 4 WAITS and has SHOWN nothing; six SEEN, two KEPT, eight to be UNDONE. */
    private static final String TO_ALL_STANDINGS = "keep = 1; show 0 4 = 0; show 1 1 = 1; guess 1 = 1; guess 2 = 1; guess 2 = 0; guess 2 = 2;"
        + "show 3 3 = 1; show 3 3 = 1; show 3 3 = 1; show 3 3 = 1; show 3 3 = 1; keep = 2; see 4 1 = 1; see 3 2 = 2; see 4 1 = 3; see 3 2 = 4;"
        + "see 4 1 = 5; see 3 2 = 6; actor 0 5 = 3; actor 1 5 = 1; actor 2 5 = 2; actor 3 5 = 0; actor 4 5 = 0; count 10 = 8";
    private static final String MIDDLE = "show 0 0; show 3 9; guess 2; see 0 2; keep; change 1 2; show 0 9";
    private static final List<String> VIEWS = views();

    private static String text = "";
    private static String before = "";
    private static String typed = "";

    private static void from(String textLaid, String callsMade, String textTyped) {
        text = textLaid;
        before = callsMade;
        typed = textTyped;
    }

    /** What can be seen of a post, in calls that fit together into one object's 512. */
    private static List<String> views() {
        StringBuilder stand = new StringBuilder();
        calls(stand, "count", 13);
        calls(stand, "word", 8, 4);
        calls(stand, "forbidden", 15);
        calls(stand, "actor", 5, 6);
        calls(stand, "shown", 5, 5);
        stand.append("fault;write 65;fault;wipe;fault;write 65;keep;forget;see 0 0;");
        StringBuilder sums = new StringBuilder();
        calls(sums, "weight", 5, 8);
        calls(sums, "next", 5);
        calls(sums, "tells", 5);
        calls(sums, "send", 5);
        calls(sums, "queue", 5);
        calls(sums, "wants", 5);
        calls(sums, "parted", 4, 4);
        calls(sums, "habits", 2);
        sums.append("send -1;queue -1;most;season 7 60 0;season 7 60 1;missed 3 4 0;missed 0 4 0;likely 3 2 0;likely 3 2 1;");
        StringBuilder rows = new StringBuilder();
        for (int a = 0; a < 5; a++) {
            for (int w = 0; w < 4; w++) {
                for (int k = 0; k < 4; k++) {
                    rows.append("fewest ").append(a).append(' ').append(w).append(' ').append(k).append(';');
                }
            }
        }
        StringBuilder undone = new StringBuilder();
        for (int n = 0; n < 9; n++) {
            undone.append("undo;");
            calls(undone, "actor", 5, 6);
        }
        StringBuilder kept = new StringBuilder();
        for (int n = 0; n < 3; n++) {
            kept.append("back;count 9;count 10;count 12;undo;");
            calls(kept, "actor", 5, 6);
            calls(kept, "shown", 5, 5);
        }
        StringBuilder laid = new StringBuilder("lay;fault;");
        calls(laid, "count", 13);
        calls(laid, "word", 8, 4);
        calls(laid, "forbidden", 15);
        calls(laid, "actor", 5, 6);
        laid.append("undo;back;");
        List<String> all = new ArrayList<>();
        for (StringBuilder view : new StringBuilder[] {stand, sums, rows, undone, kept, laid}) {
            all.add(view.toString());
        }
        return all;
    }

    private static void calls(StringBuilder to, String name, int many) {
        for (int i = 0; i < many; i++) {
            to.append(name).append(' ').append(i).append(';');
        }
    }

    private static void calls(StringBuilder to, String name, int many, int each) {
        for (int i = 0; i < many; i++) {
            for (int j = 0; j < each; j++) {
                to.append(name).append(' ').append(i).append(' ').append(j).append(';');
            }
        }
    }

    private static CharadePost made() {
        CharadePost x = Checks.run("made", text, before);
        if (!typed.isEmpty()) {
            type(x, typed);
        }
        return x;
    }

    private static void alike(String call, CharadePost asked, CharadePost left, String view) {
        for (String each : view.split(";")) {
            Checks.due("nothing changes by " + call, "[" + text + "] " + before + " .. " + each, Checks.call(asked, each), Checks.call(left, each));
        }
    }

    /** Each call, a space and a row of arguments, answers what is due and changes nothing. */
    private static void due(int answer, String... calls) {
        for (String call : calls) {
            for (String view : VIEWS) {
                CharadePost asked = made();
                Checks.due("refused", "[" + text + "] " + before + " .. " + call, Checks.call(asked, call), answer);
                alike(call, asked, made(), view);
            }
        }
    }

    /** Calls that only ask, one behind the other, change nothing. */
    private static void asks(String... calls) {
        for (String call : calls) {
            for (String view : VIEWS) {
                CharadePost asked = made();
                Checks.call(asked, call);
                alike(call, asked, made(), view);
            }
        }
    }

    /** A number of a call in turn by each that is none: all of them BAD, whatever the others are. */
    private static void bad(String call, int[]... wrongs) {
        for (int[] wrong : wrongs) {
            for (int i = 1; i < wrong.length; i++) {
                String[] told = call.split(" ");
                told[wrong[0]] = wrong[i] == Checks.LOW ? "LOW" : wrong[i] == Checks.HIGH ? "HIGH" : "" + wrong[i];
                String now = String.join(" ", told);
                Checks.due("BAD", "[" + text + "] " + before + " .. " + now, Checks.call(made(), now), Checks.BAD);
            }
        }
    }

    /** Behind the place of a number in a call: the ends of what it may not be. */
    private static int[] outside(int place, int low, int high) {
        return new int[] {place, low - 1, high + 1, low - 256, high + 256, low - 65536, high + 65536, Checks.LOW, Checks.HIGH};
    }

    private static void numbersThatAreNone(int actors, int words, int signs, int waiting) {
        int a = actors - 1;
        int w = words - 1;
        bad("write 65", outside(1, 32, 126));
        bad("word 0 0", outside(1, 0, w), outside(2, 0, 3));
        bad("forbidden 0", outside(1, 0, signs - 1));
        bad("actor 0 0", outside(1, 0, a), outside(2, 0, 5));
        bad("shown 0 0", outside(1, 0, a), new int[] {2, -1, -256, Checks.LOW});
        bad("show 0 0", outside(1, 0, a), outside(2, 0, signs - 1));
        bad("guess 0", outside(1, 0, a));
        bad("change 0 1", outside(1, 0, a), outside(2, 0, a));
        bad("weight 0 0", outside(1, 0, a), outside(2, 0, w));
        bad("likely 0 0 0", outside(1, 0, a), outside(2, 0, w), outside(3, 0, 1));
        bad("next 0", outside(1, 0, a));
        bad("fewest 0 0 0", outside(1, 0, a), outside(2, 0, w), outside(3, 0, 3));
        bad("tells 0", outside(1, 0, a));
        bad("send 0", outside(1, -1, a));
        bad("queue 0", new int[] {1, -2, -3, -256, Checks.LOW});
        bad("parted 0 1", outside(1, 0, w), outside(2, 0, w));
        bad("see 0 0", outside(1, 0, a), outside(2, 0, w));
        bad("habits 0", outside(1, 0, 1));
        bad("wants 0", outside(1, 0, a));
        bad("missed 0 0 0", outside(1, 0, a), outside(2, 0, 10), outside(3, 0, 1));
        bad("season 0 1 0", outside(1, 0, 9999), outside(2, 1, 60), outside(3, 0, 1));
        bad("count 0", outside(1, 0, 12));
        String far = "[" + text + "] " + before + " .. shown 0, queue of HIGH";
        Checks.due("NONE: there are not so many", far, made().shown(0, Checks.HIGH), Checks.NONE);
        Checks.due("NONE: there are not so many", far, made().queue(Checks.HIGH), Checks.NONE);
        Checks.due("NONE: there are not so many", far, made().queue(waiting), Checks.NONE);
        if (waiting > 0) {
            Checks.due("the last of the QUEUE", far, made().queue(waiting - 1) >= 0 ? 1 : 0, 1);
        }
    }

    private static void numbersThatAreNoneEverywhere() {
        from("", "", "");
        numbersThatAreNone(4, 6, 13, 4);
        from(ALL_STANDINGS, TO_ALL_STANDINGS, "");
        numbersThatAreNone(5, 4, 11, 2);
        from("w1,a;a0,0,0;", "", "");
        numbersThatAreNone(1, 1, 9, 1);
        from("w1,a;".repeat(8) + "l0;".repeat(6) + "a0,0,0;".repeat(5), "", "");
        numbersThatAreNone(5, 8, 15, 5);
        from("w1,a;a0,0,0;", "guess 0 = 0", "");
        numbersThatAreNone(1, 1, 9, 0);
    }

    private static void inAllStandings() {
        from(ALL_STANDINGS, TO_ALL_STANDINGS, "");
        due(Checks.BAD, "write 31", "write 127", "word 4 0", "word 0 4", "forbidden 11", "actor 5 0", "actor 0 6", "shown 5 0", "shown 3 -1");
        due(Checks.BAD, "show 5 0", "show 4 11", "show 4 -1", "show 0 11", "show 3 11", "show -1 4");
        due(Checks.NO, "show 0 0", "show 0 4", "show 1 0", "show 1 4", "show 2 0", "show 3 0", "show 3 4");
        due(Checks.BAD, "guess 5", "guess -1");
        due(Checks.NO, "guess 0", "guess 1", "guess 2");
        due(Checks.BAD, "change 4 4", "change 0 0", "change 3 3", "change 4 5", "change 5 4", "change 0 5", "change -1 3", "change 5 5");
        due(Checks.NO, "change 0 4", "change 4 0", "change 1 4", "change 4 1", "change 2 4", "change 4 2", "change 3 4", "change 4 3", "change 0 1");
        due(Checks.BAD, "weight 5 0", "weight 0 4", "likely 5 0 0", "likely 0 4 0", "likely 0 0 2", "next 5", "next -1");
        due(Checks.NO, "next 0", "next 1", "next 2");
        due(Checks.BAD, "fewest 5 0 0", "fewest 0 4 0", "fewest 0 0 4", "fewest 3 0 4", "fewest 0 0 -1", "fewest 3 -1 0");
        due(Checks.NO, "fewest 0 0 0", "fewest 1 1 0", "fewest 2 3 0", "fewest 2 3 3", "tells 0", "tells 1", "tells 2");
        due(Checks.NONE, "fewest 3 0 0", "fewest 3 0 1", "fewest 3 2 1", "tells 3", "shown 0 0", "shown 3 5", "shown 4 0", "shown 4 HIGH");
        due(Checks.BAD, "tells 5", "send 5", "send -2", "queue -2", "parted 0 0", "parted 3 3", "parted 0 4", "parted 4 4", "parted -1 0");
        due(Checks.NONE, "send 0", "send 1", "send 2", "send 3", "queue 2", "queue HIGH");
        due(Checks.BAD, "see 5 0", "see 4 4", "see -1 0", "see 0 -1", "habits 2", "habits -1", "wants 5", "wants -1");
        due(Checks.FULL, "see 4 0", "see 0 0", "see 4 1", "keep");
        due(Checks.NO, "wants 0", "wants 1", "wants 2", "missed 0 5 0", "missed 1 0 0", "missed 2 10 1");
        due(Checks.BAD, "missed 5 5 0", "missed 0 11 0", "missed 3 -1 0", "missed 0 5 2", "missed 3 5 -1");
        due(Checks.BAD, "season -1 1 0", "season 10000 1 0", "season 0 0 0", "season 0 61 0", "season 0 1 2", "season 0 1 -1", "count 13", "count -1");
    }

    private static void withNothing() {
        from("", "", "");
        due(Checks.NO, "undo", "back", "lay");
        due(Checks.NONE, "fault", "shown 0 0", "fewest 0 0 2", "fewest 0 0 3", "fewest 0 2 1", "queue 4");
        due(0, "wipe", "forget");
        from("w1,a;w1,a;a0,1,9;", "see 0 1", "");
        due(Checks.NONE, "habits 1", "fewest 0 1 0", "fewest 0 1 3");
        due(0, "habits 0", "most");
        from("w1,a;w2,b;a0,1,9;", "show 0 8", "");
        due(Checks.NONE, "next 0", "fewest 0 0 0");
        from("x0;x1;x2;x3;x4;x5;x6;x7;x8;w1,a;a0,0,9;", "", "");
        due(Checks.NONE, "tells 0");
        from("w1,a;a0,0,9;", "", "");
        due(Checks.BAD, "change 0 0", "change 0 1", "parted 0 0", "parted 0 1");
    }

    /** What is written is another post, and cannot be laid: the one that stands stays as it is. */
    private static void textsThatCannotBeLaid() {
        String[] texts = {"w9,f;", "x0;r9;h5,4;", "a0,0,0;", "w9,f;a3,0,99;a", "w9,f;a3,0,99;r10;", "w9,f;w9,f;l01;x7;x8;h5,4;r9;a3,1,99;a3,1,99;?", ";"};
        for (String each : texts) {
            from("", MIDDLE, each);
            due(Checks.NO, "lay");
            due(Checks.BAD, "write 10");
            asks("fault");
        }
        from("", MIDDLE, "w9,f;w9,f;l01;x7;x8;h5,4;r9;a3,1,99;a3,1,99;");
        due(Checks.NONE, "fault");
        from("", "show 0 0", "r9;".repeat(66) + "r9");
        due(Checks.FULL, "write 59", "write 119", "write 32", "write 126");
        due(Checks.BAD, "write 31", "write 127", "write LOW");
    }

    private static void type(CharadePost x, String letters) {
        x.wipe();
        for (char c : letters.toCharArray()) {
            x.write(c);
        }
    }

    /** Of what was laid, or read for its FAULT alone, ahead of the post that stands now, nothing is left. */
    private static void laidOverOthers() {
        String[] posts = {"w1,a;a0,0,9;", "w3,b;w2,ca;l1;a2,1,5;a0,0,7;", "w9,f;".repeat(3) + "h2,2;r1;x0;l02;a1,2,3;",
            "x0;x1;x2;x3;x4;x5;x6;x7;x8;w1,a;w2,b;a0,0,9;"};
        String spoilt = "w9,abc;w9,d;l0;l01;l1;x0;x6;x9;h5,4;r9;a3,1,99;a2,0,77;a1,1,55;?";
        for (String post : posts) {
            from(post, "", "");
            for (int times = 1; times <= 3; times++) {
                for (String view : VIEWS) {
                    CharadePost asked = Checks.run("made", ALL_STANDINGS, TO_ALL_STANDINGS + "; fewest 4 0 0 = 1");
                    for (int n = 0; n < times; n++) {
                        if (n == 1) {
                            type(asked, spoilt);
                            Checks.due("FAULT", spoilt, asked.fault(), spoilt.length() - 1);
                        }
                        type(asked, post);
                        asked.lay();
                    }
                    alike("what was laid ahead of it", asked, made(), view);
                }
            }
        }
    }

    private static void whatOnlyAsks() {
        String[] calls = {"fault", "word 0 0", "forbidden 0", "actor 0 5", "shown 0 0", "weight 0 0", "likely 0 0 1", "next 0", "next 3", "fewest 0 1 0",
            "fewest 3 2 1", "fewest 4 0 0", "tells 0", "tells 3", "tells 4", "send -1", "send 0", "send 4", "queue -1", "queue 0", "queue 1", "parted 0 1",
            "most", "habits 0", "habits 1", "wants 0", "wants 3", "wants 4", "missed 0 5 0", "missed 3 5 1", "season 0 1 0", "season 7 60 1", "season 9999 60 0",
            "count 8"};
        from(ALL_STANDINGS, TO_ALL_STANDINGS, "");
        asks(calls);
        from("", MIDDLE, "w9,f;w9,f;l01;x7;x8;h5,4;r9;a3,1,99;a3,1,99;");
        asks(calls);
        from("", "", "");
        asks(calls);
        from("w1,a;".repeat(8) + "l0;".repeat(6) + "a0,0,0;".repeat(5), "", "");
        asks(calls);
    }

    public static void main(String[] args) {
        numbersThatAreNoneEverywhere();
        inAllStandings();
        withNothing();
        textsThatCannotBeLaid();
        laidOverOthers();
        whatOnlyAsks();
        Checks.finish("RefusalTests");
    }
}
