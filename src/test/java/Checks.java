/**
 * What the tests share: posts laid from a text, and runs of calls told as a text, each with the answer that is due:
 * "show 0 9 = 1; guess 0 = NONE; undo". LOW and HIGH are the lowest and the highest int.
 */
final class Checks {
    static final int BAD = -1, NO = -2, FULL = -3, NONE = -4;
    static final int LOW = Integer.MIN_VALUE, HIGH = Integer.MAX_VALUE;
    private static final int MOST_CALLS = 512, MOST_TOLD = 40;
    private static int made = 0;
    private static int wrong = 0;

    private Checks() {
    }

    /** Where: the promise, or the words of the document that are tested. */
    static void due(String where, String call, long got, long want) {
        made++;
        if (got != want) {
            fail(where, call + " answered " + got + ", due is " + want);
        }
    }

    static void fail(String where, String what) {
        wrong++;
        if (wrong <= MOST_TOLD) {
            System.out.println(where + ": " + what);
        }
    }

    /** How many answers were held against what is due so far. */
    static int made() {
        return made;
    }

    static CharadePost written(String text) {
        CharadePost x = new CharadePost();
        for (int i = 0; i < text.length(); i++) {
            x.write(text.charAt(i));
        }
        return x;
    }

    /** The first post of the document, if the text is empty. */
    static CharadePost laid(String text) {
        CharadePost x = written(text);
        if (!text.isEmpty() && x.lay() < 1) {
            fail("laid", "could not be laid: " + text);
        }
        return x;
    }

    /** Makes the calls one behind the other on a new post; those with a = must answer what stands behind it. */
    static CharadePost run(String where, String text, String steps) {
        CharadePost x = laid(text);
        int calls = text.isEmpty() ? 0 : text.length() + 1;
        for (String step : steps.split(";")) {
            if (!step.isBlank()) {
                String[] sides = step.split("=");
                int got = call(x, sides[0].trim());
                calls++;
                if (sides.length > 1) {
                    due(where, "[" + text + "] " + sides[0].trim(), got, number(sides[1].trim()));
                }
            }
        }
        if (calls > MOST_CALLS) {
            fail(where, "a run of " + calls + " calls");
        }
        return x;
    }

    static int number(String told) {
        switch (told) {
            case "BAD": return BAD;
            case "NO": return NO;
            case "FULL": return FULL;
            case "NONE": return NONE;
            case "LOW": return LOW;
            case "HIGH": return HIGH;
            default: return Integer.parseInt(told);
        }
    }

    /** One call, told as "show 0 9". */
    static int call(CharadePost x, String told) {
        String[] words = told.split(" +");
        int[] n = new int[3];
        for (int i = 1; i < words.length; i++) {
            n[i - 1] = number(words[i]);
        }
        switch (words[0] + (words.length - 1)) {
            case "write1": return x.write(n[0]);
            case "wipe0": return x.wipe();
            case "fault0": return x.fault();
            case "lay0": return x.lay();
            case "word2": return x.word(n[0], n[1]);
            case "forbidden1": return x.forbidden(n[0]);
            case "actor2": return x.actor(n[0], n[1]);
            case "shown2": return x.shown(n[0], n[1]);
            case "show2": return x.show(n[0], n[1]);
            case "guess1": return x.guess(n[0]);
            case "change2": return x.change(n[0], n[1]);
            case "undo0": return x.undo();
            case "weight2": return x.weight(n[0], n[1]);
            case "likely3": return x.likely(n[0], n[1], n[2]);
            case "next1": return x.next(n[0]);
            case "fewest3": return x.fewest(n[0], n[1], n[2]);
            case "tells1": return x.tells(n[0]);
            case "send1": return x.send(n[0]);
            case "queue1": return x.queue(n[0]);
            case "parted2": return x.parted(n[0], n[1]);
            case "most0": return x.most();
            case "see2": return x.see(n[0], n[1]);
            case "forget0": return x.forget();
            case "habits1": return x.habits(n[0]);
            case "wants1": return x.wants(n[0]);
            case "missed3": return x.missed(n[0], n[1], n[2]);
            case "season3": return x.season(n[0], n[1], n[2]);
            case "keep0": return x.keep();
            case "back0": return x.back();
            case "count1": return x.count(n[0]);
            default: throw new IllegalArgumentException("no such call: " + told);
        }
    }

    /** What a test's main ends with. */
    static void finish(String name) {
        System.out.println(name + ": " + made + " answers, " + wrong + " wrong");
        if (made == 0 || wrong > 0) {
            System.exit(1);
        }
    }
}
