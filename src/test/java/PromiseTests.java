/**
 * What the document promises, promise by promise, on small posts that can be reckoned by hand.
 * Every line that fails tells its promise.
 */
public final class PromiseTests {
    private static final int BAD = Checks.BAD, NO = Checks.NO, FULL = Checks.FULL, NONE = Checks.NONE;
    private static final int LOW = Checks.LOW, HIGH = Checks.HIGH;
    /** Two words that a part, a likeness or a length can tell; the heavier is the one not acted for. */
    private static final String TWO = "w2,a;w3,bc;l0;h3,2;r2;a0,0,50;";

    private static void due(int promise, String call, long got, long want) {
        Checks.due("promise " + promise, call, got, want);
    }

    private static CharadePost written(String text) {
        return Checks.written(text);
    }

    private static CharadePost laid(String text) {
        return Checks.laid(text);
    }

    private static void newObject() {
        CharadePost x = new CharadePost();
        int[] counts = {6, 13, 4, 2, 4, 0, 0, 0, 0, 0, 0, 0, 0};
        for (int what = 0; what < counts.length; what++) {
            due(1, "count " + what, x.count(what), counts[what]);
        }
        int[][] words = {{5, 2, 3, 1}, {3, 3, 7, 1}, {7, 1, 8, 10}, {2, 2, 24, 2}, {4, 2, 33, 4}, {6, 1, 4, 8}};
        for (int w = 0; w < words.length; w++) {
            for (int what = 0; what < 4; what++) {
                due(1, "word " + w + " " + what, x.word(w, what), words[w][what]);
            }
        }
        int[][] actors = {{0, 0, 20}, {1, 3, 9}, {2, 4, 30}, {3, 1, 15}};
        for (int a = 0; a < actors.length; a++) {
            for (int what = 0; what < 6; what++) {
                due(1, "actor " + a + " " + what, x.actor(a, what), what < 3 ? actors[a][what] : 0);
            }
        }
        for (int s = 0; s < 13; s++) {
            due(1, "forbidden " + s, x.forbidden(s), s == 7 ? 1 : 0);
        }
        due(1, "undo", x.undo(), NO);
        due(1, "back", x.back(), NO);
        due(1, "BAD", CharadePost.BAD, BAD);
        due(1, "NO", CharadePost.NO, NO);
        due(1, "FULL", CharadePost.FULL, FULL);
        due(1, "NONE", CharadePost.NONE, NONE);
    }

    private static void firstOfficerAndPrice() {
        CharadePost x = new CharadePost();
        x.show(0, 0);
        due(1, "a part by 2", x.weight(0, 0), 10);
        x.show(0, 9);
        due(1, "a likeness by 3", x.weight(0, 0), 30);
        due(1, "guessed", x.guess(0), 0);
        due(1, "two signs by 2 coins", x.actor(0, 2), 16);
    }

    private static void write() {
        CharadePost x = new CharadePost();
        due(2, "write 31", x.write(31), BAD);
        due(2, "write 127", x.write(127), BAD);
        due(2, "write low", x.write(LOW), BAD);
        due(2, "write high", x.write(HIGH), BAD);
        due(2, "none of them came", x.count(12), 0);
        due(2, "write 32", x.write(32), 1);
        due(2, "write 126", x.write(126), 2);
        for (int n = 3; n <= 200; n++) {
            due(2, "write letter " + n, x.write('w'), n);
        }
        due(2, "write a 201st", x.write('w'), FULL);
        due(2, "bad ahead of full", x.write(10), BAD);
        due(2, "still 200", x.count(12), 200);
        due(2, "the officer's post is as it was", x.count(0), 6);
    }

    private static void wipe() {
        CharadePost x = new CharadePost();
        due(3, "wipe nothing", x.wipe(), 0);
        x.write('w');
        x.write('?');
        due(3, "wipe two", x.wipe(), 2);
        due(3, "wiped", x.count(12), 0);
        due(3, "wipe again", x.wipe(), 0);
        due(3, "no fault is left", x.fault(), NONE);
        due(3, "write begins anew", x.write('w'), 1);
        due(3, "the post stays", x.count(2), 4);
    }

    private static void fault(String text, int place) {
        CharadePost x = written(text);
        due(4, "fault of " + text, x.fault(), place);
        due(4, "fault of it once more", x.fault(), place);
        due(4, "nothing is laid by it", x.count(0), 6);
    }

    private static void faultsOfWords() {
        fault("", NONE);
        fault("w1,a;", NONE);
        fault("w9,fff;", NONE);
        fault("w09,abc;", NONE);
        fault("w0,a;", 0);
        fault("w10,a;", 0);
        fault("w009,a;", 0);
        fault("w1,;", 0);
        fault("w1,abcd;", 0);
        fault("w1,g;", 0);
        fault("w1,A;", 0);
        fault("w1,a", 0);
        fault("w1;", 0);
        fault("w,a;", 0);
        fault("w1,a,;", 0);
        fault("w 1,a;", 0);
        fault(" w1,a;", 0);
        fault("w1,a; w1,a;", 5);
        fault("w1,a;;", 5);
        fault("w1,a;k;", 5);
        fault("w1,a;w1,b", 5);
        fault("w1,a;w1,b;w", 10);
        fault("w1,a;w1,a;w1,a;w1,a;w1,a;w1,a;w1,a;w1,a;", NONE);
        fault("w1,a;w1,a;w1,a;w1,a;w1,a;w1,a;w1,a;w1,a;w1,a;x99;", 40);
    }

    private static void faultsOfOthers() {
        fault("l0;", 0);
        fault("w1,a;l0;", NONE);
        fault("w1,a;l1;", 5);
        fault("w1,a;w1,b;l10;", NONE);
        fault("w1,a;w1,b;l00;", 10);
        fault("w1,a;w1,b;l0,1;", 10);
        fault("w1,a;l;", 5);
        fault("w1,a;l0", 5);
        fault("w1,a;l0;l0;l0;l0;l0;l0;", NONE);
        fault("w1,a;l0;l0;l0;l0;l0;l0;l0;", 23);
        fault("x0;x14;x00;x0;", NONE);
        fault("x15;", 0);
        fault("x;", 0);
        fault("x0;x-1;", 3);
        fault("x1,2;", 0);
        fault("h2,1;h5,4;h02,04;", NONE);
        fault("h1,1;", 0);
        fault("h6,1;", 0);
        fault("h2,0;", 0);
        fault("h2,5;", 0);
        fault("h2;", 0);
        fault("h2,1", 0);
        fault("r0;r9;r09;", NONE);
        fault("r10;", 0);
        fault("r;", 0);
        fault("r1,1;", 0);
    }

    private static void faultsOfActors() {
        fault("a0,0,0;", 0);
        fault("w1,a;a0,0,0;a3,00,99;", NONE);
        fault("w1,a;a4,0,0;", 5);
        fault("w1,a;a0,1,0;", 5);
        fault("w1,a;a0,1,0;w1,b;", 5);
        fault("w1,a;a0,0,100;", 5);
        fault("w1,a;a0,0;", 5);
        fault("w1,a;a0,0,;", 5);
        fault("w1,a;a0,0,1", 5);
        fault("w1,a;a0,0,1,1;", 5);
        fault("w1,a;a0,0,1;a0,0,1;a0,0,1;a0,0,1;a0,0,1;", NONE);
        fault("w1,a;a0,0,1;a0,0,1;a0,0,1;a0,0,1;a0,0,1;a0,0,1;", 40);
    }

    private static void lay() {
        CharadePost x = written("w1,a;");
        due(5, "no actor", x.lay(), NO);
        due(5, "the old post stays", x.count(0), 6);
        due(5, "nothing written", new CharadePost().lay(), NO);
        due(5, "a fault behind", written("w1,a;a0,0,1;a").lay(), NO);
        x = written("w1,a;w2,b;l01;x9;x14;h5,4;r7;a1,1,30;a0,0,4;");
        x.show(0, 0);
        x.keep();
        x.see(0, 0);
        due(5, "two actors", x.lay(), 2);
        int[] counts = {2, 10, 2, 7, 2, 0, 0, 0, 0, 0, 0, 0, 44};
        for (int what = 0; what < counts.length; what++) {
            due(5, "count " + what, x.count(what), counts[what]);
        }
        due(5, "forbidden likeness", x.forbidden(9), 1);
        due(5, "no more", x.forbidden(7), 0);
        due(5, "undo", x.undo(), NO);
        due(5, "back", x.back(), NO);
        x.show(1, 0);
        x.guess(1);
        due(5, "lay once more", x.lay(), 2);
        due(5, "nothing shown", x.actor(1, 3), 0);
        due(5, "waits", x.actor(1, 5), 0);
        due(5, "nothing guessed", x.actor(1, 4), 0);
    }

    private static void layDefaultsAndLast() {
        CharadePost x = laid("w1,a;h5,4;h2,3;r1;r8;a0,0,9;");
        x.show(0, 0);
        due(5, "the last habit counts", x.weight(0, 0), 3);
        due(5, "the last price counts", x.count(3), 8);
        x = laid("w1,a;l0;a0,0,9;");
        x.show(0, 0);
        due(5, "a part by 2 without", x.weight(0, 0), 2);
        x.show(0, 9);
        due(5, "a likeness by 3 without", x.weight(0, 0), 6);
        due(5, "a sign costs 2 without", x.count(3), 2);
        due(5, "none forbidden", x.forbidden(7), 0);
        x = laid("w1,a;r4;h4,4;a0,0,9;");
        x.wipe();
        for (char c : "w1,a;a0,0,9;".toCharArray()) {
            x.write(c);
        }
        x.lay();
        due(5, "an earlier price is gone", x.count(3), 2);
        x.show(0, 0);
        due(5, "an earlier habit is gone", x.weight(0, 0), 2);
    }

    private static void word() {
        CharadePost x = laid("w9,aab;w1,fff;l1;l01;l0;a0,0,1;");
        due(6, "common", x.word(0, 0), 9);
        due(6, "how many parts, alike ones too", x.word(1, 1), 3);
        due(6, "parts as bits", x.word(0, 2), 3);
        due(6, "part f", x.word(1, 2), 32);
        due(6, "likenesses", x.word(0, 3), 6);
        due(6, "likenesses of the other", x.word(1, 3), 3);
        due(6, "what 4", x.word(0, 4), BAD);
        due(6, "what -1", x.word(0, -1), BAD);
        due(6, "word 2", x.word(2, 0), BAD);
        due(6, "word -1", x.word(-1, 0), BAD);
        due(6, "word high", x.word(HIGH, HIGH), BAD);
    }

    private static void forbidden() {
        CharadePost x = laid("x9;x10;x0;w1,a;l0;a0,0,1;");
        due(7, "told ahead of its likeness", x.forbidden(9), 1);
        due(7, "part", x.forbidden(0), 1);
        due(7, "not told", x.forbidden(1), 0);
        due(7, "no such sign, though told", x.forbidden(10), BAD);
        due(7, "sign -1", x.forbidden(-1), BAD);
        due(7, "low", x.forbidden(LOW), BAD);
    }

    private static void actor() {
        CharadePost x = laid("w9,a;w5,b;w2,c;w1,d;l0123;r3;a2,1,47;a3,3,0;");
        due(8, "kind", x.actor(0, 0), 2);
        due(8, "acts for", x.actor(0, 1), 1);
        due(8, "coins", x.actor(0, 2), 47);
        due(8, "coins 0", x.actor(1, 2), 0);
        x.show(0, 9);
        x.guess(0);
        due(8, "shown", x.actor(0, 3), 1);
        due(8, "guessed", x.actor(0, 4), 1);
        due(8, "waits", x.actor(0, 5), 0);
        x.guess(0);
        due(8, "what is right is not among the wrong ones", x.actor(0, 4), 1);
        due(8, "through", x.actor(0, 5), 1);
        due(8, "has paid", x.actor(0, 2), 44);
        due(8, "what 6", x.actor(0, 6), BAD);
        due(8, "what -1", x.actor(0, -1), BAD);
        due(8, "actor 2", x.actor(2, 0), BAD);
        due(8, "actor -1", x.actor(-1, 0), BAD);
        due(8, "actor high", x.actor(HIGH, LOW), BAD);
    }

    private static void shown() {
        CharadePost x = laid(TWO);
        due(9, "none yet", x.shown(0, 0), NONE);
        x.show(0, 5);
        x.show(0, 0);
        x.show(0, 5);
        due(9, "first", x.shown(0, 0), 5);
        due(9, "second", x.shown(0, 1), 0);
        due(9, "third, alike", x.shown(0, 2), 5);
        due(9, "fourth", x.shown(0, 3), NONE);
        due(9, "far behind", x.shown(0, HIGH), NONE);
        due(9, "k -1", x.shown(0, -1), BAD);
        due(9, "actor 1", x.shown(1, 0), BAD);
        x.guess(0);
        due(9, "through, and still told", x.shown(0, 0), 5);
    }

    private static void show() {
        CharadePost x = laid("w1,a;w1,b;x3;a0,0,50;a0,0,50;");
        due(10, "sign 9 is none", x.show(0, 9), BAD);
        due(10, "sign -1", x.show(0, -1), BAD);
        due(10, "actor 2", x.show(2, 0), BAD);
        due(10, "actor -1", x.show(-1, 0), BAD);
        for (int n = 1; n <= 5; n++) {
            due(10, "show", x.show(0, 0), 1);
            due(10, "shown", x.actor(0, 3), n);
        }
        due(10, "a sixth", x.show(0, 0), NO);
        due(10, "a forbidden sixth", x.show(0, 3), NO);
        due(10, "still waits", x.actor(0, 5), 0);
        due(10, "bad ahead of no", x.show(0, 9), BAD);
        due(10, "five acts to undo", x.count(10), 5);
        x.show(1, 1);
        due(10, "forbidden", x.show(1, 3), 0);
        due(10, "seized", x.actor(1, 5), 3);
        due(10, "the sign is not shown", x.actor(1, 3), 1);
        due(10, "one who is seized", x.show(1, 0), NO);
        x.guess(0);
        due(10, "one who is through", x.show(0, 0), NO);
    }

    private static void guess() {
        CharadePost x = laid("w2,a;w3,b;w3,c;w1,d;r4;a0,3,99;a0,1,7;a0,1,8;a0,2,0;");
        due(11, "the heaviest, of several the lowest", x.guess(0), 1);
        due(11, "not that one again", x.guess(0), 2);
        due(11, "he waits by the second", x.actor(0, 5), 0);
        due(11, "the third", x.guess(0), 0);
        due(11, "sent back by the third", x.actor(0, 5), 2);
        due(11, "guessed at him", x.actor(0, 4), 7);
        due(11, "no more", x.guess(0), NO);
        x.show(1, 1);
        x.show(1, 1);
        due(11, "right, but too dear", x.guess(1), 1);
        due(11, "sent back", x.actor(1, 5), 2);
        due(11, "keeps his coins", x.actor(1, 2), 7);
        due(11, "nothing wrong was guessed", x.actor(1, 4), 0);
        x.show(2, 1);
        x.show(2, 1);
        due(11, "right, and just enough", x.guess(2), 1);
        due(11, "through", x.actor(2, 5), 1);
        due(11, "has paid all", x.actor(2, 2), 0);
        x.guess(3);
        due(11, "without signs nothing is paid", x.guess(3), 2);
        due(11, "through for nothing", x.actor(3, 5), 1);
        due(11, "actor 4", x.guess(4), BAD);
        due(11, "actor -1", x.guess(-1), BAD);
        x = laid(TWO);
        x.show(0, 8);
        due(11, "no word has any weight", x.guess(0), NONE);
        due(11, "sent back", x.actor(0, 5), 2);
        due(11, "that can be undone", x.undo(), 1);
        due(11, "and he waits", x.actor(0, 5), 0);
    }

    private static void change() {
        CharadePost x = laid("w2,a;w3,b;w5,c;a0,0,50;a1,1,20;a2,2,30;");
        x.guess(0);
        due(12, "for what the first one acts then", x.change(0, 1), 1);
        due(12, "the second", x.actor(1, 1), 0);
        due(12, "what was guessed stays with him", x.actor(0, 4), 4);
        due(12, "and not with the other", x.actor(1, 4), 0);
        due(12, "coins stay", x.actor(0, 2), 50);
        due(12, "kinds stay", x.actor(0, 0), 0);
        due(12, "alike", x.change(1, 1), BAD);
        due(12, "actor 3", x.change(0, 3), BAD);
        due(12, "actor -1", x.change(-1, 0), BAD);
        x.show(2, 0);
        due(12, "the second has shown", x.change(0, 2), NO);
        due(12, "the first has shown", x.change(2, 0), NO);
        due(12, "alike ahead of no", x.change(2, 2), BAD);
        x.guess(1);
        x.guess(1);
        due(12, "one who is through", x.guess(1), 0);
        due(12, "first does not wait", x.change(1, 0), NO);
        due(12, "second does not wait", x.change(0, 1), NO);
    }

    private static void undo() {
        CharadePost x = new CharadePost();
        due(13, "nothing", x.undo(), NO);
        x.show(0, 0);
        due(13, "one show", x.undo(), 0);
        due(13, "not shown", x.actor(0, 3), 0);
        due(13, "no more", x.undo(), NO);
        x.change(0, 1);
        x.show(2, 7);
        x.guess(0);
        x.show(0, 9);
        due(13, "of four", x.undo(), 3);
        due(13, "a guess", x.undo(), 2);
        due(13, "nothing guessed", x.actor(0, 4), 0);
        due(13, "a seizure", x.undo(), 1);
        due(13, "he waits", x.actor(2, 5), 0);
        due(13, "a change", x.undo(), 0);
        due(13, "acts for his own", x.actor(0, 1), 0);
        for (int n = 1; n <= 9; n++) {
            x.show(n % 2, n % 6);
        }
        due(13, "eight can be", x.count(10), 8);
        for (int left = 7; left >= 0; left--) {
            due(13, "undo of nine", x.undo(), left);
        }
        due(13, "the ninth cannot", x.undo(), NO);
        due(13, "the first show stands", x.shown(1, 0), 1);
        due(13, "no other does", x.count(8), 1);
    }

    private static void undoStepByStep() {
        CharadePost x = new CharadePost();
        for (int n = 0; n < 5; n++) {
            x.show(0, n);
            x.show(3, n + 1);
        }
        for (int signs = 9; signs >= 2; signs--) {
            x.undo();
            due(13, "signs of the first after " + (10 - signs), x.actor(0, 3), (signs + 1) / 2);
            due(13, "signs of the last after " + (10 - signs), x.actor(3, 3), signs / 2);
            due(13, "his latest sign", x.shown(3, signs / 2 - 1), signs / 2);
        }
        due(13, "the two first ones stay", x.undo(), NO);
    }

    private static void undoOfPay() {
        CharadePost x = laid("w2,a;r3;a0,0,9;");
        x.show(0, 0);
        x.guess(0);
        due(13, "paid", x.actor(0, 2), 6);
        x.undo();
        due(13, "coins again", x.actor(0, 2), 9);
        due(13, "waits again", x.actor(0, 5), 0);
        x.show(0, 9);
        x.guess(1);
        x.change(0, 0);
        due(13, "what could not be cannot be undone", x.count(10), 1);
    }

    private static void weight() {
        CharadePost x = new CharadePost();
        due(14, "common alone", x.weight(0, 2), 7);
        x.show(0, 0);
        due(14, "plain: part a", x.weight(0, 4), 8);
        due(14, "plain: without", x.weight(0, 2), 7);
        x.show(0, 0);
        due(14, "once more", x.weight(0, 4), 16);
        x.show(1, 0);
        due(14, "child: part b for a", x.weight(1, 4), 4);
        due(14, "child: part b", x.weight(1, 0), 10);
        x.show(1, 5);
        due(14, "child: a behind f", x.weight(1, 4), 8);
        x.show(1, 6);
        due(14, "of one part", x.weight(1, 2), 7);
        due(14, "of two parts", x.weight(1, 0), 0);
        x.show(2, 0);
        due(14, "smuggler: part", x.weight(2, 1), 12);
        x.show(2, 9);
        due(14, "smuggler: likeness", x.weight(2, 1), 108);
        x.show(2, 8);
        due(14, "smuggler: length", x.weight(2, 1), 108);
        x.show(3, 9);
        due(14, "old hand: likeness by A and 1", x.weight(3, 0), 20);
        due(14, "old hand: others by 1", x.weight(3, 2), 7);
        x.show(3, 2);
        due(14, "old hand: part", x.weight(3, 5), 12);
        due(14, "a wrong guess", x.guess(1), 2);
        due(14, "guessed at him", x.weight(1, 2), 0);
        due(14, "not at another", x.weight(3, 2), 7);
        due(14, "actor 4", x.weight(4, 0), BAD);
        due(14, "actor -1", x.weight(-1, 0), BAD);
        due(14, "word 6", x.weight(0, 6), BAD);
        due(14, "word -1", x.weight(0, -1), BAD);
    }

    private static void weightOfThoseWhoAreGone() {
        CharadePost x = laid("w9,aaa;w8,f;h5,4;l0;r0;a2,0,0;a1,0,0;");
        x.show(1, 4);
        due(14, "child: e shows f", x.weight(1, 1), 32);
        due(14, "a part told thrice counts once", x.weight(0, 0), 9);
        for (int n = 0; n < 5; n++) {
            x.show(0, 9);
        }
        due(14, "the largest", x.weight(0, 0), 9 * 25 * 25 * 25 * 25 * 25);
        due(14, "guessed", x.guess(0), 0);
        due(14, "of one who is through", x.weight(0, 0), 9 * 25 * 25 * 25 * 25 * 25);
    }

    private static void likely() {
        CharadePost x = laid("w2,a;w4,b;w6,cc;a0,0,20;");
        due(15, "above", x.likely(0, 0, 0), 2);
        due(15, "below", x.likely(0, 0, 1), 12);
        x.show(0, 6);
        due(15, "without the long one", x.likely(0, 1, 1), 6);
        due(15, "one of no weight", x.likely(0, 2, 0), 0);
        due(15, "below that", x.likely(0, 2, 1), 6);
        x.show(0, 7);
        due(15, "no weight at all", x.likely(0, 0, 0), 0);
        due(15, "by 1", x.likely(0, 0, 1), 1);
        x.guess(0);
        due(15, "of one sent back", x.likely(0, 1, 1), 1);
        due(15, "part 2", x.likely(0, 0, 2), BAD);
        due(15, "part -1", x.likely(0, 0, -1), BAD);
        due(15, "actor 1", x.likely(1, 0, 0), BAD);
        due(15, "word 3", x.likely(0, 3, 0), BAD);
        due(15, "word -1", x.likely(0, -1, 0), BAD);
    }

    private static void next() {
        CharadePost x = laid("w2,a;w3,b;w3,c;r0;a0,2,0;");
        due(16, "of several the lowest", x.next(0), 1);
        x.show(0, 0);
        due(16, "by what he shows", x.next(0), 0);
        x.guess(0);
        due(16, "not what was guessed", x.next(0), 1);
        x.show(0, 8);
        due(16, "none", x.next(0), NONE);
        due(16, "he waits still", x.actor(0, 5), 0);
        x.guess(0);
        due(16, "he is sent back", x.next(0), NO);
        due(16, "actor 1", x.next(1), BAD);
        due(16, "actor -1", x.next(-1), BAD);
    }

    private static void fewestRow(CharadePost x, int a, int w, int... signs) {
        String call = "fewest " + a + " " + w + " ";
        due(17, call + "how many", x.fewest(a, w, 0), signs.length);
        for (int k = 1; k <= 3; k++) {
            due(17, call + k, x.fewest(a, w, k), k <= signs.length ? signs[k - 1] : NONE);
        }
    }

    private static void fewest() {
        CharadePost x = new CharadePost();
        fewestRow(x, 0, 2);
        fewestRow(x, 0, 0, 0);
        fewestRow(x, 0, 3, 4, 4);
        fewestRow(x, 1, 3, 3, 3);
        fewestRow(x, 0, 1, 8);
        fewestRow(x, 3, 4, 5);
        x = laid("w1,aa;w9,ab;h5,2;a0,0,1;a1,0,1;a2,0,1;x6;x7;x8;");
        due(17, "a is in both", x.fewest(0, 0, 0), NONE);
        due(17, "the k-th of none", x.fewest(0, 0, 1), NONE);
        x = laid("w1,c;w7,ab;x6;x7;x8;a0,0,1;");
        fewestRow(x, 0, 0, 2, 2, 2);
        x.show(0, 2);
        fewestRow(x, 0, 0, 2, 2);
        x.show(0, 1);
        fewestRow(x, 0, 0, 2, 2, 2);
        x.show(0, 1);
        due(17, "three more would be six", x.fewest(0, 0, 0), NONE);
        x.undo();
        x.show(0, 2);
        fewestRow(x, 0, 0, 2, 2);
        due(17, "k 4", x.fewest(0, 0, 4), BAD);
        due(17, "k -1", x.fewest(0, 0, -1), BAD);
        due(17, "actor 1", x.fewest(1, 0, 0), BAD);
        due(17, "word 2", x.fewest(0, 2, 0), BAD);
        x.show(0, 2);
        x.show(0, 2);
        due(17, "he can show no more", x.actor(0, 3), 5);
        fewestRow(x, 0, 0);
        due(17, "no row for the other", x.fewest(0, 1, 0), NONE);
        x.guess(0);
        due(17, "he does not wait", x.fewest(0, 0, 0), NO);
        due(17, "bad ahead of no", x.fewest(0, 0, 4), BAD);
    }

    private static void fewestFirst() {
        CharadePost x = laid("w1,bc;w3,b;w3,c;w3,da;x7;a0,0,1;l0;x9;");
        due(17, "no row without 7 and 9", x.fewest(0, 0, 0), NONE);
        x = laid("w1,bc;w3,b;w3,c;w3,da;a0,0,1;");
        fewestRow(x, 0, 0, 1, 1, 7);
        x = laid("w1,bc;w3,b;w3,c;w3,da;l0;h4,2;a0,0,1;");
        fewestRow(x, 0, 0, 9);
        x = laid("w4,ab;w9,cd;w5,a;x8;a0,0,1;a0,1,1;");
        fewestRow(x, 0, 0, 0, 1);
        x.guess(0);
        fewestRow(x, 0, 0, 1);
        due(17, "a word that was guessed", x.fewest(0, 1, 0), NONE);
        x.change(0, 1);
        due(17, "though he acts for it", x.fewest(0, 1, 0), NONE);
    }

    private static void tells() {
        CharadePost x = new CharadePost();
        due(18, "a likeness", x.tells(0), 9);
        due(18, "a child's part", x.tells(1), 3);
        due(18, "an own likeness", x.tells(2), 11);
        due(18, "a length", x.tells(3), 8);
        x = laid("w2,a;w3,bc;h2,2;l0;a0,0,50;a0,1,50;x6;x7;");
        due(18, "of several the lowest", x.tells(0), 0);
        due(18, "and of the other", x.tells(1), 1);
        for (int n = 0; n < 4; n++) {
            x.show(0, 0);
        }
        due(18, "a fifth", x.tells(0), 0);
        x.show(0, 0);
        due(18, "five are shown", x.tells(0), NONE);
        x.guess(0);
        due(18, "he does not wait", x.tells(0), NO);
        due(18, "actor 2", x.tells(2), BAD);
        due(18, "actor -1", x.tells(-1), BAD);
        x = laid("w2,a;w3,bc;a0,0,5;x0;x2;");
        x.show(0, 7);
        due(18, "no weight by any: the lowest that is not forbidden", x.tells(0), 1);
        x = laid("x0;x1;x2;x3;x4;x5;x6;x7;x8;w2,a;a0,0,5;");
        due(18, "all are forbidden", x.tells(0), NONE);
        x = laid("w2,a;w3,ab;h2,3;l0;a0,0,50;x6;x7;");
        due(18, "a likeness to it alone", x.tells(0), 9);
    }

    private static void tellsByFractions() {
        CharadePost x = laid("x0;x1;x2;x3;x4;x5;w3,ab;w2,ab;a0,1,5;a0,0,5;");
        due(18, "the first sign takes all weight, the second does not", x.tells(0), 7);
        due(18, "nor of the other", x.tells(1), 7);
        x = laid("w1,ab;w1,a;h3,4;a0,0,9;");
        due(18, "1 of 1 is above 4 of 5", x.tells(0), 7);
        x = laid("w1,ab;w1,ac;w5,d;h3,4;a0,0,9;x1;");
        due(18, "1 of 2 is above 4 of 13", x.tells(0), 7);
        x = laid("w1,ab;w1,ac;w5,d;h3,4;a0,0,9;x1;x7;");
        due(18, "4 of 13", x.tells(0), 0);
        x = laid("w9,aa;w9,bb;w9,cc;h5,4;l1;l0;a2,0,9;x6;x7;x8;");
        due(18, "a smuggler's likeness is above his part", x.tells(0), 10);
        x.guess(0);
        x.change(0, 0);
        due(18, "through", x.tells(0), NO);
        x = laid("w2,a;w9,b;w1,c;a0,1,9;a0,2,9;x0;x6;");
        x.guess(1);
        due(18, "what was guessed weighs nothing", x.tells(1), 2);
        x.change(0, 1);
        due(18, "he acts for what was guessed at him: the lowest", x.tells(1), 1);
    }

    /** 15 signs are the most that there can be, and three of the last one is the last row of all. */
    private static void sixLikenesses() {
        CharadePost x = laid("w9,a;w9,a;w1,a;l01;l01;l01;l01;l01;l2;h2,1;a0,2,9;a1,2,9;a3,2,9;x0;");
        due(31, "15 signs", x.count(1), 15);
        due(6, "in the sixth", x.word(2, 3), 32);
        due(6, "in the five ahead", x.word(1, 3), 31);
        due(7, "the 15th", x.forbidden(14), 0);
        due(7, "no 16th", x.forbidden(15), BAD);
        due(17, "2 times 2 times 2 is below 9", x.fewest(0, 2, 0), NONE);
        fewestRow(x, 2, 2, 14, 14, 14);
        due(18, "the 15th tells most", x.tells(2), 14);
        due(10, "the 15th is shown", x.show(2, 14), 1);
        due(14, "by 3", x.weight(2, 2), 3);
        fewestRow(x, 2, 2, 14, 14);
        due(10, "no 16th to show", x.show(2, 15), BAD);
        due(21, "all likenesses part them", x.parted(0, 2), 63 << 9);
        due(26, "the last is too rare for a plain one", x.wants(0), 1);
        due(26, "an old hand can have it", x.wants(2), 5);
    }

    private static void send() {
        CharadePost x = new CharadePost();
        due(19, "how many", x.send(-1), 4);
        int[] words = {0, 4, 3, 1};
        for (int a = 0; a < 4; a++) {
            due(19, "actor " + a, x.send(a), words[a]);
        }
        due(19, "nothing has changed", x.actor(1, 1), 3);
        due(19, "actor 4", x.send(4), BAD);
        due(19, "actor -2", x.send(-2), BAD);
        due(19, "high", x.send(HIGH), BAD);
        x = laid("w1,a;w1,a;w1,b;x0;x1;x2;x3;x4;x5;a0,1,8;a3,2,99;a1,0,0;");
        due(19, "9 for none", x.send(-1), 18);
        due(19, "the first of several", x.send(0), 1);
        due(19, "then the next", x.send(1), 2);
        due(19, "then the last", x.send(2), 0);
        x.show(1, 7);
        due(19, "one who has shown", x.send(1), NONE);
        due(19, "two are left", x.send(-1), 9);
        x.guess(2);
        due(19, "one is left", x.send(-1), 9);
        due(19, "to himself", x.send(0), 1);
        x.show(0, 0);
        due(19, "nobody", x.send(-1), 0);
        due(19, "nor he", x.send(0), NONE);
    }

    private static void sendBetter() {
        CharadePost x = laid("w9,a;w8,b;w1,c;x6;x7;x8;h5,4;a0,2,9;a2,1,9;a1,0,9;");
        due(19, "plain 2, smuggler 1, child 0: a sum of 2", x.send(-1), 2);
        due(19, "plain acts for the second", x.send(0), 1);
        due(19, "the smuggler for the rare one", x.send(1), 2);
        due(19, "the child for the common one", x.send(2), 0);
        x.change(0, 2);
        due(19, "as dealt out now", x.send(-1), 2);
        due(19, "of two that come to 2, that by his own word", x.send(0), 0);
        x.show(0, 0);
        due(19, "without the first: smuggler 1, child 1", x.send(-1), 2);
        due(19, "nothing for the first", x.send(0), NONE);
        due(19, "the smuggler for the rare one", x.send(1), 2);
        due(19, "the child for the second", x.send(2), 1);
    }

    /** The smuggler reaches the rare word by fewer signs, whatever the place of those who are not dealt out to. */
    private static void sendWithoutTheFirst() {
        CharadePost x = laid("w9,a;w1,b;x6;x7;x8;h5,3;a3,0,9;a2,0,9;a0,1,9;");
        due(19, "three: 0, 0 and the rare one by 2", x.send(-1), 2);
        x.show(0, 0);
        due(19, "smuggler 2, plain 0", x.send(-1), 2);
        due(19, "the smuggler acts for the rare one", x.send(1), 1);
        due(19, "the plain one for the common one", x.send(2), 0);
        due(19, "nothing for the first", x.send(0), NONE);
    }

    private static void queue() {
        CharadePost x = new CharadePost();
        due(20, "how long", x.queue(-1), 12);
        int[] order = {0, 2, 3, 1};
        for (int k = 0; k < 4; k++) {
            due(20, "the " + k + "th", x.queue(k), order[k]);
        }
        due(20, "no fifth", x.queue(4), NONE);
        due(20, "far behind", x.queue(HIGH), NONE);
        due(20, "k -2", x.queue(-2), BAD);
        due(20, "low", x.queue(LOW), BAD);
        x.show(0, 7);
        due(20, "one is seized", x.queue(0), 2);
        due(20, "three wait", x.queue(-1), 6);
        due(20, "no fourth", x.queue(3), NONE);
        x = laid("w1,a;w1,a;w1,b;x0;x1;x2;x3;x4;x5;a0,1,8;a1,0,0;a3,2,99;a0,0,1;");
        due(20, "5 minutes without, 1 without signs", x.queue(-1), 1 + 2 + 7);
        due(20, "the second is first", x.queue(0), 1);
        due(20, "the last is second", x.queue(1), 3);
        due(20, "the first is third", x.queue(2), 0);
        x = laid("w1,a;a0,0,0;");
        due(20, "alone", x.queue(-1), 0);
        due(20, "he", x.queue(0), 0);
        x.guess(0);
        due(20, "nobody waits", x.queue(-1), 0);
        due(20, "nobody is first", x.queue(0), NONE);
    }

    private static void parted() {
        CharadePost x = new CharadePost();
        due(21, "ab, abc", x.parted(0, 1), 4 + 128 + 256);
        due(21, "the other way", x.parted(1, 0), 4 + 128 + 256);
        due(21, "d, de", x.parted(2, 3), 16 + 64 + 128 + 4096);
        due(21, "fa, c", x.parted(4, 5), 1 + 4 + 32 + 64 + 128 + 2048 + 4096);
        x = laid("w2,ab;w3,cd;l01;l0;h2,1;a1,0,0;");
        due(21, "a part by 1 parts none", x.parted(0, 1), 1 << 10);
        x = laid("w2,aab;w3,aba;l01;a1,0,0;");
        due(21, "alike", x.parted(0, 1), 0);
        due(21, "the same", x.parted(0, 0), BAD);
        due(21, "word 2", x.parted(0, 2), BAD);
        due(21, "word -1", x.parted(-1, 0), BAD);
        x = laid("w2,a;w3,b;a1,0,0;a2,0,0;");
        due(21, "as a plain one shows", x.parted(0, 1), 3);
    }

    private static void most() {
        CharadePost x = new CharadePost();
        due(22, "all", x.most(), 4);
        x = laid("w2,a;w3,b;r5;a0,0,5;a0,0,4;a0,1,0;");
        due(22, "one has too few coins", x.most(), 2);
        x.guess(2);
        due(22, "one is through already", x.most(), 1);
        x.show(0, 2);
        due(22, "what he has shown costs, too", x.most(), 0);
        x.undo();
        x.show(1, 0);
        due(22, "shown already, and too dear", x.most(), 1);
        x = laid("w1,a;w1,a;a0,1,9;");
        due(22, "no row", x.most(), 0);
        due(22, "nothing has changed", x.count(4), 1);
    }

    private static void see() {
        CharadePost x = laid(TWO);
        for (int n = 1; n <= 6; n++) {
            due(23, "see", x.see(0, 1), n);
        }
        due(23, "a seventh", x.see(0, 0), FULL);
        due(23, "bad ahead of full", x.see(0, 2), BAD);
        due(23, "actor 1", x.see(1, 0), BAD);
        due(23, "actor -1", x.see(-1, 0), BAD);
        due(23, "word -1", x.see(0, -1), BAD);
        due(23, "six", x.count(9), 6);
        due(23, "not an act", x.undo(), NO);
        x = laid(TWO);
        x.guess(0);
        x.guess(0);
        due(23, "at one who does not wait", x.see(0, 0), 1);
    }

    private static void forget() {
        CharadePost x = laid(TWO);
        due(24, "nothing", x.forget(), 0);
        x.see(0, 0);
        x.see(0, 1);
        due(24, "two", x.forget(), 2);
        due(24, "none is left", x.count(9), 0);
        due(24, "again", x.forget(), 0);
        due(24, "all habits can be again", x.habits(0), 16);
        due(24, "see begins anew", x.see(0, 0), 1);
    }

    private static void habits() {
        CharadePost x = laid("w2,a;w3,bc;w5,d;l0;h3,2;a0,0,50;a0,0,50;a3,0,50;");
        due(25, "nothing seen", x.habits(0), 16);
        due(25, "the first of all", x.habits(1), 21);
        x.show(0, 0);
        x.see(0, 0);
        due(25, "2 B above 5", x.habits(0), 8);
        due(25, "B 3 at least", x.habits(1), 23);
        x.show(1, 9);
        due(25, "what is not seen says nothing", x.habits(0), 8);
        x.see(1, 0);
        due(25, "2 A above 5", x.habits(0), 6);
        due(25, "A 3 at least", x.habits(1), 33);
        x.show(2, 9);
        x.see(2, 2);
        due(25, "an old hand's is above 5, too", x.habits(0), 0);
        due(25, "none", x.habits(1), NONE);
        x.forget();
        x.see(2, 0);
        due(25, "2 by A and 1 is above 5 by all", x.habits(0), 16);
        x.guess(2);
        due(25, "as all stands when it is asked for", x.habits(0), 0);
        x.undo();
        due(25, "he waits again", x.habits(0), 16);
        due(25, "what 2", x.habits(2), BAD);
        due(25, "what -1", x.habits(-1), BAD);
        due(25, "the officer weighs as told", x.weight(0, 0), 4);
    }

    private static void wants() {
        CharadePost x = new CharadePost();
        due(26, "all", x.wants(0), 63);
        x = laid("w1,a;w1,a;w1,b;w9,cd;r9;x0;x1;x2;x3;x4;x5;a0,2,0;");
        due(26, "one of those alike", x.wants(0), 1 + 8);
        x.guess(0);
        due(26, "not what was guessed", x.wants(0), 1);
        x.guess(0);
        due(26, "the second of those alike", x.wants(0), 2);
        x.guess(0);
        due(26, "he is sent back", x.wants(0), NO);
        due(26, "actor 1", x.wants(1), BAD);
        due(26, "actor -1", x.wants(-1), BAD);
        x = laid("w2,a;w3,b;w3,c;r9;x6;x7;x8;a0,0,0;");
        due(26, "whatever he has coins for", x.wants(0), 7);
    }

    private static void missed() {
        CharadePost x = laid(TWO);
        due(27, "nothing shown: above", x.missed(0, 5, 0), 0);
        due(27, "nothing shown: below", x.missed(0, 5, 1), 1);
        x.show(0, 0);
        x.show(0, 9);
        int[][] parts = {{0, 1, 1}, {1, 99, 100}, {3, 91, 100}, {5, 3, 4}, {10, 0, 1}};
        for (int[] p : parts) {
            due(27, "above by " + p[0], x.missed(0, p[0], 0), p[1]);
            due(27, "below by " + p[0], x.missed(0, p[0], 1), p[2]);
        }
        x.show(0, 1);
        x.show(0, 1);
        x.show(0, 1);
        due(27, "five by 10: above", x.missed(0, 10, 0), 0);
        due(27, "five by 5: a quarter of 0, 1, 4 and 7 eighths: above", x.missed(0, 5, 0), 3);
        due(27, "five by 5: below", x.missed(0, 5, 1), 8);
        due(27, "x 11", x.missed(0, 11, 0), BAD);
        due(27, "x -1", x.missed(0, -1, 0), BAD);
        due(27, "part 2", x.missed(0, 5, 2), BAD);
        due(27, "part -1", x.missed(0, 5, -1), BAD);
        due(27, "actor 1", x.missed(1, 5, 0), BAD);
        due(27, "actor -1", x.missed(-1, 5, 0), BAD);
        x.guess(0);
        x.guess(0);
        due(27, "he does not wait", x.missed(0, 5, 0), NO);
        due(27, "bad ahead of no", x.missed(0, 11, 0), BAD);
        x = laid("w2,a;r0;a0,0,50;");
        due(27, "sure without signs", x.missed(0, 10, 0), 1);
        x.show(0, 8);
        due(27, "only if it is missed: above", x.missed(0, 4, 0), 2);
        due(27, "only if it is missed: below", x.missed(0, 4, 1), 5);
    }

    /** DRAWS reckoned by hand: z 0: 0, 20743 (both guess); z 1: 11401 (shows 1425), 27050 (guess). */
    private static void season() {
        CharadePost x = laid("w2,a;w1,d;h2,3;r2;a0,1,10;");
        due(28, "d is shown, then guessed: through", x.season(1, 2, 0), 1);
        due(28, "pays", x.season(1, 2, 1), 2);
        due(28, "shown alone", x.season(1, 1, 0), 0);
        due(28, "shown alone pays nothing", x.season(1, 1, 1), 0);
        due(28, "a guess alone", x.season(0, 1, 0), 0);
        due(28, "two guesses", x.season(0, 2, 0), 1);
        due(28, "two guesses cost nothing", x.season(0, 2, 1), 0);
        due(28, "nothing has changed", x.count(8), 0);
        due(28, "nor can it be undone", x.undo(), NO);
        x.show(0, 3);
        due(28, "what is shown now costs, too", x.season(1, 2, 1), 4);
        x.guess(0);
        due(28, "through already", x.season(1, 60, 0), 1);
        due(28, "paid ahead of it", x.season(1, 60, 1), 0);
        int[][] bad = {{-1, 1, 0}, {10000, 1, 0}, {0, 0, 0}, {0, 61, 0}, {0, 1, 2}, {0, 1, -1}, {LOW, HIGH, HIGH}};
        for (int[] b : bad) {
            due(28, "bad " + b[0] + " " + b[1] + " " + b[2], x.season(b[0], b[1], b[2]), BAD);
        }
        due(28, "the last season", x.season(9999, 60, 0), 1);
        x = laid("w2,a;w1,d;h2,3;r2;x3;a0,1,10;");
        due(28, "d is forbidden: seized", x.season(1, 2, 0), 0);
        due(28, "nobody is seized in truth", x.count(7), 0);
        x = new CharadePost();
        due(28, "of the first post: through", x.season(5, 60, 0), 2);
        due(28, "of the first post: coins", x.season(5, 60, 1), 8);
    }

    private static void keepAndBack() {
        CharadePost x = new CharadePost();
        due(30, "nothing kept", x.back(), NO);
        x.show(0, 0);
        due(29, "keep", x.keep(), 1);
        due(29, "what can be undone stays so", x.count(10), 1);
        x.show(0, 9);
        x.see(0, 0);
        x.write('w');
        due(29, "keep once more", x.keep(), 2);
        due(29, "a third", x.keep(), FULL);
        due(29, "two", x.count(11), 2);
        x.guess(0);
        due(29, "he has paid", x.actor(0, 2), 16);
        due(30, "back to the last", x.back(), 1);
        due(30, "he waits", x.actor(0, 5), 0);
        due(30, "coins", x.actor(0, 2), 20);
        due(30, "two signs", x.actor(0, 3), 2);
        due(30, "nothing can be undone", x.undo(), NO);
        due(30, "what is seen stays", x.count(9), 1);
        due(30, "the text stays", x.count(12), 1);
        x.change(1, 2);
        due(30, "back to the first", x.back(), 0);
        due(30, "one sign", x.actor(0, 3), 1);
        due(30, "changed back", x.actor(1, 1), 3);
        due(30, "kept no more", x.back(), NO);
        due(29, "keep again", x.keep(), 1);
        x.show(0, 1);
        due(30, "and back", x.back(), 0);
        due(30, "the same", x.actor(0, 3), 1);
        x.show(0, 2);
        due(30, "an act behind it can be undone", x.undo(), 0);
        due(30, "down to it", x.shown(0, 0), 0);
    }

    private static void count() {
        CharadePost x = laid("w5,a;w1,b;l0;l1;l01;r3;x8;a0,0,9;a0,0,2;a0,1,9;a0,1,9;a0,0,9;");
        x.show(0, 0);
        x.guess(0);
        x.show(1, 0);
        x.guess(1);
        x.show(2, 0);
        x.show(2, 8);
        x.show(3, 1);
        x.show(3, 1);
        x.see(3, 1);
        x.see(3, 1);
        x.keep();
        int[] counts = {2, 12, 5, 3, 2, 1, 1, 1, 5, 2, 8, 1, 61};
        for (int what = 0; what < counts.length; what++) {
            due(31, "count " + what, x.count(what), counts[what]);
        }
        due(31, "what 13", x.count(13), BAD);
        due(31, "what -1", x.count(-1), BAD);
        due(31, "low", x.count(LOW), BAD);
    }

    public static void main(String[] args) {
        newObject();
        firstOfficerAndPrice();
        write();
        wipe();
        faultsOfWords();
        faultsOfOthers();
        faultsOfActors();
        lay();
        layDefaultsAndLast();
        word();
        forbidden();
        actor();
        shown();
        show();
        guess();
        change();
        undo();
        undoStepByStep();
        undoOfPay();
        weight();
        weightOfThoseWhoAreGone();
        likely();
        next();
        fewest();
        fewestFirst();
        tells();
        tellsByFractions();
        sixLikenesses();
        send();
        sendBetter();
        sendWithoutTheFirst();
        queue();
        parted();
        most();
        see();
        forget();
        habits();
        wants();
        missed();
        season();
        keepAndBack();
        count();
        Checks.finish("PromiseTests");
    }
}
