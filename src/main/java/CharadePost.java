/**
 * Charades at the border: actors show signs at a post, and an officer guesses what each of them wants.
 * The document (../shared/DOC.md) says what each call answers; its words in capitals are used here, too.
 */
public final class CharadePost {
    public static final int BAD = -1, NO = -2, FULL = -3, NONE = -4;

    private static final int MOST_LETTERS = 200, MOST_WORDS = 8, MOST_LIKENESSES = 6, MOST_ACTORS = 5;
    private static final int MOST_SHOWN = 5, MOST_SEEN = 6, MOST_UNDONE = 8, MOST_KEPT = 2;
    private static final int MOST_WRONG = 3, LONGEST_ROW = 3, PARTS = 6;
    private static final int FIRST_LENGTH = 6, FIRST_LIKENESS = 9;
    private static final int MOST_SIGNS = FIRST_LIKENESS + MOST_LIKENESSES;
    private static final int PLAIN = 0, CHILD = 1, SMUGGLER = 2, OLD_HAND = 3;
    private static final int WAITS = 0, THROUGH = 1, SENT_BACK = 2, SEIZED = 3;
    /** What a scene tells of an actor, in the order of actor(a, what); his signs come behind it. */
    private static final int KIND = 0, WANTED = 1, COINS = 2, SHOWN = 3, GUESSED = 4, STANDS = 5, SIGNS = 6;
    private static final int CELLS = SIGNS + MOST_SHOWN, SCENE_CELLS = MOST_ACTORS * CELLS;
    private static final int ALL_TAKEN_IN = (1 << MOST_SHOWN) - 1;
    /** A habit is 10 A and B together, as habits(1) answers it. */
    private static final int HABIT_STEP = 10, FIRST_HABIT = 32;
    private static final int LOW_A = 2, HIGH_A = 5, LOW_B = 1, HIGH_B = 4;
    /** Far above the 680 rows of 3 of the 15 signs. */
    private static final int MOST_ROWS = 10000;
    private static final int FIRST_PRICE = 2, SIGNS_IF_NONE = 9, MINUTES_IF_NONE = 5, TENTHS = 10;
    private static final int HIGHEST_DRAW = 9999, LONGEST_SEASON = 60;
    private static final String AT_FIRST =
        "w5,ab;w3,abc;w7,d;w2,de;w4,fa;w6,c;l01;l23;l4;l25;x7;h3,2;a0,0,20;a1,3,9;a2,4,30;a3,1,15;r2;";

    private final int[] letters = new int[MOST_LETTERS];
    private int length;
    private Board board = new Board();
    private Board draft = new Board();
    private final Scene scene = new Scene();
    /** Where a text is read to, and where a season is played: nothing stays in it from call to call. */
    private final Scene trial = new Scene();
    private final Shelf past = new Shelf(MOST_UNDONE);
    private final Shelf kept = new Shelf(MOST_KEPT);
    private final Seen seen = new Seen();
    private final Reader reader = new Reader();
    private final Search search = new Search();
    private final Deal deal = new Deal();
    private final Line line = new Line();

    public CharadePost() {
        for (int i = 0; i < AT_FIRST.length() && i < MOST_LETTERS; i++) {
            letters[i] = AT_FIRST.charAt(i);
        }
        length = Math.min(AT_FIRST.length(), MOST_LETTERS);
        lay();
        length = 0;
    }

    // ---- posts

    public int write(int letter) {
        if (letter < 32 || letter > 126) {
            return BAD;
        }
        if (length < 0 || length >= MOST_LETTERS) {
            return FULL;
        }
        letters[length] = letter;
        length++;
        return length;
    }

    public int wipe() {
        int was = length;
        length = 0;
        return was;
    }

    public int fault() {
        return reader.firstFault(letters, length, draft, trial);
    }

    public int lay() {
        int place = reader.firstFault(letters, length, draft, trial);
        if (place != NONE || draft.words() < 1 || draft.actors() < 1) {
            return NO;
        }
        Board old = board;
        board = draft;
        draft = old;
        scene.copyFrom(trial);
        past.clear();
        kept.clear();
        seen.clear();
        return board.actors();
    }

    public int word(int w, int what) {
        if (!isWord(w)) {
            return BAD;
        }
        switch (what) {
            case 0: return board.commonOf(w);
            case 1: return board.lengthOf(w);
            case 2: return board.partsOf(w);
            case 3: return board.likenessesOf(w);
            default: return BAD;
        }
    }

    public int forbidden(int s) {
        if (!isSign(s)) {
            return BAD;
        }
        return board.isForbidden(s) ? 1 : 0;
    }

    public int actor(int a, int what) {
        return isActor(a) && what >= KIND && what <= STANDS ? scene.cell(a, what) : BAD;
    }

    public int shown(int a, int k) {
        if (!isActor(a) || k < 0) {
            return BAD;
        }
        return k < scene.cell(a, SHOWN) ? scene.sign(a, k) : NONE;
    }

    // ---- acting

    public int show(int a, int s) {
        if (!isActor(a) || !isSign(s)) {
            return BAD;
        }
        if (!scene.canShow(a)) {
            return NO;
        }
        past.put(scene);
        return showSign(scene, a, s);
    }

    public int guess(int a) {
        if (!isActor(a)) {
            return BAD;
        }
        if (!scene.waits(a)) {
            return NO;
        }
        past.put(scene);
        return guessWord(scene, a);
    }

    public int change(int a, int b) {
        if (!isActor(a) || !isActor(b) || a == b) {
            return BAD;
        }
        if (!scene.isFresh(a) || !scene.isFresh(b)) {
            return NO;
        }
        past.put(scene);
        int was = scene.cell(a, WANTED);
        scene.set(a, WANTED, scene.cell(b, WANTED));
        scene.set(b, WANTED, was);
        return scene.cell(a, WANTED);
    }

    public int undo() {
        return past.takeInto(scene) ? past.size() : NO;
    }

    // ---- what it comes to

    public int weight(int a, int w) {
        return isActor(a) && isWord(w) ? board.weightOf(scene, a, w, ALL_TAKEN_IN, board.habit()) : BAD;
    }

    public int likely(int a, int w, int part) {
        if (!isActor(a) || !isWord(w) || part < 0 || part > 1) {
            return BAD;
        }
        int sum = 0;
        for (int u = 0; u < board.words(); u++) {
            sum += board.weightOf(scene, a, u, ALL_TAKEN_IN, board.habit());
        }
        if (part == 0) {
            return board.weightOf(scene, a, w, ALL_TAKEN_IN, board.habit());
        }
        return sum > 0 ? sum : 1;
    }

    public int next(int a) {
        if (!isActor(a)) {
            return BAD;
        }
        return scene.waits(a) ? board.heaviest(scene, a, ALL_TAKEN_IN, board.habit()) : NO;
    }

    public int fewest(int a, int w, int k) {
        if (!isActor(a) || !isWord(w) || k < 0 || k > LONGEST_ROW) {
            return BAD;
        }
        if (!scene.waits(a)) {
            return NO;
        }
        search.run(board, scene, a);
        return k == 0 ? search.howMany(w) : search.signOf(w, k - 1);
    }

    public int tells(int a) {
        if (!isActor(a)) {
            return BAD;
        }
        if (!scene.waits(a)) {
            return NO;
        }
        return scene.canShow(a) ? mostTelling(a) : NONE;
    }

    public int send(int a) {
        if (a != -1 && !isActor(a)) {
            return BAD;
        }
        deal.start();
        for (int b = 0; b < board.actors(); b++) {
            if (scene.isFresh(b)) {
                deal.add(b, scene.cell(b, WANTED));
            }
        }
        for (int i = 0; i < deal.size(); i++) {
            search.run(board, scene, deal.actorAt(i));
            for (int j = 0; j < deal.size(); j++) {
                int many = search.howMany(deal.wordAt(j));
                deal.setCost(i, j, many == NONE ? SIGNS_IF_NONE : many);
            }
        }
        deal.settle();
        return a == -1 ? deal.total() : deal.wordFor(a);
    }

    public int queue(int k) {
        if (k < -1) {
            return BAD;
        }
        line.start();
        for (int a = 0; a < board.actors(); a++) {
            if (scene.waits(a)) {
                int many = fewestForWanted(a);
                line.add(a, many == NONE ? MINUTES_IF_NONE : 1 + many);
            }
        }
        return k == -1 ? line.waited() : line.actorAt(k);
    }

    public int parted(int w, int u) {
        if (!isWord(w) || !isWord(u) || w == u) {
            return BAD;
        }
        int bits = 0;
        for (int s = 0; s < board.signs(); s++) {
            if (board.factor(PLAIN, s, w, board.habit()) != board.factor(PLAIN, s, u, board.habit())) {
                bits |= 1 << s;
            }
        }
        return bits;
    }

    public int most() {
        int many = 0;
        for (int a = 0; a < board.actors(); a++) {
            if (scene.waits(a)) {
                int signs = fewestForWanted(a);
                if (signs != NONE && scene.canPay(a, board.price(), signs)) {
                    many++;
                }
            }
        }
        return many;
    }

    // ---- what was seen

    public int see(int a, int w) {
        return isActor(a) && isWord(w) ? seen.add(a, w) : BAD;
    }

    public int forget() {
        return seen.clear();
    }

    public int habits(int what) {
        if (what < 0 || what > 1) {
            return BAD;
        }
        int many = 0;
        int first = NONE;
        for (int byLikeness = LOW_A; byLikeness <= HIGH_A; byLikeness++) {
            for (int byPart = LOW_B; byPart <= HIGH_B; byPart++) {
                int habit = HABIT_STEP * byLikeness + byPart;
                if (seen.holdsBy(habit, board, scene)) {
                    if (many == 0) {
                        first = habit;
                    }
                    many++;
                }
            }
        }
        return what == 0 ? many : first;
    }

    public int wants(int a) {
        if (!isActor(a)) {
            return BAD;
        }
        if (!scene.waits(a)) {
            return NO;
        }
        search.run(board, scene, a);
        int bits = 0;
        for (int w = 0; w < board.words(); w++) {
            if (search.howMany(w) != NONE) {
                bits |= 1 << w;
            }
        }
        return bits;
    }

    // ---- missed signs, seasons

    public int missed(int a, int x, int part) {
        if (!isActor(a) || x < 0 || x > TENTHS || part < 0 || part > 1) {
            return BAD;
        }
        if (!scene.waits(a)) {
            return NO;
        }
        int signs = scene.cell(a, SHOWN);
        int above = 0;
        int below = 1;
        for (int k = 0; k < signs; k++) {
            below *= TENTHS;
        }
        for (int taken = 0; taken < 1 << signs; taken++) {
            if (board.heaviest(scene, a, taken, board.habit()) == scene.cell(a, WANTED)) {
                above += chanceOf(taken, signs, x);
            }
        }
        int divisor = commonDivisor(below, above);
        if (divisor < 1) {
            return NONE;
        }
        return part == 0 ? above / divisor : below / divisor;
    }

    public int season(int z, int n, int what) {
        if (z < 0 || z > HIGHEST_DRAW || n < 1 || n > LONGEST_SEASON || what < 0 || what > 1) {
            return BAD;
        }
        trial.copyFrom(scene);
        for (int k = 0; k < n; k++) {
            playDraw(draw(z, k));
        }
        if (what == 0) {
            return howMany(trial, THROUGH);
        }
        return sumOf(scene, COINS) - sumOf(trial, COINS);
    }

    public int keep() {
        if (kept.size() >= MOST_KEPT) {
            return FULL;
        }
        kept.put(scene);
        return kept.size();
    }

    public int back() {
        if (!kept.takeInto(scene)) {
            return NO;
        }
        past.clear();
        return kept.size();
    }

    public int count(int what) {
        switch (what) {
            case 0: return board.words();
            case 1: return board.signs();
            case 2: return board.actors();
            case 3: return board.price();
            case 4: return howMany(scene, WAITS);
            case 5: return howMany(scene, THROUGH);
            case 6: return howMany(scene, SENT_BACK);
            case 7: return howMany(scene, SEIZED);
            case 8: return sumOf(scene, SHOWN);
            case 9: return seen.size();
            case 10: return past.size();
            case 11: return kept.size();
            case 12: return length;
            default: return BAD;
        }
    }

    // ---- behind the face

    private boolean isWord(int w) {
        return w >= 0 && w < board.words();
    }

    private boolean isSign(int s) {
        return s >= 0 && s < board.signs();
    }

    private boolean isActor(int a) {
        return a >= 0 && a < board.actors();
    }

    private int showSign(Scene on, int a, int s) {
        if (board.isForbidden(s)) {
            on.set(a, STANDS, SEIZED);
            return 0;
        }
        on.addSign(a, s);
        return 1;
    }

    private int guessWord(Scene on, int a) {
        int w = board.heaviest(on, a, ALL_TAKEN_IN, board.habit());
        if (w == NONE) {
            on.set(a, STANDS, SENT_BACK);
        } else if (w != on.cell(a, WANTED)) {
            on.addWrongGuess(a, w);
        } else if (on.canPay(a, board.price(), 0)) {
            on.payAndPass(a, board.price());
        } else {
            on.set(a, STANDS, SENT_BACK);
        }
        return w;
    }

    private int fewestForWanted(int a) {
        search.run(board, scene, a);
        return search.howMany(scene.cell(a, WANTED));
    }

    private int mostTelling(int a) {
        int best = NONE;
        long bestAbove = 0;
        long bestBelow = 1;
        for (int s = 0; s < board.signs(); s++) {
            if (!board.isForbidden(s)) {
                long above = weightBesides(a, scene.cell(a, WANTED), s);
                long below = 0;
                for (int w = 0; w < board.words(); w++) {
                    below += weightBesides(a, w, s);
                }
                below = below > 0 ? below : 1;
                if (best == NONE || above * bestBelow > bestAbove * below) {
                    best = s;
                    bestAbove = above;
                    bestBelow = below;
                }
            }
        }
        return best;
    }

    private int weightBesides(int a, int w, int sign) {
        return board.weightOf(scene, a, w, ALL_TAKEN_IN, board.habit())
            * board.factor(scene.cell(a, KIND), sign, w, board.habit());
    }

    private static int chanceOf(int taken, int signs, int x) {
        int chance = 1;
        for (int k = 0; k < signs; k++) {
            chance *= (taken >> k & 1) == 1 ? TENTHS - x : x;
        }
        return chance;
    }

    private static int commonDivisor(int one, int other) {
        int larger = one;
        int smaller = other;
        for (int step = 0; step < 64 && smaller != 0; step++) {
            int rest = larger % smaller;
            larger = smaller;
            smaller = rest;
        }
        return larger;
    }

    private static int draw(int z, int k) {
        long x = 7919L * z + 6151L * k + 1;
        return (int) (x * x % 65521 / 2);
    }

    private void playDraw(int draw) {
        int actors = board.actors();
        int signs = board.signs();
        if (actors < 1 || signs < 1) {
            return;
        }
        int a = draw % actors;
        if (draw / 256 % 3 == 0) {
            if (trial.waits(a)) {
                guessWord(trial, a);
            }
        } else if (trial.canShow(a)) {
            showSign(trial, a, draw / 8 % signs);
        }
    }

    private int howMany(Scene on, int standing) {
        int many = 0;
        for (int a = 0; a < board.actors(); a++) {
            if (on.cell(a, STANDS) == standing) {
                many++;
            }
        }
        return many;
    }

    private int sumOf(Scene on, int cell) {
        int sum = 0;
        for (int a = 0; a < board.actors(); a++) {
            sum += on.cell(a, cell);
        }
        return sum;
    }

    /** What a text tells that no call changes: words, likenesses, what is forbidden, habit, price. */
    private static final class Board {
        private final int[] commons = new int[MOST_WORDS];
        private final int[] lengths = new int[MOST_WORDS];
        private final int[] parts = new int[MOST_WORDS];
        private final int[] likenesses = new int[MOST_LIKENESSES];
        private int wordCount;
        private int likenessCount;
        private int actorCount;
        private int forbiddenBits;
        private int habitTold;
        private int priceTold;

        void clear() {
            wordCount = 0;
            likenessCount = 0;
            actorCount = 0;
            forbiddenBits = 0;
            habitTold = FIRST_HABIT;
            priceTold = FIRST_PRICE;
        }

        boolean addWord(int common, int many, int partBits) {
            if (wordCount < 0 || wordCount >= MOST_WORDS) {
                return false;
            }
            commons[wordCount] = common;
            lengths[wordCount] = many;
            parts[wordCount] = partBits;
            wordCount++;
            return true;
        }

        boolean addLikeness(int wordBits) {
            if (likenessCount < 0 || likenessCount >= MOST_LIKENESSES) {
                return false;
            }
            likenesses[likenessCount] = wordBits;
            likenessCount++;
            return true;
        }

        boolean addActor() {
            if (actorCount >= MOST_ACTORS) {
                return false;
            }
            actorCount++;
            return true;
        }

        void forbid(int s) {
            forbiddenBits |= 1 << s;
        }

        void setHabit(int habit) {
            habitTold = habit;
        }

        void setPrice(int price) {
            priceTold = price;
        }

        int words() {
            return wordCount;
        }

        int signs() {
            return FIRST_LIKENESS + likenessCount;
        }

        int actors() {
            return actorCount;
        }

        int habit() {
            return habitTold;
        }

        int price() {
            return priceTold;
        }

        boolean isForbidden(int s) {
            return (forbiddenBits >> s & 1) == 1;
        }

        int commonOf(int w) {
            return w >= 0 && w < commons.length ? commons[w] : 0;
        }

        int lengthOf(int w) {
            return w >= 0 && w < lengths.length ? lengths[w] : 0;
        }

        int partsOf(int w) {
            return w >= 0 && w < parts.length ? parts[w] : 0;
        }

        int likenessesOf(int w) {
            int bits = 0;
            for (int l = 0; l < likenessCount; l++) {
                if (isIn(w, l)) {
                    bits |= 1 << l;
                }
            }
            return bits;
        }

        private boolean isIn(int w, int l) {
            return l >= 0 && l < likenesses.length && (likenesses[l] >> w & 1) == 1;
        }

        /** By what a sign multiplies a word, shown by an actor of a kind before an officer of a habit. */
        int factor(int kind, int sign, int w, int habit) {
            if (sign < FIRST_LENGTH) {
                int part = kind == CHILD ? (sign + 1) % PARTS : sign;
                return (partsOf(w) >> part & 1) == 1 ? byKind(kind, habit % HABIT_STEP) : 1;
            }
            if (sign < FIRST_LIKENESS) {
                return lengthOf(w) == sign - FIRST_LENGTH + 1 ? 1 : 0;
            }
            if (!isIn(w, sign - FIRST_LIKENESS)) {
                return 1;
            }
            int byLikeness = habit / HABIT_STEP;
            return kind == OLD_HAND ? byLikeness + 1 : byKind(kind, byLikeness);
        }

        private static int byKind(int kind, int number) {
            return kind == SMUGGLER ? number * number : number;
        }

        /** WEIGHT by those of the signs shown whose bits are set in taken. */
        int weightOf(Scene on, int a, int w, int taken, int habit) {
            if ((on.cell(a, GUESSED) >> w & 1) == 1) {
                return 0;
            }
            int weight = commonOf(w);
            for (int k = 0; k < on.cell(a, SHOWN) && k < MOST_SHOWN; k++) {
                if ((taken >> k & 1) == 1) {
                    weight *= factor(on.cell(a, KIND), on.sign(a, k), w, habit);
                }
            }
            return weight;
        }

        int heaviest(Scene on, int a, int taken, int habit) {
            int best = NONE;
            int most = 0;
            for (int w = 0; w < wordCount; w++) {
                int weight = weightOf(on, a, w, taken, habit);
                if (weight > most) {
                    most = weight;
                    best = w;
                }
            }
            return best;
        }
    }

    /** How the actors stand: a row of cells for each, all in one so that a copy is one step. */
    private static final class Scene {
        private final int[] cells = new int[SCENE_CELLS];

        int cell(int a, int what) {
            int at = a * CELLS + what;
            return at >= 0 && at < cells.length ? cells[at] : 0;
        }

        void set(int a, int what, int value) {
            int at = a * CELLS + what;
            if (at >= 0 && at < cells.length) {
                cells[at] = value;
            }
        }

        void start(int a, int kind, int wanted, int coins) {
            for (int what = 0; what < CELLS; what++) {
                set(a, what, 0);
            }
            set(a, KIND, kind);
            set(a, WANTED, wanted);
            set(a, COINS, coins);
        }

        void copyFrom(Scene other) {
            System.arraycopy(other.cells, 0, cells, 0, SCENE_CELLS);
        }

        int sign(int a, int k) {
            return cell(a, SIGNS + k);
        }

        boolean waits(int a) {
            return cell(a, STANDS) == WAITS;
        }

        boolean canShow(int a) {
            return waits(a) && cell(a, SHOWN) < MOST_SHOWN;
        }

        boolean isFresh(int a) {
            return waits(a) && cell(a, SHOWN) == 0;
        }

        boolean canPay(int a, int price, int signsMore) {
            return cell(a, COINS) >= price * (cell(a, SHOWN) + signsMore);
        }

        void payAndPass(int a, int price) {
            set(a, COINS, cell(a, COINS) - price * cell(a, SHOWN));
            set(a, STANDS, THROUGH);
        }

        void addSign(int a, int s) {
            int many = cell(a, SHOWN);
            if (many < MOST_SHOWN) {
                set(a, SIGNS + many, s);
                set(a, SHOWN, many + 1);
            }
        }

        void addWrongGuess(int a, int w) {
            set(a, GUESSED, cell(a, GUESSED) | 1 << w);
            if (Integer.bitCount(cell(a, GUESSED)) >= MOST_WRONG) {
                set(a, STANDS, SENT_BACK);
            }
        }
    }

    /** Copies of scenes, the latest on top; when it is full, the oldest falls out. */
    private static final class Shelf {
        private final int[] rows;
        private final int most;
        private int used;

        Shelf(int size) {
            most = size > 0 ? size : 1;
            rows = new int[most * SCENE_CELLS];
        }

        int size() {
            return used;
        }

        void clear() {
            used = 0;
        }

        void put(Scene from) {
            if (used >= most) {
                System.arraycopy(rows, SCENE_CELLS, rows, 0, (most - 1) * SCENE_CELLS);
                used = most - 1;
            }
            if (used >= 0) {
                System.arraycopy(from.cells, 0, rows, used * SCENE_CELLS, SCENE_CELLS);
                used++;
            }
        }

        boolean takeInto(Scene to) {
            if (used < 1 || used > most) {
                return false;
            }
            used--;
            System.arraycopy(rows, used * SCENE_CELLS, to.cells, 0, SCENE_CELLS);
            return true;
        }
    }

    /** What is SEEN: that a word would be guessed next at an actor. */
    private static final class Seen {
        private final int[] actors = new int[MOST_SEEN];
        private final int[] words = new int[MOST_SEEN];
        private int used;

        int size() {
            return used;
        }

        int add(int a, int w) {
            if (used < 0 || used >= MOST_SEEN) {
                return FULL;
            }
            actors[used] = a;
            words[used] = w;
            used++;
            return used;
        }

        int clear() {
            int was = used;
            used = 0;
            return was;
        }

        boolean holdsBy(int habit, Board board, Scene on) {
            for (int i = 0; i < used && i < MOST_SEEN; i++) {
                if (!on.waits(actors[i]) || board.heaviest(on, actors[i], ALL_TAKEN_IN, habit) != words[i]) {
                    return false;
                }
            }
            return true;
        }
    }

    /** Reads a text into a board and a scene, item by item. */
    private static final class Reader {
        private int[] text = new int[0];
        private int end;
        private int at;

        int firstFault(int[] letters, int length, Board board, Scene start) {
            text = letters;
            end = Math.min(length, letters.length);
            at = 0;
            board.clear();
            for (int item = 0; item < MOST_LETTERS && at < end; item++) {
                int place = at;
                if (!readItem(board, start)) {
                    return place;
                }
            }
            return NONE;
        }

        private boolean readItem(Board board, Scene start) {
            int letter = peek();
            at++;
            switch (letter) {
                case 'w': return readWord(board);
                case 'l': return readLikeness(board);
                case 'x': return readForbidden(board);
                case 'h': return readHabit(board);
                case 'r': return readPrice(board);
                case 'a': return readActor(board, start);
                default: return false;
            }
        }

        private boolean readWord(Board board) {
            int common = number(1, 9);
            if (common == NONE || !passes(',')) {
                return false;
            }
            int many = 0;
            int bits = 0;
            while (many < LONGEST_ROW && peek() >= 'a' && peek() < 'a' + PARTS) {
                bits |= 1 << peek() - 'a';
                many++;
                at++;
            }
            return many > 0 && passes(';') && board.addWord(common, many, bits);
        }

        private boolean readLikeness(Board board) {
            int bits = 0;
            for (int many = 0; many < MOST_WORDS && peek() != ';'; many++) {
                int w = peek() - '0';
                if (w < 0 || w >= board.words() || (bits >> w & 1) == 1) {
                    return false;
                }
                bits |= 1 << w;
                at++;
            }
            return bits != 0 && passes(';') && board.addLikeness(bits);
        }

        private boolean readForbidden(Board board) {
            int s = number(0, MOST_SIGNS - 1);
            if (s == NONE || !passes(';')) {
                return false;
            }
            board.forbid(s);
            return true;
        }

        private boolean readHabit(Board board) {
            int byLikeness = number(LOW_A, HIGH_A);
            if (byLikeness == NONE || !passes(',')) {
                return false;
            }
            int byPart = number(LOW_B, HIGH_B);
            if (byPart == NONE || !passes(';')) {
                return false;
            }
            board.setHabit(HABIT_STEP * byLikeness + byPart);
            return true;
        }

        private boolean readPrice(Board board) {
            int price = number(0, 9);
            if (price == NONE || !passes(';')) {
                return false;
            }
            board.setPrice(price);
            return true;
        }

        private boolean readActor(Board board, Scene start) {
            int kind = number(PLAIN, OLD_HAND);
            if (kind == NONE || !passes(',')) {
                return false;
            }
            int wanted = number(0, board.words() - 1);
            if (wanted == NONE || !passes(',')) {
                return false;
            }
            int coins = number(0, 99);
            if (coins == NONE || !passes(';') || !board.addActor()) {
                return false;
            }
            start.start(board.actors() - 1, kind, wanted, coins);
            return true;
        }

        /** A number of one or two figures from low to high, or NONE. */
        private int number(int low, int high) {
            int value = 0;
            int figures = 0;
            while (figures < 2 && isFigure(peek())) {
                value = 10 * value + peek() - '0';
                figures++;
                at++;
            }
            return figures > 0 && value >= low && value <= high ? value : NONE;
        }

        private static boolean isFigure(int letter) {
            return letter >= '0' && letter <= '9';
        }

        private boolean passes(int letter) {
            if (peek() != letter) {
                return false;
            }
            at++;
            return true;
        }

        private int peek() {
            return at >= 0 && at < end && at < text.length ? text[at] : 0;
        }
    }

    /** FEWEST of one actor, for all words at once: rows of signs by length, then in order. */
    private static final class Search {
        /** The signs that are not forbidden, and by what each of them multiplies each word. */
        private final int[] free = new int[MOST_SIGNS];
        private final int[] factors = new int[MOST_SIGNS * MOST_WORDS];
        /** Weights besides none, one, two, three signs of the row that is tried. */
        private final int[] weights = new int[(LONGEST_ROW + 1) * MOST_WORDS];
        /** The row that is tried: places in free. */
        private final int[] row = new int[LONGEST_ROW];
        private final int[] lengths = new int[MOST_WORDS];
        private final int[] signs = new int[MOST_WORDS * LONGEST_ROW];
        private int words;
        private int freeCount;
        /** Words not yet found that have any weight: with none left, no row can find more. */
        private int open;

        void run(Board board, Scene on, int a) {
            weighAtFirst(board, on, a);
            findFree(board, on.cell(a, KIND));
            judge(0);
            int longest = Math.min(LONGEST_ROW, MOST_SHOWN - on.cell(a, SHOWN));
            for (int length = 1; length <= longest; length++) {
                tryRows(length);
            }
        }

        int howMany(int w) {
            return w >= 0 && w < words ? lengths[w] : NONE;
        }

        int signOf(int w, int k) {
            return k >= 0 && k < howMany(w) && k < LONGEST_ROW ? signs[w * LONGEST_ROW + k] : NONE;
        }

        private void weighAtFirst(Board board, Scene on, int a) {
            words = Math.min(board.words(), MOST_WORDS);
            open = 0;
            for (int w = 0; w < words; w++) {
                lengths[w] = NONE;
                weights[w] = board.weightOf(on, a, w, ALL_TAKEN_IN, board.habit());
                if (weights[w] > 0) {
                    open++;
                }
            }
        }

        private void findFree(Board board, int kind) {
            freeCount = 0;
            for (int s = 0; s < board.signs() && s < MOST_SIGNS; s++) {
                if (!board.isForbidden(s)) {
                    free[freeCount] = s;
                    for (int w = 0; w < words; w++) {
                        factors[freeCount * MOST_WORDS + w] = board.factor(kind, s, w, board.habit());
                    }
                    freeCount++;
                }
            }
        }

        /** All rows of one length in order: the last sign that can rise does, and those behind it are alike to it. */
        private void tryRows(int length) {
            int last = Math.min(length, LONGEST_ROW) - 1;
            int at = 0;
            int next = 0;
            for (int tried = 0; tried < MOST_ROWS && at >= 0 && next < freeCount && open > 0; tried++) {
                for (int depth = at; depth <= last; depth++) {
                    row[depth] = next;
                    multiply(depth, next);
                }
                judge(length);
                at = last;
                while (at >= 0 && row[at] + 1 >= freeCount) {
                    at--;
                }
                next = at >= 0 ? row[at] + 1 : 0;
            }
        }

        private void multiply(int depth, int place) {
            int from = depth * MOST_WORDS;
            int to = from + MOST_WORDS;
            int by = place * MOST_WORDS;
            if (from < 0 || to + words > weights.length || by < 0 || by + words > factors.length) {
                return;
            }
            for (int w = 0; w < words; w++) {
                weights[to + w] = weights[from + w] * factors[by + w];
            }
        }

        private void judge(int length) {
            int best = heaviest(length);
            if (best < 0 || best >= words || lengths[best] != NONE) {
                return;
            }
            lengths[best] = length;
            for (int k = 0; k < length && k < LONGEST_ROW; k++) {
                signs[best * LONGEST_ROW + k] = freeAt(row[k]);
            }
            open--;
        }

        private int freeAt(int place) {
            return place >= 0 && place < freeCount && place < MOST_SIGNS ? free[place] : NONE;
        }

        private int heaviest(int length) {
            int from = length * MOST_WORDS;
            if (from < 0 || from + words > weights.length) {
                return NONE;
            }
            int best = NONE;
            int most = 0;
            for (int w = 0; w < words; w++) {
                if (weights[from + w] > most) {
                    most = weights[from + w];
                    best = w;
                }
            }
            return best;
        }
    }

    /** SEND: words dealt out anew to actors, so that the costs are least in sum. */
    private static final class Deal {
        private final int[] actors = new int[MOST_ACTORS];
        private final int[] words = new int[MOST_ACTORS];
        private final int[] costs = new int[MOST_ACTORS * MOST_ACTORS];
        /** By the words that are left (bits): the least that the actors who are left come to. */
        private final int[] least = new int[1 << MOST_ACTORS];
        private final int[] dealt = new int[MOST_ACTORS];
        private int used;

        void start() {
            used = 0;
        }

        void add(int a, int w) {
            if (used >= 0 && used < MOST_ACTORS) {
                actors[used] = a;
                words[used] = w;
                used++;
            }
        }

        int size() {
            return used;
        }

        int actorAt(int i) {
            return i >= 0 && i < used && i < MOST_ACTORS ? actors[i] : 0;
        }

        int wordAt(int j) {
            return j >= 0 && j < used && j < MOST_ACTORS ? words[j] : 0;
        }

        void setCost(int i, int j, int cost) {
            if (i >= 0 && i < MOST_ACTORS && j >= 0 && j < MOST_ACTORS) {
                costs[i * MOST_ACTORS + j] = cost;
            }
        }

        int total() {
            int all = (1 << used) - 1;
            return all >= 0 && all < least.length ? least[all] : 0;
        }

        int wordFor(int a) {
            for (int i = 0; i < used && i < MOST_ACTORS; i++) {
                if (actors[i] == a) {
                    return wordAt(dealt[i]);
                }
            }
            return NONE;
        }

        void settle() {
            least[0] = 0;
            for (int left = 1; left < 1 << used && left < least.length; left++) {
                least[left] = sumWith(left, firstOfBest(left));
            }
            int left = (1 << used) - 1;
            for (int i = 0; i < used && i < MOST_ACTORS; i++) {
                dealt[i] = firstOfBest(left);
                left &= ~(1 << dealt[i]);
            }
        }

        /** Which of the words that are left goes to the lowest actor who is left. */
        private int firstOfBest(int left) {
            int best = NONE;
            for (int j = 0; j < used; j++) {
                if ((left >> j & 1) == 1 && (best == NONE || sumWith(left, j) < sumWith(left, best))) {
                    best = j;
                }
            }
            return best;
        }

        private int sumWith(int left, int j) {
            int i = used - Integer.bitCount(left);
            int rest = left & ~(1 << j);
            int at = i * MOST_ACTORS + j;
            return at >= 0 && at < costs.length && rest >= 0 && rest < least.length ? costs[at] + least[rest] : 0;
        }
    }

    /** QUEUE: the shortest first wait least in sum; of those alike the lowest is first. */
    private static final class Line {
        private final int[] actors = new int[MOST_ACTORS];
        private final int[] minutes = new int[MOST_ACTORS];
        private int used;

        void start() {
            used = 0;
        }

        void add(int a, int takes) {
            if (used < 0 || used >= MOST_ACTORS) {
                return;
            }
            int at = used;
            for (; at > 0 && minutes[at - 1] > takes; at--) {
                actors[at] = actors[at - 1];
                minutes[at] = minutes[at - 1];
            }
            actors[at] = a;
            minutes[at] = takes;
            used++;
        }

        int actorAt(int k) {
            return k >= 0 && k < used && k < MOST_ACTORS ? actors[k] : NONE;
        }

        int waited() {
            int sum = 0;
            int now = 0;
            for (int i = 0; i < used && i < MOST_ACTORS; i++) {
                sum += now;
                now += minutes[i];
            }
            return sum;
        }
    }
}
