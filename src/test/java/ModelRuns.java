import java.math.BigInteger;
import java.util.ArrayDeque;
import java.util.ArrayList;
import java.util.Arrays;
import java.util.Deque;
import java.util.List;
import java.util.Random;
import java.util.regex.Matcher;
import java.util.regex.Pattern;

/**
 * Random runs of calls (fixed seeds) against a second reading of the document, made the slow way:
 * regular expressions for the text, all permutations, plays on copies. No run is longer than 512 calls.
 */
public final class ModelRuns {
    static final int BAD = -1, NO = -2, FULL = -3, NONE = -4;
    static int wrong = 0;

    static final class Person implements Cloneable {
        int kind, wanted, coins, stands;
        List<Integer> signs = new ArrayList<>();
        List<Integer> wrongs = new ArrayList<>();

        Person copy() {
            Person p = new Person();
            p.kind = kind;
            p.wanted = wanted;
            p.coins = coins;
            p.stands = stands;
            p.signs = new ArrayList<>(signs);
            p.wrongs = new ArrayList<>(wrongs);
            return p;
        }
    }

    static final class Told {
        List<Integer> common = new ArrayList<>();
        List<String> rows = new ArrayList<>();
        List<String> likenesses = new ArrayList<>();
        boolean[] forbidden = new boolean[15];
        int byLikeness = 3, byPart = 2, price = 2;
        List<Person> people = new ArrayList<>();
    }

    static final class Model {
        String text = "";
        Told told = read("w5,ab;w3,abc;w7,d;w2,de;w4,fa;w6,c;l01;l23;l4;l25;x7;h3,2;"
            + "a0,0,20;a1,3,9;a2,4,30;a3,1,15;r2;", new int[1]);
        List<Person> people = copies(told.people);
        Deque<List<Person>> past = new ArrayDeque<>();
        Deque<List<Person>> kept = new ArrayDeque<>();
        List<int[]> seen = new ArrayList<>();

        static List<Person> copies(List<Person> of) {
            List<Person> all = new ArrayList<>();
            for (Person p : of) {
                all.add(p.copy());
            }
            return all;
        }

        static Told read(String text, int[] place) {
            Told told = new Told();
            place[0] = NONE;
            int at = 0;
            while (at < text.length()) {
                int end = text.indexOf(';', at);
                if (end < 0 || !readItem(told, text.substring(at, end))) {
                    place[0] = at;
                    return told;
                }
                at = end + 1;
            }
            return told;
        }

        static Matcher like(String item, String pattern) {
            Matcher m = Pattern.compile(pattern).matcher(item);
            return m.matches() ? m : null;
        }

        static boolean within(int n, int low, int high) {
            return n >= low && n <= high;
        }

        static boolean readItem(Told told, String item) {
            String n = "([0-9]{1,2})";
            Matcher m;
            if ((m = like(item, "w" + n + ",([a-f]{1,3})")) != null) {
                told.common.add(Integer.parseInt(m.group(1)));
                told.rows.add(m.group(2));
                return within(Integer.parseInt(m.group(1)), 1, 9) && told.rows.size() <= 8;
            }
            if ((m = like(item, "l([0-9]+)")) != null) {
                String row = m.group(1);
                for (int i = 0; i < row.length(); i++) {
                    if (row.charAt(i) - '0' >= told.rows.size() || row.indexOf(row.charAt(i)) != i) {
                        return false;
                    }
                }
                told.likenesses.add(row);
                return told.likenesses.size() <= 6;
            }
            if ((m = like(item, "x" + n)) != null) {
                int s = Integer.parseInt(m.group(1));
                if (s <= 14) {
                    told.forbidden[s] = true;
                }
                return s <= 14;
            }
            if ((m = like(item, "h" + n + "," + n)) != null) {
                told.byLikeness = Integer.parseInt(m.group(1));
                told.byPart = Integer.parseInt(m.group(2));
                return within(told.byLikeness, 2, 5) && within(told.byPart, 1, 4);
            }
            if ((m = like(item, "r" + n)) != null) {
                told.price = Integer.parseInt(m.group(1));
                return told.price <= 9;
            }
            if ((m = like(item, "a" + n + "," + n + "," + n)) != null) {
                Person p = new Person();
                p.kind = Integer.parseInt(m.group(1));
                p.wanted = Integer.parseInt(m.group(2));
                p.coins = Integer.parseInt(m.group(3));
                told.people.add(p);
                return p.kind <= 3 && p.wanted < told.rows.size() && told.people.size() <= 5;
            }
            return false;
        }

        int words() {
            return told.rows.size();
        }

        int signs() {
            return 9 + told.likenesses.size();
        }

        boolean isWord(int w) {
            return within(w, 0, words() - 1);
        }

        boolean isSign(int s) {
            return within(s, 0, signs() - 1);
        }

        boolean isActor(int a) {
            return within(a, 0, people.size() - 1);
        }

        int times(int kind, int sign, int w, int byLikeness, int byPart) {
            int power = kind == 2 ? 2 : 1;
            if (sign <= 5) {
                char part = "abcdef".charAt(sign);
                if (kind == 1) {
                    part = "bcdefa".charAt(sign);
                }
                return told.rows.get(w).indexOf(part) >= 0 ? (int) Math.round(Math.pow(byPart, power)) : 1;
            }
            if (sign <= 8) {
                return told.rows.get(w).length() == sign - 5 ? 1 : 0;
            }
            boolean in = told.likenesses.get(sign - 9).indexOf((char) ('0' + w)) >= 0;
            int by = kind == 3 ? byLikeness + 1 : (int) Math.round(Math.pow(byLikeness, power));
            return in ? by : 1;
        }

        int weigh(Person p, List<Integer> signs, int w, int byLikeness, int byPart) {
            int n = p.wrongs.contains(w) ? 0 : told.common.get(w);
            for (int s : signs) {
                n *= times(p.kind, s, w, byLikeness, byPart);
            }
            return n;
        }

        int guessed(Person p, List<Integer> signs, int byLikeness, int byPart) {
            int best = NONE;
            for (int w = words() - 1; w >= 0; w--) {
                int n = weigh(p, signs, w, byLikeness, byPart);
                if (n > 0 && (best == NONE || n >= weigh(p, signs, best, byLikeness, byPart))) {
                    best = w;
                }
            }
            return best;
        }

        int guessed(Person p, List<Integer> signs) {
            return guessed(p, signs, told.byLikeness, told.byPart);
        }

        List<Integer> besides(Person p, List<Integer> more) {
            List<Integer> all = new ArrayList<>(p.signs);
            all.addAll(more);
            return all;
        }

        /** null if there is none. */
        List<Integer> fewestRow(Person p, int w) {
            List<List<Integer>> level = new ArrayList<>();
            level.add(new ArrayList<>());
            for (int length = 0; length <= 3 && p.signs.size() + length <= 5; length++) {
                List<List<Integer>> longer = new ArrayList<>();
                for (List<Integer> row : level) {
                    if (guessed(p, besides(p, row)) == w) {
                        return row;
                    }
                    int from = row.isEmpty() ? 0 : row.get(row.size() - 1);
                    for (int s = from; s < signs(); s++) {
                        if (!told.forbidden[s]) {
                            List<Integer> more = new ArrayList<>(row);
                            more.add(s);
                            longer.add(more);
                        }
                    }
                }
                level = longer;
            }
            return null;
        }

        void remember() {
            past.addLast(copies(people));
            if (past.size() > 8) {
                past.removeFirst();
            }
        }

        int doShow(List<Person> on, int a, int s) {
            if (told.forbidden[s]) {
                on.get(a).stands = 3;
                return 0;
            }
            on.get(a).signs.add(s);
            return 1;
        }

        int doGuess(List<Person> on, int a) {
            Person p = on.get(a);
            int w = guessed(p, p.signs);
            if (w == NONE) {
                p.stands = 2;
            } else if (w == p.wanted) {
                int due = told.price * p.signs.size();
                p.stands = p.coins < due ? 2 : 1;
                p.coins -= p.coins < due ? 0 : due;
            } else {
                p.wrongs.add(w);
                p.stands = p.wrongs.size() == 3 ? 2 : 0;
            }
            return w;
        }

        // ---- the calls

        long write(int letter) {
            if (!within(letter, 32, 126)) {
                return BAD;
            }
            if (text.length() == 200) {
                return FULL;
            }
            text += (char) letter;
            return text.length();
        }

        long wipe() {
            int n = text.length();
            text = "";
            return n;
        }

        long fault() {
            int[] place = new int[1];
            read(text, place);
            return place[0];
        }

        long lay() {
            int[] place = new int[1];
            Told now = read(text, place);
            if (place[0] != NONE || now.rows.isEmpty() || now.people.isEmpty()) {
                return NO;
            }
            told = now;
            people = copies(told.people);
            past.clear();
            kept.clear();
            seen.clear();
            return people.size();
        }

        long word(int w, int what) {
            if (!isWord(w) || !within(what, 0, 3)) {
                return BAD;
            }
            int parts = 0;
            for (char c : told.rows.get(w).toCharArray()) {
                parts |= 1 << (c - 'a');
            }
            int in = 0;
            for (int l = 0; l < told.likenesses.size(); l++) {
                in += told.likenesses.get(l).contains("" + w) ? 1 << l : 0;
            }
            return new int[] {told.common.get(w), told.rows.get(w).length(), parts, in}[what];
        }

        long actor(int a, int what) {
            if (!isActor(a) || !within(what, 0, 5)) {
                return BAD;
            }
            Person p = people.get(a);
            int bits = 0;
            for (int w : p.wrongs) {
                bits += 1 << w;
            }
            return new int[] {p.kind, p.wanted, p.coins, p.signs.size(), bits, p.stands}[what];
        }

        long shown(int a, int k) {
            if (!isActor(a) || k < 0) {
                return BAD;
            }
            return k < people.get(a).signs.size() ? people.get(a).signs.get(k) : NONE;
        }

        long show(int a, int s) {
            if (!isActor(a) || !isSign(s)) {
                return BAD;
            }
            if (people.get(a).stands != 0 || people.get(a).signs.size() == 5) {
                return NO;
            }
            remember();
            return doShow(people, a, s);
        }

        long guess(int a) {
            if (!isActor(a)) {
                return BAD;
            }
            if (people.get(a).stands != 0) {
                return NO;
            }
            remember();
            return doGuess(people, a);
        }

        boolean fresh(int a) {
            return people.get(a).stands == 0 && people.get(a).signs.isEmpty();
        }

        long change(int a, int b) {
            if (!isActor(a) || !isActor(b) || a == b) {
                return BAD;
            }
            if (!fresh(a) || !fresh(b)) {
                return NO;
            }
            remember();
            int w = people.get(a).wanted;
            people.get(a).wanted = people.get(b).wanted;
            people.get(b).wanted = w;
            return people.get(a).wanted;
        }

        long undo() {
            if (past.isEmpty()) {
                return NO;
            }
            people = past.removeLast();
            return past.size();
        }

        long weight(int a, int w) {
            if (!isActor(a) || !isWord(w)) {
                return BAD;
            }
            return weigh(people.get(a), people.get(a).signs, w, told.byLikeness, told.byPart);
        }

        long likely(int a, int w, int part) {
            if (!isActor(a) || !isWord(w) || !within(part, 0, 1)) {
                return BAD;
            }
            long sum = 0;
            for (int u = 0; u < words(); u++) {
                sum += weight(a, u);
            }
            return sum == 0 ? part : part == 0 ? weight(a, w) : sum;
        }

        long next(int a) {
            if (!isActor(a)) {
                return BAD;
            }
            return people.get(a).stands == 0 ? guessed(people.get(a), people.get(a).signs) : NO;
        }

        long fewest(int a, int w, int k) {
            if (!isActor(a) || !isWord(w) || !within(k, 0, 3)) {
                return BAD;
            }
            if (people.get(a).stands != 0) {
                return NO;
            }
            List<Integer> row = fewestRow(people.get(a), w);
            if (row == null) {
                return NONE;
            }
            return k == 0 ? row.size() : k <= row.size() ? row.get(k - 1) : NONE;
        }

        long tells(int a) {
            if (!isActor(a)) {
                return BAD;
            }
            Person p = people.get(a);
            if (p.stands != 0) {
                return NO;
            }
            int best = NONE;
            BigInteger above = BigInteger.ZERO;
            BigInteger below = BigInteger.ONE;
            for (int s = signs() - 1; s >= 0 && p.signs.size() < 5; s--) {
                if (told.forbidden[s]) {
                    continue;
                }
                List<Integer> all = besides(p, List.of(s));
                BigInteger mine = BigInteger.valueOf(weigh(p, all, p.wanted, told.byLikeness, told.byPart));
                long sum = 0;
                for (int w = 0; w < words(); w++) {
                    sum += weigh(p, all, w, told.byLikeness, told.byPart);
                }
                BigInteger whole = BigInteger.valueOf(sum == 0 ? 1 : sum);
                if (best == NONE || mine.multiply(below).compareTo(above.multiply(whole)) >= 0) {
                    best = s;
                    above = mine;
                    below = whole;
                }
            }
            return best;
        }

        void permute(List<Integer> rest, List<Integer> begun, List<List<Integer>> all) {
            if (rest.isEmpty()) {
                all.add(new ArrayList<>(begun));
            }
            for (int i = 0; i < rest.size(); i++) {
                List<Integer> others = new ArrayList<>(rest);
                begun.add(others.remove(i));
                permute(others, begun, all);
                begun.remove(begun.size() - 1);
            }
        }

        List<List<Integer>> orders(List<Integer> of) {
            List<List<Integer>> all = new ArrayList<>();
            permute(of, new ArrayList<>(), all);
            return all;
        }

        long send(int a) {
            if (a != -1 && !isActor(a)) {
                return BAD;
            }
            List<Integer> dealt = new ArrayList<>();
            for (int b = 0; b < people.size(); b++) {
                if (fresh(b)) {
                    dealt.add(b);
                }
            }
            int[][] cost = new int[5][5];
            for (int b : dealt) {
                for (int c : dealt) {
                    List<Integer> row = fewestRow(people.get(b), people.get(c).wanted);
                    cost[b][c] = row == null ? 9 : row.size();
                }
            }
            int least = Integer.MAX_VALUE;
            List<Integer> best = null;
            for (List<Integer> order : orders(dealt)) {
                int sum = 0;
                for (int i = 0; i < dealt.size(); i++) {
                    sum += cost[dealt.get(i)][order.get(i)];
                }
                if (sum < least) {
                    least = sum;
                    best = order;
                }
            }
            if (a == -1) {
                return least;
            }
            int at = dealt.indexOf(a);
            return at < 0 ? NONE : people.get(best.get(at)).wanted;
        }

        long queue(int k) {
            if (k < -1) {
                return BAD;
            }
            List<Integer> waiting = new ArrayList<>();
            int[] takes = new int[5];
            for (int a = 0; a < people.size(); a++) {
                if (people.get(a).stands == 0) {
                    waiting.add(a);
                    List<Integer> row = fewestRow(people.get(a), people.get(a).wanted);
                    takes[a] = row == null ? 5 : 1 + row.size();
                }
            }
            int least = Integer.MAX_VALUE;
            List<Integer> best = null;
            for (List<Integer> order : orders(waiting)) {
                int sum = 0;
                int now = 0;
                for (int a : order) {
                    sum += now;
                    now += takes[a];
                }
                if (sum < least) {
                    least = sum;
                    best = order;
                }
            }
            return k == -1 ? least : k < best.size() ? best.get(k) : NONE;
        }

        long parted(int w, int u) {
            if (!isWord(w) || !isWord(u) || w == u) {
                return BAD;
            }
            int bits = 0;
            for (int s = 0; s < signs(); s++) {
                int one = times(0, s, w, told.byLikeness, told.byPart);
                bits += one == times(0, s, u, told.byLikeness, told.byPart) ? 0 : 1 << s;
            }
            return bits;
        }

        long most() {
            int many = 0;
            for (int a = 0; a < people.size(); a++) {
                List<Person> play = copies(people);
                Person p = play.get(a);
                List<Integer> row = p.stands == 0 ? fewestRow(p, p.wanted) : null;
                if (row != null) {
                    p.signs.addAll(row);
                    doGuess(play, a);
                    many += p.stands == 1 ? 1 : 0;
                }
            }
            return many;
        }

        long see(int a, int w) {
            if (!isActor(a) || !isWord(w)) {
                return BAD;
            }
            if (seen.size() == 6) {
                return FULL;
            }
            seen.add(new int[] {a, w});
            return seen.size();
        }

        long forget() {
            int n = seen.size();
            seen.clear();
            return n;
        }

        long habits(int what) {
            List<Integer> found = new ArrayList<>();
            for (int habit = 21; habit <= 54; habit++) {
                boolean so = habit % 10 >= 1 && habit % 10 <= 4;
                for (int[] one : seen) {
                    Person p = people.get(one[0]);
                    so = so && p.stands == 0 && guessed(p, p.signs, habit / 10, habit % 10) == one[1];
                }
                if (so) {
                    found.add(habit);
                }
            }
            if (what == 0) {
                return found.size();
            }
            return what != 1 ? BAD : found.isEmpty() ? NONE : found.get(0);
        }

        long wants(int a) {
            if (!isActor(a)) {
                return BAD;
            }
            if (people.get(a).stands != 0) {
                return NO;
            }
            int bits = 0;
            for (int w = 0; w < words(); w++) {
                bits += fewestRow(people.get(a), w) == null ? 0 : 1 << w;
            }
            return bits;
        }

        BigInteger chance(Person p, int k, List<Integer> taken, int x) {
            if (k == p.signs.size()) {
                return guessed(p, taken) == p.wanted ? BigInteger.ONE : BigInteger.ZERO;
            }
            List<Integer> more = new ArrayList<>(taken);
            more.add(p.signs.get(k));
            BigInteger missing = chance(p, k + 1, taken, x).multiply(BigInteger.valueOf(x));
            return missing.add(chance(p, k + 1, more, x).multiply(BigInteger.valueOf(10 - x)));
        }

        long missed(int a, int x, int part) {
            if (!isActor(a) || !within(x, 0, 10) || !within(part, 0, 1)) {
                return BAD;
            }
            Person p = people.get(a);
            if (p.stands != 0) {
                return NO;
            }
            BigInteger above = chance(p, 0, new ArrayList<>(), x);
            BigInteger below = BigInteger.TEN.pow(p.signs.size());
            BigInteger both = above.gcd(below);
            return (part == 0 ? above : below).divide(both).longValue();
        }

        long season(int z, int n, int what) {
            if (!within(z, 0, 9999) || !within(n, 1, 60) || !within(what, 0, 1)) {
                return BAD;
            }
            List<Person> play = copies(people);
            int paid = 0;
            for (int k = 0; k < n; k++) {
                BigInteger x = BigInteger.valueOf(7919L * z + 6151L * k + 1);
                int draw = x.multiply(x).mod(BigInteger.valueOf(65521)).intValue() / 2;
                int a = draw % play.size();
                Person p = play.get(a);
                int had = p.coins;
                if (p.stands == 0 && draw / 256 % 3 == 0) {
                    doGuess(play, a);
                } else if (p.stands == 0 && p.signs.size() < 5) {
                    doShow(play, a, draw / 8 % signs());
                }
                paid += had - p.coins;
            }
            int through = 0;
            for (Person p : play) {
                through += p.stands == 1 ? 1 : 0;
            }
            return what == 0 ? through : paid;
        }

        long keep() {
            if (kept.size() == 2) {
                return FULL;
            }
            kept.addLast(copies(people));
            return kept.size();
        }

        long back() {
            if (kept.isEmpty()) {
                return NO;
            }
            people = kept.removeLast();
            past.clear();
            return kept.size();
        }

        long count(int what) {
            int[] stand = new int[4];
            int signs = 0;
            for (Person p : people) {
                stand[p.stands]++;
                signs += p.signs.size();
            }
            int[] all = {words(), signs(), people.size(), told.price, stand[0], stand[1], stand[2], stand[3],
                signs, seen.size(), past.size(), kept.size(), text.length()};
            return within(what, 0, 12) ? all[what] : BAD;
        }
    }

    static int pick(Random r, int many) {
        int[] wild = {-1, -2, many, many + 1, Integer.MIN_VALUE, Integer.MAX_VALUE, -4, 99};
        return r.nextInt(25) == 0 ? wild[r.nextInt(wild.length)] : r.nextInt(Math.max(1, many));
    }

    static String randomItem(Random r, int words) {
        switch (r.nextInt(6)) {
            case 0: {
                StringBuilder row = new StringBuilder();
                for (int n = 1 + r.nextInt(3); n > 0; n--) {
                    row.append((char) ('a' + r.nextInt(6)));
                }
                return "w" + (1 + r.nextInt(9)) + "," + row;
            }
            case 1: {
                StringBuilder row = new StringBuilder();
                for (int w = 0; w < words; w++) {
                    if (r.nextInt(3) == 0) {
                        row.insert(r.nextInt(row.length() + 1), w);
                    }
                }
                return "l" + (row.length() == 0 ? "0" : row);
            }
            case 2: return "x" + r.nextInt(15);
            case 3: return "h" + (2 + r.nextInt(4)) + "," + (1 + r.nextInt(4));
            case 4: return "r" + (r.nextBoolean() ? "" : "0") + r.nextInt(10);
            default: return "a" + r.nextInt(4) + "," + r.nextInt(Math.max(1, words)) + "," + r.nextInt(100);
        }
    }

    static String randomText(Random r) {
        int words = 1 + r.nextInt(8);
        StringBuilder text = new StringBuilder();
        for (int w = 0; w < words; w++) {
            String item = randomItem(r, words);
            while (item.charAt(0) != 'w') {
                item = randomItem(r, words);
            }
            text.append(item).append(';');
        }
        int people = 1 + r.nextInt(5);
        for (int i = 0; i < people; i++) {
            text.append('a').append(r.nextInt(4)).append(',').append(r.nextInt(words)).append(',');
            text.append(r.nextInt(r.nextBoolean() ? 10 : 60)).append(';');
        }
        int likenesses = r.nextInt(7);
        int others = r.nextInt(5);
        for (int i = 0; i < likenesses + others && text.length() < 180; i++) {
            String item = randomItem(r, words);
            if (i < likenesses ? item.charAt(0) == 'l' : "xhr".indexOf(item.charAt(0)) >= 0) {
                text.append(item).append(';');
            }
        }
        return text.length() > 200 ? text.substring(0, 200) : text.toString();
    }

    static String spoilt(Random r, String text) {
        String letters = "wlxhra,;0123456789abcdefg ~";
        StringBuilder now = new StringBuilder(text);
        int at = r.nextInt(now.length());
        switch (r.nextInt(3)) {
            case 0: now.setCharAt(at, letters.charAt(r.nextInt(letters.length()))); break;
            case 1: now.deleteCharAt(at); break;
            default: now.insert(at, letters.charAt(r.nextInt(letters.length()))); break;
        }
        return now.length() > 200 ? now.substring(0, 200) : now.toString();
    }

    static void due(String seed, String call, long got, long want) {
        if (got != want) {
            wrong++;
            if (wrong < 20) {
                System.out.println("run " + seed + ": " + call + " answered " + got + ", due is " + want);
            }
        }
    }

    static void oneCall(Random r, String run, CharadePost x, Model m) {
        int words = m.words();
        int people = m.people.size();
        int a = pick(r, people);
        int b = pick(r, people);
        int w = pick(r, words);
        int u = pick(r, words);
        int s = pick(r, m.signs());
        int k;
        switch (r.nextInt(40)) {
            case 0: k = pick(r, 4); due(run, "word " + w + " " + k, x.word(w, k), m.word(w, k)); break;
            case 1: due(run, "forbidden " + s, x.forbidden(s), !m.isSign(s) ? BAD : m.told.forbidden[s] ? 1 : 0); break;
            case 2: k = pick(r, 6); due(run, "actor " + a + " " + k, x.actor(a, k), m.actor(a, k)); break;
            case 3: k = pick(r, 5); due(run, "shown " + a + " " + k, x.shown(a, k), m.shown(a, k)); break;
            case 4: case 5: case 6: case 7: case 8: case 9: case 10:
                if (r.nextInt(5) > 0 && m.isSign(s) && m.told.forbidden[s]) {
                    break;
                }
                due(run, "show " + a + " " + s, x.show(a, s), m.show(a, s)); break;
            case 11: case 12: due(run, "guess " + a, x.guess(a), m.guess(a)); break;
            case 13: due(run, "change " + a + " " + b, x.change(a, b), m.change(a, b)); break;
            case 14: case 15: due(run, "undo", x.undo(), m.undo()); break;
            case 16: case 17: due(run, "weight " + a + " " + w, x.weight(a, w), m.weight(a, w)); break;
            case 18: k = pick(r, 2); due(run, "likely " + a + " " + w + " " + k, x.likely(a, w, k), m.likely(a, w, k)); break;
            case 19: due(run, "next " + a, x.next(a), m.next(a)); break;
            case 20: case 21:
                k = pick(r, 4); due(run, "fewest " + a + " " + w + " " + k, x.fewest(a, w, k), m.fewest(a, w, k)); break;
            case 22: case 23: due(run, "tells " + a, x.tells(a), m.tells(a)); break;
            case 24: k = pick(r, people + 1) - 1; due(run, "send " + k, x.send(k), m.send(k)); break;
            case 25: k = pick(r, people + 1) - 1; due(run, "queue " + k, x.queue(k), m.queue(k)); break;
            case 26: due(run, "parted " + w + " " + u, x.parted(w, u), m.parted(w, u)); break;
            case 27: due(run, "most", x.most(), m.most()); break;
            case 28: case 29: due(run, "see " + a + " " + w, x.see(a, w), m.see(a, w)); break;
            case 30: due(run, "forget", x.forget(), m.forget()); break;
            case 31: case 32: k = pick(r, 2); due(run, "habits " + k, x.habits(k), m.habits(k)); break;
            case 33: due(run, "wants " + a, x.wants(a), m.wants(a)); break;
            case 34: case 35:
                k = pick(r, 11); s = pick(r, 2);
                due(run, "missed " + a + " " + k + " " + s, x.missed(a, k, s), m.missed(a, k, s)); break;
            case 36:
                k = pick(r, 10000); s = pick(r, 61); w = pick(r, 2);
                due(run, "season " + k + " " + s + " " + w, x.season(k, s, w), m.season(k, s, w)); break;
            case 37: due(run, "keep", x.keep(), m.keep()); break;
            case 38: if (r.nextInt(3) == 0) { due(run, "back", x.back(), m.back()); } break;
            default: k = pick(r, 13); due(run, "count " + k, x.count(k), m.count(k)); break;
        }
    }

    static void letAct(Random r, String run, CharadePost x, Model m, int calls) {
        for (int i = 0; i < calls; i++) {
            oneCall(r, run, x, m);
        }
    }

    static void writeAll(String run, CharadePost x, Model m, String text) {
        due(run, "wipe", x.wipe(), m.wipe());
        for (char c : text.toCharArray()) {
            due(run, "write " + c, x.write(c), m.write(c));
        }
        due(run, "fault of " + text, x.fault(), m.fault());
    }

    static void textRun(int seed, int kind) {
        Random r = new Random(seed);
        CharadePost x = new CharadePost();
        Model m = new Model();
        String text = randomText(r);
        for (int n = kind == 2 ? 1 + r.nextInt(3) : 0; n > 0; n--) {
            text = spoilt(r, text);
        }
        String run = seed + " " + text;
        int before = kind == 1 ? 60 : 0;
        letAct(r, run, x, m, before);
        writeAll(run, x, m, text);
        due(run, "lay", x.lay(), m.lay());
        letAct(r, run, x, m, 508 - before - text.length());
        due(run, "count 12", x.count(12), m.count(12));
    }

    public static void main(String[] args) {
        int[] made = new int[3];
        int from = args.length > 0 ? Integer.parseInt(args[0]) : 0;
        int runs = args.length > 1 ? Integer.parseInt(args[1]) : 400;
        for (int seed = from; seed < from + runs; seed++) {
            textRun(seed, seed % 3);
            made[seed % 3]++;
        }
        for (int seed = from; seed < from + runs / 4; seed++) {
            Random r = new Random(seed);
            letAct(r, "first " + seed, new CharadePost(), new Model(), 500);
        }
        System.out.println("ModelRuns " + Arrays.toString(made) + ": " + wrong + " wrong");
        if (wrong > 0) {
            System.exit(1);
        }
    }
}
