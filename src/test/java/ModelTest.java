import java.util.ArrayList;
import java.util.Comparator;
import java.util.HashSet;
import java.util.List;
import java.util.Random;
import java.util.Set;

/**
 * Runs of calls drawn from fixed seeds, each answered by PutBack and by a second, slow program that was written
 * from the document alone: words as texts, sums by plain recursion, questions asked of copies that are really typed on.
 */
public final class ModelTest {
    private static final int RUNS = 200, CALLS = 512;

    private static final List<String> SHORT_WORDS = shortWords();

    private static List<String> shortWords() {
        List<String> all = new ArrayList<>();
        for (int n = 1; n <= 999; n++) {
            String text = Integer.toString(n);
            if (text.matches("[1-8]{1,3}")) {
                all.add(text);
            }
        }
        return all;
    }

    static boolean isWord(int n) {
        return Integer.toString(n).matches("[1-8]{1,5}");
    }

    static boolean near(char a, char b) {
        return "12 23 34 56 67 78 15 26 37 48".contains("" + a + b)
            || "21 32 43 65 76 87 51 62 73 84".contains("" + a + b);
    }

    static List<String> slipped(String word) {
        List<String> all = new ArrayList<>();
        for (int k = 0; k < word.length(); k++) {
            for (char c = '1'; c <= '8'; c++) {
                if (near(word.charAt(k), c)) {
                    all.add(word.substring(0, k) + c + word.substring(k + 1));
                }
            }
        }
        return all;
    }

    // ---- a telephone, as an automaton that reads byte by byte

    static final class Automaton {
        private String name = "";
        private String at = "NAME";
        private boolean withE;
        private String stack = "";
        private int clauses = 1;

        private void dropNots() {
            while (stack.endsWith("!")) {
                stack = stack.substring(0, stack.length() - 1);
            }
        }

        private boolean nextClause() {
            clauses++;
            name = "";
            at = "NAME";
            return clauses <= 10;
        }

        private boolean digit(char c, String zero, String other) {
            if (c < '0' || c > '9') {
                return false;
            }
            at = c == '0' ? zero : other;
            return true;
        }

        boolean goesOn(char c) {
            if (at.equals("NAME")) {
                name += c;
                for (String whole : new String[] {"limit ", "step ", "dear ", "free "}) {
                    if (whole.equals(name)) {
                        at = "N1";
                        withE = name.startsWith("dear") || name.startsWith("free");
                        return true;
                    }
                    if (whole.startsWith(name)) {
                        return true;
                    }
                }
                return false;
            }
            if (at.equals("N1")) {
                return digit(c, "NEND", "N2");
            }
            if (at.equals("N2") && digit(c, "NEND", "NEND")) {
                return true;
            }
            if (at.equals("N2") || at.equals("NEND")) {
                if (withE) {
                    at = "F";
                    return c == ' ';
                }
                return c == ';' && nextClause();
            }
            if (at.equals("F")) {
                if (c == '!' || c == '(') {
                    stack += c;
                    return stack.length() <= 5;
                }
                at = "CMP";
                return "twdkis".indexOf(c) >= 0;
            }
            if (at.equals("CMP")) {
                at = "D1";
                return "<=>".indexOf(c) >= 0;
            }
            if (at.equals("D1")) {
                return digit(c, "DEND", "D2");
            }
            if (at.equals("D2") && digit(c, "DEND", "DEND")) {
                return true;
            }
            dropNots();
            at = "DEND";
            if (c == '&' || c == '|') {
                at = "F";
                return true;
            }
            if (c == ')') {
                if (!stack.endsWith("(")) {
                    return false;
                }
                stack = stack.substring(0, stack.length() - 1);
                dropNots();
                return true;
            }
            return c == ';' && stack.isEmpty() && nextClause();
        }

        boolean mayEnd() {
            if (at.equals("N2") || at.equals("NEND")) {
                return !withE;
            }
            return (at.equals("D2") || at.equals("DEND")) && stack.indexOf('(') < 0;
        }
    }

    static int faultOf(String tape) {
        Automaton automaton = new Automaton();
        for (int k = 0; k < tape.length(); k++) {
            if (!automaton.goesOn(tape.charAt(k))) {
                return k;
            }
        }
        return automaton.mayEnd() ? -1 : tape.length();
    }

    // ---- the slow program

    static final class Model {
        List<String> list = new ArrayList<>();
        List<Integer> weights = new ArrayList<>();
        List<Set<Integer>> next = new ArrayList<>();
        List<int[]> menders = new ArrayList<>();
        List<String> standing = new ArrayList<>(), fingered = new ArrayList<>(), left = new ArrayList<>();
        int typed;
        String tape = "";
        List<String> phones = new ArrayList<>();
        List<int[]> book = new ArrayList<>();
        Model image;
        List<Integer> trace = new ArrayList<>();

        Model copy() {
            Model c = new Model();
            c.list.addAll(list);
            c.weights.addAll(weights);
            for (Set<Integer> s : next) {
                c.next.add(new HashSet<>(s));
            }
            for (int[] m : menders) {
                c.menders.add(m.clone());
            }
            c.standing.addAll(standing);
            c.fingered.addAll(fingered);
            c.left.addAll(left);
            c.typed = typed;
            c.tape = tape;
            c.phones.addAll(phones);
            c.book.addAll(book);
            c.image = image;
            c.trace = trace;
            return c;
        }

        String[] clauses() {
            return phones.isEmpty() ? new String[0] : phones.get(phones.size() - 1).split(";");
        }

        int lastOf(String name, int without) {
            int n = without;
            for (String clause : clauses()) {
                String[] parts = clause.split(" ");
                if (parts[0].equals(name)) {
                    n = Integer.parseInt(parts[1]);
                }
            }
            return n;
        }

        boolean holds(String e, int[] facts) {
            for (char sign : new char[] {'|', '&'}) {
                int open = 0;
                for (int k = 0; k < e.length(); k++) {
                    open += e.charAt(k) == '(' ? 1 : e.charAt(k) == ')' ? -1 : 0;
                    if (open == 0 && e.charAt(k) == sign) {
                        boolean a = holds(e.substring(0, k), facts), b = holds(e.substring(k + 1), facts);
                        return sign == '|' ? a || b : a && b;
                    }
                }
            }
            if (e.charAt(0) == '!') {
                return !holds(e.substring(1), facts);
            }
            if (e.charAt(0) == '(') {
                return holds(e.substring(1, e.length() - 1), facts);
            }
            int fact = facts["twdkis".indexOf(e.charAt(0))];
            int number = Integer.parseInt(e.substring(2));
            return e.charAt(1) == '<' ? fact < number : e.charAt(1) == '=' ? fact == number : fact > number;
        }

        int far(int kind, String a, String b, int step) {
            if (a.isEmpty() || b.isEmpty()) {
                return step * (a.length() + b.length());
            }
            char x = a.charAt(0), y = b.charAt(0);
            if (x == y) {
                return far(kind, a.substring(1), b.substring(1), step);
            }
            int swap = (kind == 1 || kind == 4) && near(x, y) && 4 < step ? 4 : step;
            return Math.min(swap + far(kind, a.substring(1), b.substring(1), step),
                step + Math.min(far(kind, a.substring(1), b, step), far(kind, a, b.substring(1), step)));
        }

        int cost(int m, String word, int i) {
            int kind = menders.get(m)[0];
            String other = list.get(i);
            int sum = far(kind, word, other, lastOf("step", 10));
            if (kind == 5 && other.startsWith(word) && !other.equals(word)) {
                sum = 2;
            }
            int[] facts = {word.length(), other.length(), weights.get(i) / 10, kind, i, typed % 10};
            for (String clause : clauses()) {
                String[] parts = clause.split(" ");
                if (parts.length == 3 && holds(parts[2], facts)) {
                    sum += Integer.parseInt(parts[1]) * (parts[0].equals("dear") ? 1 : -1);
                }
            }
            if ((kind == 2 || kind == 5) && !standing.isEmpty()) {
                int last = list.indexOf(standing.get(standing.size() - 1));
                if (last >= 0 && next.get(last).contains(i)) {
                    sum -= 5;
                }
            }
            if (kind == 6) {
                sum += menders.get(m)[2 + typed % 4];
            }
            return sum < 0 ? 0 : sum;
        }

        String make(int m, String word) {
            int kind = menders.get(m)[0];
            if ((kind == 3 || kind == 6) && left.contains(word)) {
                return word;
            }
            int best = -1;
            for (int i = 0; i < list.size(); i++) {
                if (best < 0 || price(m, word, i) < price(m, word, best)) {
                    best = i;
                }
            }
            return best >= 0 && price(m, word, best) < 10 * lastOf("limit", 12) ? list.get(best) : word;
        }

        int price(int m, String word, int i) {
            return 10 * cost(m, word, i) - weights.get(i);
        }

        String typeOne(int m, String word) {
            String made = make(m, word);
            standing.add(made);
            fingered.add(word);
            typed++;
            int i = list.indexOf(made);
            if (i >= 0 && menders.get(m)[0] == 4) {
                weights.set(i, Math.min(99, weights.get(i) + menders.get(m)[1]));
            }
            return made;
        }

        boolean is(int m) {
            return m >= 0 && m < menders.size();
        }

        boolean on(int i) {
            return i >= 0 && i < list.size();
        }

        static int num(String word) {
            return Integer.parseInt(word);
        }

        int feed(int sign) {
            if (sign < 0 || sign > 127) {
                return -2;
            }
            if (tape.length() == 100) {
                return -4;
            }
            tape += (char) sign;
            return tape.length();
        }

        int telephone() {
            if (phones.size() == 5) {
                return -4;
            }
            String read = tape;
            tape = "";
            if (faultOf(read) >= 0) {
                return -10 - faultOf(read);
            }
            phones.add(read);
            return phones.size() - 1;
        }

        int word(int word, int weight) {
            if (!isWord(word) || weight < 0 || weight > 99) {
                return -2;
            }
            if (list.contains("" + word)) {
                return -3;
            }
            if (list.size() == 8) {
                return -4;
            }
            list.add("" + word);
            weights.add(weight);
            next.add(new HashSet<>());
            return list.size() - 1;
        }

        int listed(int i, int what) {
            if (!on(i) || what < 0 || what > 2) {
                return -1;
            }
            return what == 0 ? num(list.get(i)) : what == 1 ? weights.get(i) : bits(next.get(i));
        }

        static int bits(Set<Integer> set) {
            int bits = 0;
            for (int i : set) {
                bits += 1 << i;
            }
            return bits;
        }

        int weigh(int i, int n) {
            return !on(i) ? -1 : n < 0 || n > 99 ? -2 : weights.set(i, n);
        }

        int behind(int i, int j, boolean is) {
            if (!on(i) || !on(j)) {
                return -1;
            }
            boolean changed = is ? next.get(i).add(j) : next.get(i).remove(j);
            return is != changed ? 1 : 0;
        }

        int mender(int kind, int v) {
            if (kind < 0 || kind > 6) {
                return -1;
            }
            if (v < 0 || v > 9) {
                return -2;
            }
            if (menders.size() == 5) {
                return -4;
            }
            menders.add(new int[] {kind, v, 0, 0, 0, 0});
            return menders.size() - 1;
        }

        int of(int m, int what) {
            return !is(m) || what < 0 || what > 1 ? -1 : menders.get(m)[what];
        }

        int row(int m, int k, int n) {
            if (!is(m) || k < 0 || k > 3) {
                return -1;
            }
            if (n < 0 || n > 9) {
                return -2;
            }
            if (menders.get(m)[0] != 6) {
                return -3;
            }
            int was = menders.get(m)[2 + k];
            menders.get(m)[2 + k] = n;
            return was;
        }

        int type(int m, int word) {
            return !is(m) ? -1 : !isWord(word) ? -2 : standing.size() == 20 ? -4 : num(typeOne(m, "" + word));
        }

        int back() {
            if (standing.isEmpty()) {
                return -3;
            }
            String word = fingered.get(fingered.size() - 1);
            standing.set(standing.size() - 1, word);
            if (!left.contains(word) && left.size() < 6) {
                left.add(word);
            }
            return num(word);
        }

        int send() {
            int stood = standing.size();
            standing.clear();
            fingered.clear();
            return stood;
        }

        static int kth(List<String> words, int k) {
            return k >= 0 && k < words.size() ? num(words.get(k)) : -1;
        }

        int told(int what) {
            switch (what) {
                case 0: return typed;
                case 1: return lastOf("limit", 12);
                case 2: return lastOf("step", 10);
                case 3: return left.size();
                default:
                    return what >= 70 && what < 80 ? kth(left, what - 70)
                        : what >= 40 && what < 60 ? kth(fingered, what - 40)
                        : what >= 10 && what < 30 ? kth(standing, what - 10) : -1;
            }
        }

        int makes(int m, int word) {
            return !is(m) ? -1 : !isWord(word) ? -2 : num(make(m, "" + word));
        }

        int cost(int m, int word, int i, int what) {
            if (!is(m) || !on(i) || what < 0 || what > 1) {
                return -10001;
            }
            return !isWord(word) ? -10002 : what == 0 ? cost(m, "" + word, i) : price(m, "" + word, i);
        }

        int stays(int m) {
            if (!is(m)) {
                return -1;
            }
            Set<Integer> set = new HashSet<>();
            for (int i = 0; i < list.size(); i++) {
                if (make(m, list.get(i)).equals(list.get(i))) {
                    set.add(i);
                }
            }
            return bits(set);
        }

        /** How many, what, whether it is taken back. */
        int[] touching(int m, String word) {
            int[] best = null;
            Set<String> tried = new HashSet<>(SHORT_WORDS);
            tried.add(word);
            for (String w : tried) {
                if (make(m, w).equals(word)) {
                    int[] way = {w.length() + 1, num(w), 0};
                    if (best == null || way[0] < best[0] || way[0] == best[0] && way[1] < best[1]) {
                        best = way;
                    }
                }
            }
            int[] back = {word.length() + 2, num(word), 1};
            return best == null || back[0] < best[0] ? back : best;
        }

        int touches(int m, int word, int what) {
            return !is(m) || what < 0 || what > 2 ? -1 : !isWord(word) ? -2 : touching(m, "" + word)[what];
        }

        int never(int m) {
            if (!is(m)) {
                return -1;
            }
            Set<Integer> set = new HashSet<>();
            Set<String> had = new HashSet<>();
            for (String w : SHORT_WORDS) {
                had.add(make(m, w));
            }
            for (int i = 0; i < list.size(); i++) {
                if (!had.contains(list.get(i)) && !make(m, list.get(i)).equals(list.get(i))) {
                    set.add(i);
                }
            }
            return bits(set);
        }

        int round(int m, int word, int what) {
            if (!is(m) || what < 0 || what > 1) {
                return -1;
            }
            if (!isWord(word)) {
                return -2;
            }
            List<String> had = new ArrayList<>();
            String w = "" + word;
            while (!had.contains(w)) {
                had.add(w);
                w = make(m, w);
            }
            return what == 0 ? had.size() : had.size() - had.indexOf(w);
        }

        int stands(int m, int word) {
            if (!is(m) || !isWord(word)) {
                return is(m) ? -2 : -1;
            }
            Model c = copy();
            for (int n = 1; n <= 30; n++) {
                if (c.typeOne(m, "" + word).equals("" + word)) {
                    return n;
                }
            }
            return -5;
        }

        List<Integer> guesses(String beginning) {
            List<Integer> found = new ArrayList<>();
            for (int i = 0; i < list.size(); i++) {
                if (list.get(i).startsWith(beginning)) {
                    found.add(i);
                }
            }
            found.sort(Comparator.comparing((Integer i) -> -weights.get(i)));
            return found.subList(0, Math.min(3, found.size()));
        }

        int guess(int beginning, int k) {
            if (!isWord(beginning) || k < 0 || k > 2) {
                return isWord(beginning) ? -1 : -2;
            }
            List<Integer> found = guesses("" + beginning);
            return k < found.size() ? found.get(k) : -5;
        }

        int letter(int i) {
            if (!on(i)) {
                return -1;
            }
            for (int n = 1; n <= list.get(i).length(); n++) {
                if (guesses(list.get(i).substring(0, n)).contains(i)) {
                    return n;
                }
            }
            return -5;
        }

        int enough(int m, int i) {
            if (!is(m) || !on(i)) {
                return -1;
            }
            Model c = copy();
            for (int n = 0; n <= 99; n++) {
                c.weights.set(i, n);
                if (c.make(m, list.get(i)).equals(list.get(i))) {
                    return n;
                }
            }
            return -5;
        }

        static long fraction(int above, int below, int part) {
            for (int d = below; d > 1; d--) {
                if (above % d == 0 && below % d == 0) {
                    return (part == 0 ? above : below) / d;
                }
            }
            return part == 0 ? above : below;
        }

        long slips(int m, int word, int part) {
            if (!is(m) || part < 0 || part > 1 || !isWord(word)) {
                return Long.MIN_VALUE;
            }
            int hits = 0;
            for (String w : slipped("" + word)) {
                hits += make(m, w).equals("" + word) ? 1 : 0;
            }
            return fraction(hits, slipped("" + word).size(), part);
        }

        long wrong(int m, int part) {
            if (!is(m) || part < 0 || part > 1 || list.isEmpty()) {
                return Long.MIN_VALUE;
            }
            int bad = 0;
            for (String w : list) {
                bad += make(m, w).equals(w) ? 0 : 1;
            }
            return fraction(bad, list.size(), part);
        }

        int chain(int m, int n, int what) {
            if (!is(m) || !(what == 0 || what == 1 || what >= 10 && what < 10 + list.size())) {
                return -1;
            }
            if (n < 1 || n > 10) {
                return -2;
            }
            Model c = copy();
            c.send();
            List<List<String>> rounds = new ArrayList<>();
            rounds.add(list);
            for (int r = 1; r <= n; r++) {
                List<String> made = new ArrayList<>();
                for (String w : rounds.get(r - 1)) {
                    made.add(c.typeOne(m, w));
                }
                rounds.add(made);
            }
            if (what == 0) {
                return new HashSet<>(rounds.get(n)).size();
            }
            if (what >= 10) {
                return num(rounds.get(n).get(what - 10));
            }
            for (int r = 0; r < n; r++) {
                if (rounds.get(r).equals(rounds.get(r + 1))) {
                    return r;
                }
            }
            return -5;
        }

        int ways(int m, int i, String arrived) {
            List<String> fingers = slipped(list.get(i));
            fingers.add(list.get(i));
            int n = 0;
            for (String w : fingers) {
                n += make(m, w).equals(arrived) ? 1 : 0;
            }
            return n;
        }

        int meant(int m, int word) {
            if (!is(m) || !isWord(word)) {
                return is(m) ? -2 : -1;
            }
            Set<Integer> set = new HashSet<>();
            for (int i = 0; i < list.size(); i++) {
                if (ways(m, i, "" + word) > 0) {
                    set.add(i);
                }
            }
            return bits(set);
        }

        int likeliest(int m, int word) {
            if (!is(m) || !isWord(word)) {
                return is(m) ? -2 : -1;
            }
            int best = -5, most = 0;
            for (int i = 0; i < list.size(); i++) {
                int n = ways(m, i, "" + word) * (weights.get(i) + 1);
                if (n > most) {
                    best = i;
                    most = n;
                }
            }
            return best;
        }

        int who(int a, int b) {
            if (!isWord(a) || !isWord(b)) {
                return -2;
            }
            Set<Integer> set = new HashSet<>();
            for (int m = 0; m < menders.size(); m++) {
                if (make(m, "" + a).equals("" + b)) {
                    set.add(m);
                }
            }
            return bits(set);
        }

        int twins() {
            int best = -5, least = 0;
            for (int i = 0; i < list.size(); i++) {
                for (int j = i + 1; j < list.size(); j++) {
                    int far = far(0, list.get(i), list.get(j), lastOf("step", 10));
                    if (best == -5 || far < least) {
                        best = 10 * i + j;
                        least = far;
                    }
                }
            }
            return best;
        }

        int room(int m) {
            int n = 0;
            for (String w : SHORT_WORDS) {
                n += is(m) && list.contains(make(m, w)) ? 1 : 0;
            }
            return is(m) ? n : -1;
        }

        int saved(int m) {
            int n = 0;
            for (int i = 0; is(m) && i < list.size(); i++) {
                n += Math.max(0, list.get(i).length() + 1 - touching(m, list.get(i))[0]);
            }
            return is(m) ? n : -1;
        }

        int book(int m, int word, int made) {
            if (m == -1) {
                book.clear();
                return 0;
            }
            if (!is(m)) {
                return -1;
            }
            if (!isWord(word) || !isWord(made)) {
                return -2;
            }
            if (book.size() == 8) {
                return -4;
            }
            book.add(new int[] {m, word, made});
            return book.size();
        }

        int looked() {
            for (int i = 0; i < book.size(); i++) {
                int[] row = book.get(i);
                if (num(make(row[0], "" + row[1])) != row[2]) {
                    return i;
                }
            }
            return -5;
        }

        int act(int m, int act, int x) {
            trace = new ArrayList<>();
            if (!is(m) || act < 0 || act > 2) {
                return 0;
            }
            Body body = bodyOf(menders.get(m)[0], m, menders.get(m)[1], trace);
            return act == 0 ? body.mends(x) : act == 1 ? body.leaves(x) : body.tells(x);
        }

        int trace(int i) {
            return i >= 0 && i < Math.min(20, trace.size()) ? trace.get(i) : -1;
        }

        int as(int m, int k) {
            if (!is(m) || k < 0 || k > 6) {
                return -1;
            }
            Class<?> wanted = bodyOf(k, 0, 0, trace).getClass();
            return wanted.isInstance(bodyOf(menders.get(m)[0], 0, 0, trace)) ? menders.get(m)[1] : -6;
        }

        int image() {
            image = copy();
            return menders.size();
        }

        int undo() {
            if (image == null) {
                return -3;
            }
            Model c = image.copy();
            list = c.list;
            weights = c.weights;
            next = c.next;
            menders = c.menders;
            standing = c.standing;
            fingered = c.fingered;
            left = c.left;
            typed = c.typed;
            tape = c.tape;
            phones = c.phones;
            book = c.book;
            return menders.size();
        }

        int count(int what) {
            int[] all = {menders.size(), list.size(), phones.size(), standing.size(), book.size(), tape.length(),
                trace.size()};
            return what >= 0 && what < all.length ? all[what] : -1;
        }
    }

    // ---- the acts, as real classes of Java

    static Body bodyOf(int kind, int i, int v, List<Integer> trace) {
        Body[] all = {new Body(), new Near(), new Ahead(), new Shy(), new Learning(), new Guessing(), new Told()};
        all[kind].i = i;
        all[kind].v = v;
        all[kind].trace = trace;
        return all[kind];
    }

    static class Body {
        int i, v;
        List<Integer> trace;

        int mends(int x) {
            trace.add(1);
            return x + i;
        }

        int leaves(int x) {
            trace.add(2);
            return mends(x) - v;
        }

        int tells(int x) {
            trace.add(3);
            return leaves(x) * 2;
        }
    }

    static class Near extends Body {
        @Override int mends(int x) {
            trace.add(11);
            return super.mends(x * 3);
        }
    }

    static class Ahead extends Body {
        @Override int leaves(int x) {
            trace.add(21);
            return -super.leaves(x);
        }
    }

    static class Shy extends Body {
        @Override int tells(int x) {
            trace.add(31);
            return super.tells(x) ^ 7;
        }
    }

    static class Learning extends Near {
        @Override int tells(int x) {
            trace.add(41);
            return super.tells(x - 1) + mends(2);
        }
    }

    static class Guessing extends Ahead {
        @Override int mends(int x) {
            trace.add(51);
            return super.mends(x) ^ i;
        }
    }

    static class Told extends Shy {
        @Override int leaves(int x) {
            trace.add(61);
            return super.leaves(x) + v;
        }
    }

    // ---- runs

    private final Random random;
    private final PutBack real = new PutBack();
    private final Model model = new Model();
    private final List<Integer> used = new ArrayList<>();
    private final List<String> log = new ArrayList<>();
    private String planned = "";
    private int setup;
    private int calls = 0;

    ModelTest(long seed) {
        random = new Random(seed);
        setup = odd(5) ? 0 : random.nextInt(60);
    }

    private int any(int... values) {
        return values[random.nextInt(values.length)];
    }

    private boolean odd(int in) {
        return random.nextInt(in) == 0;
    }

    /** Mostly 0 .. n less 1, now and then something else. */
    private int some(int n) {
        return odd(12) ? any(-1, n, n + 1, -2, 9, Integer.MAX_VALUE, Integer.MIN_VALUE) : random.nextInt(n);
    }

    private int mender() {
        return model.menders.isEmpty() ? some(2) : some(model.menders.size());
    }

    private int listed() {
        return model.list.isEmpty() ? some(2) : some(model.list.size());
    }

    /** Words of few letters are drawn, and those used are varied, so that they lie close together. */
    private int word() {
        if (odd(25)) {
            return any(0, 9, 90, 10, 129, 123456, -1, -12, 99999, 100000, Integer.MIN_VALUE, Integer.MAX_VALUE, 88889);
        }
        StringBuilder text = new StringBuilder();
        if (!used.isEmpty() && !odd(4)) {
            text.append(used.get(random.nextInt(used.size())));
            for (int n = random.nextInt(3); n > 0; n--) {
                int k = random.nextInt(text.length());
                char c = (char) ('1' + random.nextInt(8));
                switch (random.nextInt(3)) {
                    case 0: text.setCharAt(k, c); break;
                    case 1: text.insert(k, c); break;
                    default: text.deleteCharAt(k); break;
                }
                if (text.length() == 0) {
                    text.append(c);
                }
            }
            text.setLength(Math.min(5, text.length()));
        } else {
            for (int n = 1 + random.nextInt(5); n > 0; n--) {
                text.append((char) ('1' + random.nextInt(odd(2) ? 3 : 8)));
            }
        }
        int word = Integer.parseInt(text.toString());
        used.add(word);
        return word;
    }

    private String number() {
        return "" + (odd(2) ? random.nextInt(10) : random.nextInt(100));
    }

    private String expression(int depth) {
        int n = random.nextInt(10);
        if (depth > 0 && n < 2) {
            return "!" + expression(depth - 1);
        }
        if (depth > 0 && n < 4) {
            return "(" + expression(depth - 1) + ")";
        }
        if (depth > 0 && n < 7) {
            return expression(depth - 1) + sign("|&") + expression(depth - 1);
        }
        return "" + sign("twdkis") + sign("<=>") + (odd(3) ? number() : "" + random.nextInt(6));
    }

    private char sign(String signs) {
        return signs.charAt(random.nextInt(signs.length()));
    }

    private String tape() {
        StringBuilder tape = new StringBuilder();
        for (int n = odd(6) ? 8 + random.nextInt(5) : 1 + random.nextInt(4); n > 0; n--) {
            if (tape.length() > 0) {
                tape.append(';');
            }
            switch (random.nextInt(4)) {
                case 0: tape.append("limit ").append(odd(3) ? number() : "" + (8 + random.nextInt(25))); break;
                case 1: tape.append("step ").append(odd(3) ? number() : "" + (2 + random.nextInt(14))); break;
                case 2: tape.append("dear ").append(number()).append(' ').append(expression(random.nextInt(5))); break;
                default: tape.append("free ").append(number()).append(' ').append(expression(random.nextInt(5))); break;
            }
        }
        if (odd(2)) {
            int k = random.nextInt(tape.length());
            switch (random.nextInt(3)) {
                case 0: tape.setLength(k); break;
                case 1: tape.setCharAt(k, sign("!(&|); 0159tl<=>")); break;
                default: tape.insert(k, sign("!(&|); 0159tl<=>")); break;
            }
        }
        return tape.toString();
    }

    private boolean same(String call, long got, long due) {
        log.add(call + " -> " + due);
        calls++;
        if (got == due) {
            return true;
        }
        System.out.println(log);
        System.out.println(call + " answered " + got + ", due is " + due);
        return false;
    }

    private boolean oneCall() {
        if (!planned.isEmpty()) {
            int sign = planned.charAt(0);
            planned = planned.substring(1);
            return same("feed(" + sign + ")", real.feed(sign), model.feed(sign)) && (!planned.isEmpty() || odd(4) || readPlanned());
        }
        if (setup > 0) {
            setup--;
            return setUp();
        }
        if (odd(60)) {
            planned = tape();
            return same("telephone()", real.telephone(), model.telephone());
        }
        if (model.tape.length() > 5 && !odd(4)) {
            return same("telephone()", real.telephone(), model.telephone());
        }
        int m = mender(), w = word(), i = listed();
        switch (random.nextInt(60)) {
            case 0: case 1: return heavy(random.nextInt(4), m, w);
            case 2: { int s = any(-1, 128, 'l', 59, 0, 127, Integer.MIN_VALUE); return odd(5) ? same("feed(" + s + ")", real.feed(s), model.feed(s)) : telephone(); }
            case 3: return telephone();
            case 4: case 5: case 6: { int n = odd(9) ? any(-1, 100, 99) : random.nextInt(100); return same("word(" + w + ", " + n + ")", real.word(w, n), model.word(w, n)); }
            case 7: { int a = some(3); return same("listed(" + i + ", " + a + ")", real.listed(i, a), model.listed(i, a)); }
            case 8: { int n = odd(9) ? any(-1, 100, 99) : random.nextInt(100); return same("weigh(" + i + ", " + n + ")", real.weigh(i, n), model.weigh(i, n)); }
            case 9: case 10: { int j = listed(); boolean is = !odd(4); return same("behind(" + i + ", " + j + ", " + is + ")", real.behind(i, j, is), model.behind(i, j, is)); }
            case 11: case 12: { int k = some(7), v = some(10); return same("mender(" + k + ", " + v + ")", real.mender(k, v), model.mender(k, v)); }
            case 13: { int a = some(2); return same("of(" + m + ", " + a + ")", real.of(m, a), model.of(m, a)); }
            case 14: case 15: { int k = some(4), n = some(10); return same("row(" + m + ", " + k + ", " + n + ")", real.row(m, k, n), model.row(m, k, n)); }
            case 16: case 17: case 18: case 19: case 20: case 21: case 22: return same("type(" + m + ", " + w + ")", real.type(m, w), model.type(m, w));
            case 23: case 24: return same("back()", real.back(), model.back());
            case 25: return !odd(4) || same("send()", real.send(), model.send());
            case 26: case 27: case 28: { int a = random.nextInt(84) - 2; return same("told(" + a + ")", real.told(a), model.told(a)); }
            case 29: case 30: case 31: return same("makes(" + m + ", " + w + ")", real.makes(m, w), model.makes(m, w));
            case 32: case 33: case 34: { int a = some(2); return same("cost(" + m + ", " + w + ", " + i + ", " + a + ")", real.cost(m, w, i, a), model.cost(m, w, i, a)); }
            case 55: return same("stays(" + m + ")", real.stays(m), model.stays(m));
            case 36: { int a = some(2); return same("round(" + m + ", " + w + ", " + a + ")", real.round(m, w, a), model.round(m, w, a)); }
            case 37: case 38: return same("stands(" + m + ", " + w + ")", real.stands(m, w), model.stands(m, w));
            case 35: case 39: { int b = arrived(w) / any(1, 10, 100, 1000); int k = some(3); return same("guess(" + b + ", " + k + ")", real.guess(b, k), model.guess(b, k)); }
            case 40: return same("letter(" + i + ")", real.letter(i), model.letter(i));
            case 41: return same("enough(" + m + ", " + i + ")", real.enough(m, i), model.enough(m, i));
            case 42: { int p = some(2); return same("slips(" + m + ", " + w + ", " + p + ")", real.slips(m, w, p), model.slips(m, w, p)); }
            case 43: { int p = some(2); return same("wrong(" + m + ", " + p + ")", real.wrong(m, p), model.wrong(m, p)); }
            case 44: case 45: { int n = 1 + some(10), a = odd(2) ? some(2) : 10 + i; return same("chain(" + m + ", " + n + ", " + a + ")", real.chain(m, n, a), model.chain(m, n, a)); }
            case 46: { int a = arrived(w); return same("meant(" + m + ", " + a + ")", real.meant(m, a), model.meant(m, a)); }
            case 47: { int a = arrived(w); return same("likeliest(" + m + ", " + a + ")", real.likeliest(m, a), model.likeliest(m, a)); }
            case 48: { int a = arrived(w); return same("who(" + w + ", " + a + ")", real.who(w, a), model.who(w, a)); }
            case 49: return same("twins()", real.twins(), model.twins());
            case 50: case 51: { int a = arrived(w), n = odd(15) ? -1 : m; return same("book(" + n + ", " + w + ", " + a + ")", real.book(n, w, a), model.book(n, w, a)); }
            case 52: return same("looked()", real.looked(), model.looked());
            case 53: { int a = some(3), x = odd(2) ? random.nextInt() : some(9); return same("act(" + m + ", " + a + ", " + x + ")", real.act(m, a, x), model.act(m, a, x)); }
            case 54: { int k = some(8); return same("trace(" + k + ")", real.trace(k), model.trace(k)); }
            case 56: { int k = some(7); return same("as(" + m + ", " + k + ")", real.as(m, k), model.as(m, k)); }
            case 57: return !odd(5) || same("image()", real.image(), model.image());
            case 58: return !odd(8) || same("undo()", real.undo(), model.undo());
            default: { int a = some(7); return same("count(" + a + ")", real.count(a), model.count(a)); }
        }
    }

    /** What a word might be made into: often one of the list. */
    private int arrived(int word) {
        return odd(3) || model.list.isEmpty() ? word : Integer.parseInt(model.list.get(random.nextInt(model.list.size())));
    }

    private boolean telephone() {
        return !odd(3) || same("telephone()", real.telephone(), model.telephone());
    }

    /** A telephone just read is looked at from many sides. */
    private boolean readPlanned() {
        if (!same("telephone()", real.telephone(), model.telephone())) {
            return false;
        }
        for (int m = 0; m < model.menders.size(); m++) {
            for (int i = 0; i < model.list.size(); i++) {
                int w = word();
                if (!same("cost(" + m + ", " + w + ", " + i + ", 0)", real.cost(m, w, i, 0), model.cost(m, w, i, 0))) {
                    return false;
                }
            }
        }
        return true;
    }

    /** Most runs begin with a list, menders and links, so that the questions have something to bite on. */
    private boolean setUp() {
        int w = word(), n = odd(3) ? random.nextInt(20) : random.nextInt(100);
        int k = random.nextInt(7), v = random.nextInt(10), i = listed(), j = listed();
        switch (random.nextInt(3)) {
            case 0: return same("word(" + w + ", " + n + ")", real.word(w, n), model.word(w, n));
            case 1: return same("mender(" + k + ", " + v + ")", real.mender(k, v), model.mender(k, v));
            default: return same("behind(" + i + ", " + j + ", true)", real.behind(i, j, true), model.behind(i, j, true));
        }
    }

    private boolean heavy(int which, int m, int w) {
        switch (which) {
            case 0: { int a = some(3), t = arrived(w); return same("touches(" + m + ", " + t + ", " + a + ")", real.touches(m, t, a), model.touches(m, t, a)); }
            case 1: return same("never(" + m + ")", real.never(m), model.never(m));
            case 2: return same("room(" + m + ")", real.room(m), model.room(m));
            default: return same("saved(" + m + ")", real.saved(m), model.saved(m));
        }
    }

    public static void main(String[] args) {
        int runs = args.length > 0 ? Integer.parseInt(args[0]) : RUNS;
        long first = args.length > 1 ? Long.parseLong(args[1]) : 1;
        for (long seed = first; seed < first + runs; seed++) {
            ModelTest run = new ModelTest(seed);
            for (int n = 0; n < CALLS && run.calls < CALLS - 50; n++) {
                if (!run.oneCall()) {
                    System.out.println("seed " + seed + ", call " + run.calls);
                    System.exit(1);
                }
            }
        }
        System.out.println("all " + runs + " runs are as the model tells");
    }
}
