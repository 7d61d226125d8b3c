import java.util.ArrayList;
import java.util.List;
import java.util.function.Supplier;
import java.util.function.ToLongFunction;

/**
 * REFUSALS: of several the first one told, and they change nothing; no more does what is only asked.
 * Two objects are made by the same calls, one of them gets one call more, then both are looked at from all sides.
 */
public final class RefusalsTest {
    private static final int MOST = Integer.MAX_VALUE, LEAST = Integer.MIN_VALUE;
    private static final int NONE = PutBack.NONE, BAD = PutBack.BAD, STATE = PutBack.STATE, FULL = PutBack.FULL;
    private static final int[] NO_WORDS = {0, 9, 10, 19, 91, 109, 190, 12349, 111111, 123456, 88889, -1, -12, LEAST, MOST};
    private static int checks = 0;
    private static int wrong = 0;
    private static int promise = 0;

    private static void hold(boolean holds, String what) {
        checks++;
        if (!holds) {
            wrong++;
            System.out.println("promise " + promise + ": " + what);
        }
    }

    private static void feed(PutBack x, String tape) {
        for (int k = 0; k < tape.length(); k++) {
            x.feed(tape.charAt(k));
        }
    }

    private static void read(PutBack x, String tape) {
        feed(x, tape);
        x.telephone();
    }

    // ---- objects to be refused something

    /** Something of all, nothing full: five WORDS, four MENDERS, five that stand; THE IMAGE is of an earlier time. */
    private static PutBack lively() {
        PutBack x = new PutBack();
        int[] words = {1234, 40, 1324, 20, 12, 9, 87, 85, 8, 0};
        for (int k = 0; k < 6; k += 2) {
            x.word(words[k], words[k + 1]);
        }
        x.mender(6, 2);
        x.mender(4, 9);
        x.row(0, 0, 3);
        x.row(0, 1, 9);
        x.row(0, 3, 1);
        x.behind(0, 2, true);
        read(x, "limit 14;step 9;dear 3 t=2&!s=1");
        x.type(0, 1);
        x.back();
        x.type(1, 1233);
        x.book(0, 12, 12);
        x.feed('l');
        x.image();
        for (int k = 6; k < words.length; k += 2) {
            x.word(words[k], words[k + 1]);
        }
        x.mender(3, 1);
        x.mender(5, 7);
        x.behind(2, 2, true);
        x.behind(2, 3, true);
        x.telephone();
        read(x, "step 8;free 2 i=4;limit 13");
        x.type(1, 88);
        x.type(2, 22);
        x.back();
        x.type(3, 11);
        x.book(1, 6, 6);
        feed(x, "step 7;dear 3 t");
        x.act(1, 2, 5);
        return x;
    }

    /** The same with THE TAPE full of what is one TELEPHONE, to the last sign. */
    private static PutBack withFullTape() {
        PutBack x = lively();
        StringBuilder more = new StringBuilder("=2");
        while (15 + more.length() + "|t=1".length() <= 100 - ";limit 27".length()) {
            more.append("|t=1");
        }
        while (15 + more.length() < 100 - ";limit 27".length()) {
            more.insert(more.indexOf("|") + 1, "!");
        }
        feed(x, more.append(";limit 27").toString());
        return x;
    }

    /** All there is room for: WORDS, MENDERS, TELEPHONES, that stand, LEFT, rows of BOOK. */
    private static PutBack full() {
        PutBack x = new PutBack();
        for (int n = 1; n <= 8; n++) {
            x.word(n * 11, n * 9);
        }
        int[] kinds = {6, 4, 3, 5, 1};
        for (int kind : kinds) {
            x.mender(kind, 9);
        }
        x.row(0, 0, 5);
        x.behind(0, 0, true);
        x.image();
        for (int n = 0; n < 5; n++) {
            read(x, "step " + (n + 5));
        }
        for (int n = 0; n < 20; n++) {
            x.type(n % 5, 11 + n % 8);
            if (n < 6) {
                x.back();
            }
        }
        for (int n = 0; n < 8; n++) {
            x.book(n % 5, 11, n < 7 ? x.makes(n % 5, 11) : 5);
        }
        x.feed('x');
        x.act(0, 2, 9);
        return x;
    }

    /** Nothing stands, yet some are LEFT. */
    private static PutBack sent() {
        PutBack x = lively();
        x.send();
        return x;
    }

    // ---- looking at them

    private static void lookAtText(PutBack x, List<Long> seen) {
        for (int what = 0; what <= 3; what++) {
            seen.add((long) x.told(what));
        }
        for (int k = 0; k <= x.count(3); k++) {
            seen.add((long) x.told(10 + k));
            seen.add((long) x.told(40 + k));
        }
        for (int k = 0; k <= x.told(3); k++) {
            seen.add((long) x.told(70 + k));
        }
    }

    private static void lookAtAll(PutBack x, List<Long> seen) {
        for (int what = 0; what <= 6; what++) {
            seen.add((long) x.count(what));
        }
        int menders = x.count(0);
        int words = x.count(1);
        int ran = x.count(6);
        for (int i = 0; i <= words; i++) {
            for (int what = 0; what <= 2; what++) {
                seen.add((long) x.listed(i, what));
            }
        }
        for (int m = 0; m <= menders; m++) {
            seen.add((long) x.of(m, 0));
            seen.add((long) x.of(m, 1));
            for (int i = 0; i < words && i < 5; i++) {
                seen.add((long) x.cost(m, 1, i, 1));
            }
        }
        for (int k = 0; k <= ran; k++) {
            seen.add((long) x.trace(k));
        }
        seen.add((long) x.looked());
    }

    /** What THE TAPE held shows as it is gone on with and read; what THE IMAGE held, as all is put back to it. */
    private static List<Long> look(PutBack x) {
        List<Long> seen = new ArrayList<>();
        lookAtText(x, seen);
        lookAtAll(x, seen);
        feed(x, "=2");
        seen.add((long) x.telephone());
        seen.add((long) x.told(1));
        seen.add((long) x.told(2));
        seen.add((long) x.cost(0, 12, 0, 0));
        for (int m = 0; m < x.count(0); m++) {
            for (int k = 0; k < 4 && x.of(m, 0) == 6; k++) {
                seen.add((long) x.row(m, k, 0));
            }
        }
        seen.add((long) x.undo());
        lookAtText(x, seen);
        lookAtAll(x, seen);
        return seen;
    }

    private static void refuse(String what, Supplier<PutBack> made, ToLongFunction<PutBack> call, long due) {
        PutBack x = made.get();
        long got = call.applyAsLong(x);
        hold(got == due, what + " answered " + got + ", due is " + due);
        hold(look(x).equals(look(made.get())), what + " changed something");
    }

    private static void ask(String what, ToLongFunction<PutBack> call) {
        List<Supplier<PutBack>> all = List.of(RefusalsTest::lively, RefusalsTest::full, RefusalsTest::sent);
        for (Supplier<PutBack> made : all) {
            PutBack x = made.get();
            long got = call.applyAsLong(x);
            hold(look(x).equals(look(made.get())), what + " changed something");
            hold(call.applyAsLong(made.get()) == got, what + " answers one thing, then another");
        }
    }

    /** The looking itself must tell one object from the other. */
    private static void lookingTells() {
        promise = 0;
        List<ToLongFunction<PutBack>> changes = List.of(
            x -> x.feed(5), x -> x.feed('='), x -> x.telephone(), x -> x.word(5, 5), x -> x.weigh(4, 1), x -> x.weigh(0, 41),
            x -> x.behind(4, 4, true), x -> x.behind(0, 2, false), x -> x.mender(0, 0), x -> x.row(0, 2, 1), x -> x.row(0, 1, 8),
            x -> x.type(0, 55555), x -> x.type(1, 12), x -> x.back(), x -> x.send(), x -> x.book(-1, 0, 0),
            x -> x.book(1, 5, 5), x -> x.image(), x -> x.undo(), x -> x.act(0, 0, 1), x -> x.act(9, 9, 9));
        for (int k = 0; k < changes.size(); k++) {
            PutBack x = lively();
            changes.get(k).applyAsLong(x);
            hold(!look(x).equals(look(lively())), "change " + k + " is not seen");
        }
        PutBack x = withFullTape();
        hold(x.count(5) == 100, "a full tape");
        hold(x.telephone() == 2, "its telephone");
        hold(x.told(1) == 27, "its LIMIT");
        int[] due = {5, 8, 5, 20, 8, 1};
        for (int what = 0; what < due.length; what++) {
            hold(full().count(what) == due[what], "full: count(" + what + ")");
        }
        hold(full().told(3) == 6, "full: LEFT");
        hold(full().looked() == 7, "full: the last row is not so");
        hold(sent().count(3) == 0 && sent().told(3) == 2, "nothing stands, two are left");
    }

    // ---- telephones, the list, menders

    private static void feeding() {
        promise = 2;
        int[] bad = {-1, 128, 256 + 'l', LEAST, MOST};
        for (int sign : bad) {
            refuse("feed(" + sign + ")", RefusalsTest::lively, x -> x.feed(sign), BAD);
            refuse("BAD ahead of FULL: feed(" + sign + ")", RefusalsTest::withFullTape, x -> x.feed(sign), BAD);
        }
        for (int sign : new int[] {0, '8', ';', 127}) {
            refuse("a sign too many: feed(" + sign + ")", RefusalsTest::withFullTape, x -> x.feed(sign), FULL);
        }
        promise = 3;
        refuse("FULL ahead of a FAULT, and THE TAPE stays", RefusalsTest::full, x -> x.telephone(), FULL);
        refuse("FULL with a TELEPHONE that is one", () -> {
            PutBack x = full();
            x.undo();
            for (int n = 0; n < 5; n++) {
                read(x, "step " + n);
            }
            feed(x, "step 9");
            return x;
        }, x -> x.telephone(), FULL);
    }

    private static void words() {
        promise = 4;
        for (int word : NO_WORDS) {
            refuse("word(" + word + ", 5)", RefusalsTest::lively, x -> x.word(word, 5), BAD);
            refuse("BAD ahead of FULL: word(" + word + ", 5)", RefusalsTest::full, x -> x.word(word, 5), BAD);
        }
        for (int weight : new int[] {-1, 100, LEAST, MOST}) {
            refuse("word(5, " + weight + ")", RefusalsTest::lively, x -> x.word(5, weight), BAD);
            refuse("BAD ahead of STATE: word(1234, " + weight + ")", RefusalsTest::lively, x -> x.word(1234, weight), BAD);
            refuse("BAD ahead of FULL: word(5, " + weight + ")", RefusalsTest::full, x -> x.word(5, weight), BAD);
        }
        refuse("the first is there", RefusalsTest::lively, x -> x.word(1234, 77), STATE);
        refuse("the last is there", RefusalsTest::lively, x -> x.word(8, 0), STATE);
        refuse("STATE ahead of FULL: the first", RefusalsTest::full, x -> x.word(11, 1), STATE);
        refuse("STATE ahead of FULL: the last", RefusalsTest::full, x -> x.word(88, 1), STATE);
        refuse("a word too many", RefusalsTest::full, x -> x.word(5, 1), FULL);

        promise = 5;
        for (int i : new int[] {-1, 5, 8, LEAST, MOST}) {
            refuse("listed(" + i + ", 0)", RefusalsTest::lively, x -> x.listed(i, 0), NONE);
            promise = 6;
            refuse("weigh(" + i + ", 7)", RefusalsTest::lively, x -> x.weigh(i, 7), NONE);
            refuse("NONE ahead of BAD: weigh(" + i + ", 100)", RefusalsTest::lively, x -> x.weigh(i, 100), NONE);
            promise = 7;
            refuse("behind(" + i + ", 4, true)", RefusalsTest::lively, x -> x.behind(i, 4, true), NONE);
            refuse("behind(4, " + i + ", true)", RefusalsTest::lively, x -> x.behind(4, i, true), NONE);
            refuse("behind(0, " + i + ", false)", RefusalsTest::lively, x -> x.behind(0, i, false), NONE);
            refuse("behind(" + i + ", 2, false)", RefusalsTest::lively, x -> x.behind(i, 2, false), NONE);
            promise = 5;
        }
        for (int what : new int[] {-1, 3, LEAST, MOST}) {
            refuse("listed(0, " + what + ")", RefusalsTest::lively, x -> x.listed(0, what), NONE);
        }
        refuse("listed(8, 0) of eight", RefusalsTest::full, x -> x.listed(8, 0), NONE);
        promise = 6;
        for (int n : new int[] {-1, 100, LEAST, MOST}) {
            refuse("weigh(0, " + n + ")", RefusalsTest::lively, x -> x.weigh(0, n), BAD);
        }
        refuse("weigh(8, 1) of eight", RefusalsTest::full, x -> x.weigh(8, 1), NONE);
        promise = 7;
        refuse("behind(0, 8, true) of eight", RefusalsTest::full, x -> x.behind(0, 8, true), NONE);
        refuse("behind(8, 0, true) of eight", RefusalsTest::full, x -> x.behind(8, 0, true), NONE);
        refuse("behind(0, 32, true), which is no 0", RefusalsTest::full, x -> x.behind(0, 32, true), NONE);
    }

    private static void menders() {
        promise = 8;
        for (int kind : new int[] {-1, 7, LEAST, MOST}) {
            refuse("mender(" + kind + ", 0)", RefusalsTest::lively, x -> x.mender(kind, 0), NONE);
            refuse("NONE ahead of BAD: mender(" + kind + ", 10)", RefusalsTest::lively, x -> x.mender(kind, 10), NONE);
            refuse("NONE ahead of FULL: mender(" + kind + ", 0)", RefusalsTest::full, x -> x.mender(kind, 0), NONE);
        }
        for (int v : new int[] {-1, 10, LEAST, MOST}) {
            refuse("mender(6, " + v + ")", RefusalsTest::lively, x -> x.mender(6, v), BAD);
            refuse("BAD ahead of FULL: mender(6, " + v + ")", RefusalsTest::full, x -> x.mender(6, v), BAD);
        }
        for (int kind = 0; kind <= 6; kind++) {
            int k = kind;
            refuse("a mender too many", RefusalsTest::full, x -> x.mender(k, 0), FULL);
        }

        promise = 9;
        for (int m : new int[] {-1, 4, 5, LEAST, MOST}) {
            refuse("of(" + m + ", 0)", RefusalsTest::lively, x -> x.of(m, 0), NONE);
            promise = 10;
            refuse("row(" + m + ", 0, 1)", RefusalsTest::lively, x -> x.row(m, 0, 1), NONE);
            refuse("NONE ahead of BAD: row(" + m + ", 0, 10)", RefusalsTest::lively, x -> x.row(m, 0, 10), NONE);
            promise = 9;
        }
        for (int what : new int[] {-1, 2, LEAST, MOST}) {
            refuse("of(0, " + what + ")", RefusalsTest::lively, x -> x.of(0, what), NONE);
        }
        promise = 10;
        for (int k : new int[] {-1, 4, LEAST, MOST}) {
            refuse("row(0, " + k + ", 1)", RefusalsTest::lively, x -> x.row(0, k, 1), NONE);
            refuse("NONE ahead of BAD: row(0, " + k + ", 10)", RefusalsTest::lively, x -> x.row(0, k, 10), NONE);
            refuse("NONE ahead of STATE: row(1, " + k + ", 1)", RefusalsTest::lively, x -> x.row(1, k, 1), NONE);
        }
        for (int n : new int[] {-1, 10, LEAST, MOST}) {
            refuse("row(0, 0, " + n + ")", RefusalsTest::lively, x -> x.row(0, 0, n), BAD);
            refuse("BAD ahead of STATE: row(1, 0, " + n + ")", RefusalsTest::lively, x -> x.row(1, 0, n), BAD);
        }
        for (int m = 1; m <= 3; m++) {
            int other = m;
            refuse("of another KIND: row(" + m + ", 1, 2)", RefusalsTest::lively, x -> x.row(other, 1, 2), STATE);
        }
    }

    // ---- typing

    private static void typing() {
        promise = 11;
        for (int m : new int[] {-1, 4, LEAST, MOST}) {
            refuse("type(" + m + ", 12)", RefusalsTest::lively, x -> x.type(m, 12), NONE);
            refuse("NONE ahead of BAD: type(" + m + ", 9)", RefusalsTest::lively, x -> x.type(m, 9), NONE);
        }
        refuse("NONE ahead of FULL: type(5, 12)", RefusalsTest::full, x -> x.type(5, 12), NONE);
        for (int word : NO_WORDS) {
            refuse("type(1, " + word + ")", RefusalsTest::lively, x -> x.type(1, word), BAD);
            refuse("BAD ahead of FULL: type(1, " + word + ")", RefusalsTest::full, x -> x.type(1, word), BAD);
        }
        for (int m = 0; m < 5; m++) {
            int any = m;
            refuse("20 stand: type(" + m + ", 11)", RefusalsTest::full, x -> x.type(any, 11), FULL);
        }
        promise = 12;
        refuse("back(): nothing stands", PutBack::new, x -> x.back(), STATE);
        refuse("back(): nothing stands any more", RefusalsTest::sent, x -> x.back(), STATE);
        promise = 14;
        for (int what : new int[] {-1, 4, 9, 15, 30, 39, 45, 60, 69, 72, 76, 80, LEAST, MOST}) {
            refuse("told(" + what + ")", RefusalsTest::lively, x -> x.told(what), NONE);
        }
        for (int what : new int[] {30, 60, 76}) {
            refuse("told(" + what + ")", RefusalsTest::full, x -> x.told(what), NONE);
        }
        for (int what : new int[] {10, 40}) {
            refuse("told(" + what + ")", RefusalsTest::sent, x -> x.told(what), NONE);
        }
    }

    // ---- questions of a MENDER and a WORD

    private interface Of2 {
        long of(PutBack x, int mender, int word);
    }

    private interface Of3 {
        long of(PutBack x, int mender, int word, int what);
    }

    private static final int[] NO_MENDERS = {-1, 4, 5, LEAST, MOST};

    /** NONE; BAD. */
    private static void refuseWords(int number, String call, Of2 asked) {
        promise = number;
        for (int m : NO_MENDERS) {
            refuse(call + "(" + m + ", 12)", RefusalsTest::lively, x -> asked.of(x, m, 12), NONE);
            refuse("NONE ahead of BAD: " + call + "(" + m + ", 9)", RefusalsTest::lively, x -> asked.of(x, m, 9), NONE);
        }
        for (int word : NO_WORDS) {
            refuse(call + "(3, " + word + ")", RefusalsTest::lively, x -> asked.of(x, 3, word), BAD);
        }
    }

    /** NONE (what: 0 .. most); BAD. */
    private static void refuseWhats(int number, String call, int most, Of3 asked) {
        for (int w = 0; w <= most; w++) {
            int what = w;
            refuseWords(number, call + " " + what, (x, m, word) -> asked.of(x, m, word, what));
        }
        for (int what : new int[] {-1, most + 1, LEAST, MOST}) {
            refuse(call + " " + what, RefusalsTest::lively, x -> asked.of(x, 0, 12, what), NONE);
            refuse("NONE ahead of BAD: " + call + " " + what, RefusalsTest::lively, x -> asked.of(x, 0, 9, what), NONE);
        }
    }

    private static void refuseMenders(int number, String call, Of2 asked) {
        promise = number;
        for (int m : NO_MENDERS) {
            refuse(call + "(" + m + ")", RefusalsTest::lively, x -> asked.of(x, m, 0), NONE);
        }
    }

    private static void questions() {
        refuseWords(15, "makes", (x, m, w) -> x.makes(m, w));
        refuseMenders(17, "stays", (x, m, w) -> x.stays(m));
        refuseWhats(18, "touches", 2, (x, m, w, what) -> x.touches(m, w, what));
        refuseMenders(19, "never", (x, m, w) -> x.never(m));
        refuseWhats(20, "round", 1, (x, m, w, what) -> x.round(m, w, what));
        refuseWords(21, "stands", (x, m, w) -> x.stands(m, w));
        refuseWords(28, "meant", (x, m, w) -> x.meant(m, w));
        refuseWords(29, "likeliest", (x, m, w) -> x.likeliest(m, w));
        refuseMenders(32, "room", (x, m, w) -> x.room(m));
        refuseMenders(33, "saved", (x, m, w) -> x.saved(m));
        promise = 30;
        for (int word : NO_WORDS) {
            refuse("who(" + word + ", 12)", RefusalsTest::lively, x -> x.who(word, 12), BAD);
            refuse("who(12, " + word + ")", RefusalsTest::lively, x -> x.who(12, word), BAD);
        }
        refuse("who(9, 1) without a MENDER", PutBack::new, x -> x.who(9, 1), BAD);
        refuse("who(1, 9) without a MENDER", PutBack::new, x -> x.who(1, 9), BAD);
    }

    private static void costs() {
        promise = 16;
        for (int m : NO_MENDERS) {
            refuse("cost(" + m + ", 12, 0, 0)", RefusalsTest::lively, x -> x.cost(m, 12, 0, 0), -10001);
            refuse("NONE ahead of BAD: cost(" + m + ", 9, 0, 1)", RefusalsTest::lively, x -> x.cost(m, 9, 0, 1), -10001);
        }
        for (int i : new int[] {-1, 5, 8, LEAST, MOST}) {
            refuse("cost(0, 12, " + i + ", 1)", RefusalsTest::lively, x -> x.cost(0, 12, i, 1), -10001);
            refuse("NONE ahead of BAD: cost(0, 9, " + i + ", 0)", RefusalsTest::lively, x -> x.cost(0, 9, i, 0), -10001);
        }
        for (int what : new int[] {-1, 2, LEAST, MOST}) {
            refuse("cost(0, 12, 0, " + what + ")", RefusalsTest::lively, x -> x.cost(0, 12, 0, what), -10001);
            refuse("NONE ahead of BAD: cost(0, 9, 0, " + what + ")", RefusalsTest::lively, x -> x.cost(0, 9, 0, what), -10001);
        }
        for (int word : NO_WORDS) {
            refuse("cost(0, " + word + ", 0, 0)", RefusalsTest::lively, x -> x.cost(0, word, 0, 0), -10002);
            refuse("cost(0, " + word + ", 0, 1)", RefusalsTest::lively, x -> x.cost(0, word, 0, 1), -10002);
        }
    }

    private static void guesses() {
        promise = 22;
        for (int word : NO_WORDS) {
            refuse("guess(" + word + ", 0)", RefusalsTest::lively, x -> x.guess(word, 0), BAD);
            refuse("BAD ahead of NONE: guess(" + word + ", 3)", RefusalsTest::lively, x -> x.guess(word, 3), BAD);
        }
        for (int k : new int[] {-1, 3, LEAST, MOST}) {
            refuse("guess(1, " + k + ")", RefusalsTest::lively, x -> x.guess(1, k), NONE);
        }
        promise = 23;
        for (int i : new int[] {-1, 5, 8, LEAST, MOST}) {
            refuse("letter(" + i + ")", RefusalsTest::lively, x -> x.letter(i), NONE);
            promise = 24;
            refuse("enough(0, " + i + ")", RefusalsTest::lively, x -> x.enough(0, i), NONE);
            promise = 23;
        }
        promise = 24;
        for (int m : NO_MENDERS) {
            refuse("enough(" + m + ", 0)", RefusalsTest::lively, x -> x.enough(m, 0), NONE);
        }
    }

    private static void slipsAndChains() {
        for (int part = 0; part <= 1; part++) {
            int p = part;
            promise = 25;
            for (int m : NO_MENDERS) {
                refuse("slips(" + m + ", 12, " + p + ")", RefusalsTest::lively, x -> x.slips(m, 12, p), PutBack.NO);
                promise = 26;
                refuse("wrong(" + m + ", " + p + ")", RefusalsTest::lively, x -> x.wrong(m, p), PutBack.NO);
                promise = 25;
            }
            for (int word : NO_WORDS) {
                refuse("slips(0, " + word + ", " + p + ")", RefusalsTest::lively, x -> x.slips(0, word, p), PutBack.NO);
            }
            promise = 26;
            refuse("wrong: THE LIST is empty", () -> {
                PutBack x = new PutBack();
                x.mender(0, 0);
                return x;
            }, x -> x.wrong(0, p), PutBack.NO);
        }
        for (int part : new int[] {-1, 2, LEAST, MOST}) {
            promise = 25;
            refuse("slips(0, 12, " + part + ")", RefusalsTest::lively, x -> x.slips(0, 12, part), PutBack.NO);
            promise = 26;
            refuse("wrong(0, " + part + ")", RefusalsTest::lively, x -> x.wrong(0, part), PutBack.NO);
        }
        promise = 27;
        for (int m : NO_MENDERS) {
            refuse("chain(" + m + ", 1, 0)", RefusalsTest::lively, x -> x.chain(m, 1, 0), NONE);
            refuse("NONE ahead of BAD: chain(" + m + ", 0, 0)", RefusalsTest::lively, x -> x.chain(m, 0, 0), NONE);
        }
        for (int what : new int[] {-1, 2, 9, 15, 18, LEAST, MOST}) {
            refuse("chain(1, 1, " + what + ")", RefusalsTest::lively, x -> x.chain(1, 1, what), NONE);
            refuse("NONE ahead of BAD: chain(1, 11, " + what + ")", RefusalsTest::lively, x -> x.chain(1, 11, what), NONE);
        }
        for (int n : new int[] {-1, 0, 11, LEAST, MOST}) {
            for (int what : new int[] {0, 1, 10, 14}) {
                refuse("chain(1, " + n + ", " + what + ")", RefusalsTest::lively, x -> x.chain(1, n, what), BAD);
            }
        }
    }

    private static void books() {
        promise = 34;
        for (int m : new int[] {-2, 4, 5, LEAST, MOST}) {
            refuse("book(" + m + ", 12, 12)", RefusalsTest::lively, x -> x.book(m, 12, 12), NONE);
            refuse("NONE ahead of BAD: book(" + m + ", 9, 9)", RefusalsTest::lively, x -> x.book(m, 9, 9), NONE);
        }
        refuse("NONE ahead of FULL: book(5, 12, 12)", RefusalsTest::full, x -> x.book(5, 12, 12), NONE);
        for (int word : NO_WORDS) {
            refuse("book(0, " + word + ", 12)", RefusalsTest::lively, x -> x.book(0, word, 12), BAD);
            refuse("book(0, 12, " + word + ")", RefusalsTest::lively, x -> x.book(0, 12, word), BAD);
            refuse("BAD ahead of FULL: book(0, " + word + ", 1)", RefusalsTest::full, x -> x.book(0, word, 1), BAD);
            refuse("BAD ahead of FULL: book(0, 1, " + word + ")", RefusalsTest::full, x -> x.book(0, 1, word), BAD);
        }
        refuse("a row too many", RefusalsTest::full, x -> x.book(0, 11, 5), FULL);
    }

    // ---- acts, the image

    /** An ACT that is refused changes one thing, as told: there is no TRACE then. */
    private static void acts() {
        promise = 36;
        int[][] refused = {{-1, 0}, {4, 0}, {LEAST, 2}, {MOST, 1}, {0, -1}, {0, 3}, {1, LEAST}, {1, MOST}, {4, 3}};
        for (int[] r : refused) {
            PutBack x = lively();
            String call = "act(" + r[0] + ", " + r[1] + ", 5)";
            hold(x.count(6) == 7 && x.trace(0) == 41, "a trace ahead of it");
            hold(x.act(r[0], r[1], 5) == 0, call + " is 0");
            hold(x.count(6) == 0 && x.trace(0) == NONE, "no trace behind " + call);
            hold(x.act(1, 2, 5) != 0, "another act");
            hold(look(x).equals(look(lively())), call + " changed something else");
        }
        promise = 37;
        for (int i : new int[] {-1, 7, 19, 20, LEAST, MOST}) {
            refuse("trace(" + i + ")", RefusalsTest::lively, x -> x.trace(i), NONE);
        }
        refuse("trace(0) ahead of all acts", PutBack::new, x -> x.trace(0), NONE);
        promise = 38;
        for (int m : NO_MENDERS) {
            refuse("as(" + m + ", 0)", RefusalsTest::lively, x -> x.as(m, 0), NONE);
        }
        for (int k : new int[] {-1, 7, LEAST, MOST}) {
            refuse("as(0, " + k + ")", RefusalsTest::lively, x -> x.as(0, k), NONE);
        }
        refuse("as(1, 2): LEARNING is not AHEAD", RefusalsTest::lively, x -> x.as(1, 2), -6);
        promise = 40;
        refuse("undo(): there is no image", PutBack::new, x -> x.undo(), STATE);
        refuse("undo(): there is still no image", () -> {
            PutBack x = new PutBack();
            x.word(12, 5);
            x.mender(4, 5);
            x.type(0, 13);
            return x;
        }, x -> x.undo(), STATE);
        promise = 41;
        for (int what : new int[] {-1, 7, LEAST, MOST}) {
            refuse("count(" + what + ")", RefusalsTest::lively, x -> x.count(what), NONE);
        }
    }

    /** THE IMAGE is of all that there is; whatever is done behind it, undo() puts all back. */
    private static void undoing() {
        promise = 40;
        List<ToLongFunction<PutBack>> changes = List.of(
            x -> x.feed('7'), x -> x.telephone(), x -> x.feed('9'), x -> x.weigh(0, 41), x -> x.weigh(4, 99), x -> x.behind(0, 2, false),
            x -> x.behind(4, 4, true), x -> x.row(0, 0, 1), x -> x.row(0, 2, 9), x -> x.book(-1, 0, 0), x -> x.book(1, 88, 5),
            x -> x.book(2, 22, 12), x -> x.type(1, 1233), x -> x.back(), x -> x.send(), x -> x.type(1, 7), x -> x.type(0, 77777),
            x -> x.back(), x -> x.word(5, 5), x -> x.mender(0, 3), x -> x.feed('l'), x -> x.feed('8'));
        List<Long> due = look(imaged());
        PutBack all = imaged();
        for (int k = 0; k < changes.size(); k++) {
            PutBack x = imaged();
            changes.get(k).applyAsLong(x);
            changes.get(k).applyAsLong(all);
            hold(x.undo() == 4, "undo() behind change " + k);
            hold(look(x).equals(due), "change " + k + " stays");
        }
        read(all, "step 3;limit 99");
        hold(all.undo() == 4, "undo() behind all changes");
        hold(look(all).equals(due), "of all changes one stays");
    }

    private static PutBack imaged() {
        PutBack x = lively();
        x.image();
        return x;
    }

    // ---- what is asked changes nothing

    private static void asking() {
        promise = 0;
        for (int mender = 0; mender < 4; mender++) {
            int m = mender;
            for (int typed : new int[] {12, 22, 1233, 88}) {
                ask("makes", x -> x.makes(m, typed));
                ask("cost", x -> x.cost(m, typed, 2, 1));
                ask("touches", x -> x.touches(m, typed, 1));
                ask("round", x -> x.round(m, typed, 0));
                ask("stands", x -> x.stands(m, typed));
                ask("slips", x -> x.slips(m, typed, 0));
                ask("meant", x -> x.meant(m, typed));
                ask("likeliest", x -> x.likeliest(m, typed));
                ask("who", x -> x.who(typed, 12));
            }
            ask("stays", x -> x.stays(m));
            ask("never", x -> x.never(m));
            ask("enough", x -> x.enough(m, m));
            ask("wrong", x -> x.wrong(m, 0));
            ask("chain", x -> x.chain(m, 10, 0));
            ask("chain", x -> x.chain(m, 3, 1));
            ask("chain", x -> x.chain(m, 1, 10));
            ask("room", x -> x.room(m));
            ask("saved", x -> x.saved(m));
            ask("as", x -> x.as(m, 0));
            ask("of", x -> x.of(m, 0));
        }
        ask("twins", x -> x.twins());
        ask("looked", x -> x.looked());
        ask("guess", x -> x.guess(1, 0));
        ask("letter", x -> x.letter(0));
        ask("listed", x -> x.listed(0, 2));
        ask("told", x -> x.told(0));
        ask("trace", x -> x.trace(0));
        ask("count", x -> x.count(6));
    }

    public static void main(String[] args) {
        lookingTells();
        feeding();
        words();
        menders();
        typing();
        questions();
        costs();
        guesses();
        slipsAndChains();
        books();
        acts();
        undoing();
        asking();
        System.out.println(wrong == 0 ? "all " + checks + " refusals and questions change nothing" : wrong + " of " + checks + " are not so");
        if (wrong != 0) {
            System.exit(1);
        }
    }
}
