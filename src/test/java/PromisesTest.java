/** Each promise of the document by hand: ordinary inputs, the edges that it names, wrong inputs. */
public final class PromisesTest {
    private static final int MOST = Integer.MAX_VALUE, LEAST = Integer.MIN_VALUE;
    private static int checks = 0;
    private static int wrong = 0;
    private static int promise = 0;

    private static void due(String what, long got, long due) {
        checks++;
        if (got != due) {
            wrong++;
            System.out.println("promise " + promise + ": " + what + " answered " + got + ", due is " + due);
        }
    }

    private static int read(PutBack x, String tape) {
        for (int k = 0; k < tape.length(); k++) {
            x.feed(tape.charAt(k));
        }
        return x.telephone();
    }

    private static PutBack withWords(int... wordsAndWeights) {
        PutBack x = new PutBack();
        for (int k = 0; k < wordsAndWeights.length; k += 2) {
            x.word(wordsAndWeights[k], wordsAndWeights[k + 1]);
        }
        return x;
    }

    // ---- telephones, the list, menders

    private static void newObject() {
        promise = 1;
        PutBack x = new PutBack();
        for (int what = 0; what <= 6; what++) {
            due("count(" + what + ")", x.count(what), 0);
        }
        due("LIMIT", x.told(1), 12);
        due("STEP", x.told(2), 10);
        due("LEFT", x.told(3), 0);
        due("undo()", x.undo(), PutBack.STATE);
        due("NONE", PutBack.NONE, -1);
        due("BAD", PutBack.BAD, -2);
        due("STATE", PutBack.STATE, -3);
        due("FULL", PutBack.FULL, -4);
        due("NO", PutBack.NO, Long.MIN_VALUE);
    }

    private static void feeding() {
        promise = 2;
        PutBack x = new PutBack();
        due("feed(-1)", x.feed(-1), -2);
        due("feed(128)", x.feed(128), -2);
        due("feed(least)", x.feed(LEAST), -2);
        due("feed(0)", x.feed(0), 1);
        due("feed(127)", x.feed(127), 2);
        for (int n = 3; n <= 100; n++) {
            due("feed(65)", x.feed(65), n);
        }
        due("feed a sign too many", x.feed(65), -4);
        due("feed what is no sign to a full tape", x.feed(128), -2);
        due("count(5)", x.count(5), 100);
        due("telephone()", x.telephone(), -10);
        due("feed behind it", x.feed(65), 1);
    }

    private static void telephones() {
        promise = 3;
        Object[] faults = {
            "", 0, "x", 0, ";limit 5", 0, "Limit 5", 0, "limit", 5, "limit ", 6, "lemit 5", 1, "limit  5", 6,
            "limit 00", 7, "limit :", 6, "limit /", 6, "limit 1:", 7, "limit 1/", 7, "limit 123", 8, "limit 5 ", 7, "limit 5;", 8, "limit 5;;", 8, "step5", 4, "step 1", -1,
            "dear 5", 6, "dear 5;", 6, "dear 5 ", 7, "dear 5  t=1", 7, "dear 5 t", 8, "dear 5 t=", 9, "dear 5 t-1", 8,
            "dear 5 x=1", 7, "dear 5 t=01", 10, "dear 5 t=:", 9, "dear 5 t=1:", 10, "dear 5 t=123", 11, "dear 5 t=1&", 11, "dear 5 t=1&&", 11,
            "dear 5 t=1|", 11, "dear 5 t=1 ", 10, "dear 5 (t=1", 11, "dear 5 t=1)", 10, "dear 5 ()", 8,
            "dear 5 (t=1)!", 12, "dear 5 !", 8, "dear 5 (t=1;step 2", 11, "dear 5 (t=1)2", 12, "free 5 !!!!!!t=1", 12,
            "free 5 ((((((t=1", 12, "free 5 !(!(!(t=1", 12, "free 5 (((((t=1))))))", 20, "free 05 t=1", 6,
            "step 1;step 2;step 3;step 4;step 5;step 6;step 7;step 8;step 9;step 10;step 11", 70};
        for (int k = 0; k < faults.length; k += 2) {
            int fault = (Integer) faults[k + 1];
            PutBack x = new PutBack();
            due("telephone() of '" + faults[k] + "'", read(x, (String) faults[k]), fault < 0 ? 0 : -10 - fault);
            due("signs behind it", x.count(5), 0);
        }
        String[] fine = {
            "limit 0", "step 99;limit 98", "dear 5 t=1", "free 99 w>99|k<6&s=0|i=7;limit 0", "dear 5 !!!!!t=1",
            "dear 5 (((((t=1)))))", "dear 5 !(!(!t=1))", "dear 5 !!!t=1&!!!!!t=2|!!!!(t=1)", "free 0 (!!!!t=1)&(((((d<9)))))",
            "step 1;step 2;step 3;step 4;step 5;step 6;step 7;step 8;step 9;step 10"};
        for (String tape : fine) {
            due("telephone() of '" + tape + "'", read(new PutBack(), tape), 0);
        }
        PutBack x = new PutBack();
        due("the first one", read(x, "limit 5;step 7;limit 6"), 0);
        due("LIMIT, the last", x.told(1), 6);
        due("a fault", read(x, "limit 9;"), -18);
        due("LIMIT that held", x.told(1), 6);
        due("the newest", read(x, "step 3;dear 1 t=0;step 4"), 1);
        due("LIMIT without", x.told(1), 12);
        due("STEP", x.told(2), 4);
        for (int n = 2; n <= 4; n++) {
            due("the next", read(x, "dear 1 t=0"), n);
        }
        due("STEP without", x.told(2), 10);
        due("one too many", read(x, "x"), -4);
        due("the tape stays", x.count(5), 1);
        due("telephones", x.count(2), 5);
    }

    private static void words() {
        promise = 4;
        PutBack x = new PutBack();
        int[] bad = {0, 9, 90, 10, 19, 129, 99999, 123456, 100000, 88889, 111111, -1, -12, LEAST, MOST};
        for (int word : bad) {
            due("word(" + word + ", 0)", x.word(word, 0), -2);
        }
        due("word(1, -1)", x.word(1, -1), -2);
        due("word(1, 100)", x.word(1, 100), -2);
        due("word(1, 0)", x.word(1, 0), 0);
        due("word(88888, 99)", x.word(88888, 99), 1);
        due("word(1, 5)", x.word(1, 5), -3);
        for (int n = 2; n < 8; n++) {
            due("word", x.word(10 + n, n), n);
        }
        due("word(21, 0)", x.word(21, 0), -4);
        due("word(1, 5), there", x.word(1, 5), -3);
        due("word(9, 5)", x.word(9, 5), -2);
        due("count(1)", x.count(1), 8);
    }

    private static void listing() {
        promise = 5;
        PutBack x = withWords(12, 34, 5, 6);
        x.behind(1, 0, true);
        x.behind(1, 1, true);
        due("listed(0, 0)", x.listed(0, 0), 12);
        due("listed(0, 1)", x.listed(0, 1), 34);
        due("listed(0, 2)", x.listed(0, 2), 0);
        due("listed(1, 0)", x.listed(1, 0), 5);
        due("listed(1, 2)", x.listed(1, 2), 3);
        due("listed(2, 0)", x.listed(2, 0), -1);
        due("listed(-1, 0)", x.listed(-1, 0), -1);
        due("listed(0, 3)", x.listed(0, 3), -1);
        due("listed(0, -1)", x.listed(0, -1), -1);
        due("listed(most, 0)", x.listed(MOST, 0), -1);

        promise = 6;
        due("weigh(0, 99)", x.weigh(0, 99), 34);
        due("weigh(0, 0)", x.weigh(0, 0), 99);
        due("weigh(0, 100)", x.weigh(0, 100), -2);
        due("weigh(0, -1)", x.weigh(0, -1), -2);
        due("weigh(2, 100)", x.weigh(2, 100), -1);
        due("weigh(-1, 0)", x.weigh(-1, 0), -1);
        due("listed(0, 1)", x.listed(0, 1), 0);

        promise = 7;
        due("behind(0, 1, false)", x.behind(0, 1, false), 0);
        due("behind(0, 1, true)", x.behind(0, 1, true), 0);
        due("behind(0, 1, true) again", x.behind(0, 1, true), 1);
        due("listed(0, 2)", x.listed(0, 2), 2);
        due("behind(0, 1, false)", x.behind(0, 1, false), 1);
        due("listed(0, 2)", x.listed(0, 2), 0);
        due("behind(1, 1, true)", x.behind(1, 1, true), 1);
        due("behind(2, 0, true)", x.behind(2, 0, true), -1);
        due("behind(0, 2, true)", x.behind(0, 2, true), -1);
        due("behind(0, -1, true)", x.behind(0, -1, true), -1);
    }

    private static void menders() {
        promise = 8;
        PutBack x = new PutBack();
        due("mender(7, 0)", x.mender(7, 0), -1);
        due("mender(-1, 10)", x.mender(-1, 10), -1);
        due("mender(0, 10)", x.mender(0, 10), -2);
        due("mender(0, -1)", x.mender(0, -1), -2);
        due("mender(6, 9)", x.mender(6, 9), 0);
        due("mender(0, 0)", x.mender(0, 0), 1);
        due("mender(5, 1)", x.mender(5, 1), 2);
        due("mender(6, 2)", x.mender(6, 2), 3);
        due("mender(3, 3)", x.mender(3, 3), 4);
        due("mender(3, 3)", x.mender(3, 3), -4);
        due("mender(3, 10)", x.mender(3, 10), -2);
        due("mender(8, 10)", x.mender(8, 10), -1);

        promise = 9;
        due("of(0, 0)", x.of(0, 0), 6);
        due("of(0, 1)", x.of(0, 1), 9);
        due("of(4, 0)", x.of(4, 0), 3);
        due("of(5, 0)", x.of(5, 0), -1);
        due("of(0, 2)", x.of(0, 2), -1);
        due("of(0, -1)", x.of(0, -1), -1);

        promise = 10;
        due("row(0, 3, 9)", x.row(0, 3, 9), 0);
        due("row(0, 3, 0)", x.row(0, 3, 0), 9);
        due("row(3, 3, 4)", x.row(3, 3, 4), 0);
        due("row(0, 3, 10)", x.row(0, 3, 10), -2);
        due("row(0, 3, -1)", x.row(0, 3, -1), -2);
        due("row(0, 4, 10)", x.row(0, 4, 10), -1);
        due("row(0, -1, 0)", x.row(0, -1, 0), -1);
        due("row(5, 0, 10)", x.row(5, 0, 10), -1);
        due("row(4, 0, 0): SHY", x.row(4, 0, 0), -3);
        due("row(4, 0, 10): SHY", x.row(4, 0, 10), -2);
    }

    // ---- typing

    private static void typing() {
        promise = 11;
        PutBack x = withWords(12, 40, 13, 95);
        x.mender(0, 9);
        x.mender(4, 3);
        due("type(2, 1)", x.type(2, 1), -1);
        due("type(0, 9)", x.type(0, 9), -2);
        due("type(2, 9)", x.type(2, 9), -1);
        due("type(0, 14): heavier by more", x.type(0, 14), 13);
        due("a plain one learns nothing", x.listed(1, 1), 95);
        due("type(1, 14): 3 beside 4", x.type(1, 14), 13);
        due("learnt", x.listed(1, 1), 98);
        due("type(1, 14)", x.type(1, 14), 13);
        due("no more than 99", x.listed(1, 1), 99);
        due("type(1, 77777): itself", x.type(1, 77777), 77777);
        due("TYPED", x.told(0), 4);
        for (int n = 5; n <= 20; n++) {
            due("type(0, 77777)", x.type(0, 77777), 77777);
        }
        due("type, 20 stand", x.type(1, 14), -4);
        due("type what is no word", x.type(1, 0), -2);
        due("TYPED", x.told(0), 20);
        PutBack y = withWords(12, 0);
        read(y, "limit 0");
        y.mender(4, 5);
        due("made of itself since nothing is below 0", y.type(0, 12), 12);
        due("yet learnt, being of the list", y.listed(0, 1), 5);

        promise = 12;
        x = withWords(12, 0);
        x.mender(0, 0);
        due("back(): nothing", x.back(), -3);
        int[] typed = {13, 14, 13, 2, 1, 82, 42, 62};
        for (int word : typed) {
            due("type", x.type(0, word), 12);
            due("back()", x.back(), word);
            due("back() again", x.back(), word);
        }
        due("how many left, one alike", x.told(3), 6);
        due("the last left", x.told(75), 42);
        due("what stands", x.told(17), 62);
        due("how many stand", x.count(3), 8);
        due("TYPED", x.told(0), 8);

        promise = 13;
        due("send()", x.send(), 8);
        due("send() again", x.send(), 0);
        due("back()", x.back(), -3);
        due("TYPED stays", x.told(0), 8);
        due("LEFT stay", x.told(3), 6);

        promise = 14;
        x.type(0, 16);
        x.type(0, 55555);
        int[] told = {0, 10, 1, 12, 2, 10, 3, 6, 4, -1, 9, -1, 10, 12, 11, 55555, 12, -1, 29, -1, 30, -1, 40, 16,
            41, 55555, 42, -1, 59, -1, 69, -1, 70, 13, 71, 14, 75, 42, 76, -1, -1, -1, LEAST, -1, MOST, -1};
        for (int k = 0; k < told.length; k += 2) {
            due("told(" + told[k] + ")", x.told(told[k]), told[k + 1]);
        }
    }

    // ---- what it makes

    private static void making() {
        promise = 15;
        PutBack x = withWords(12, 0, 21, 0, 34567, 99);
        x.mender(0, 0);
        x.mender(3, 0);
        due("makes(0, 11): the first of two alike", x.makes(0, 11), 12);
        due("makes(0, 1)", x.makes(0, 1), 12);
        due("makes(0, 88): none is below", x.makes(0, 88), 88);
        due("makes(0, 34)", x.makes(0, 34), 34);
        due("makes(0, 3456)", x.makes(0, 3456), 34567);
        due("makes(0, 345): 200 - 99", x.makes(0, 345), 34567);
        due("makes(2, 1)", x.makes(2, 1), -1);
        due("makes(-1, 9)", x.makes(-1, 9), -1);
        due("makes(0, 9)", x.makes(0, 9), -2);
        x.weigh(2, 80);
        due("makes(0, 345): 120 is not below 120", x.makes(0, 345), 345);
        x.weigh(2, 81);
        due("makes(0, 345): 119 is", x.makes(0, 345), 34567);
        x.type(0, 11);
        x.back();
        due("makes(1, 11): left", x.makes(1, 11), 11);
        due("makes(0, 11): a plain one does not mind", x.makes(0, 11), 12);
        due("typed as it was", x.told(0), 1);
        due("makes of an empty list", emptyWith(0).makes(0, 11), 11);
    }

    private static PutBack emptyWith(int kind) {
        PutBack x = new PutBack();
        x.mender(kind, 3);
        return x;
    }

    private static void costs() {
        promise = 16;
        PutBack x = withWords(12, 50, 123, 0, 5, 99);
        for (int kind = 0; kind <= 4; kind++) {
            x.mender(kind, 0);
        }
        due("alike", x.cost(0, 12, 0, 0), 0);
        due("its price", x.cost(0, 12, 0, 1), -50);
        due("put in", x.cost(0, 1, 0, 0), 10);
        due("taken out", x.cost(0, 123, 0, 0), 10);
        due("all others", x.cost(0, 88888, 1, 0), 50);
        due("crossed over", x.cost(0, 21, 0, 0), 20);
        due("in another's place", x.cost(0, 52, 0, 0), 10);
        due("near, above", x.cost(1, 52, 0, 0), 4);
        due("near, beside", x.cost(4, 11, 0, 0), 4);
        due("the row's end is not beside the other's beginning", x.cost(1, 4, 2, 0), 10);
        due("near by two ways is one change", x.cost(1, 7, 2, 0), 10);
        due("near, none of AHEAD", x.cost(2, 52, 0, 0), 10);
        due("near, none of SHY", x.cost(3, 52, 0, 0), 10);
        x.behind(0, 1, true);
        x.type(0, 12);
        due("behind the last", x.cost(2, 12, 1, 0), 5);
        due("behind the last, 0 at least", x.cost(2, 123, 1, 1), 0);
        due("another is not behind", x.cost(2, 12, 2, 0), 20);
        due("a plain one does not mind", x.cost(0, 12, 1, 0), 10);
        x.type(0, 88888);
        due("the last is not of the list", x.cost(2, 12, 1, 0), 10);
        x.send();
        due("none stands", x.cost(2, 12, 1, 0), 10);
        due("no such mender", x.cost(5, 0, 0, 0), -10001);
        due("none of the list", x.cost(0, 1, 3, 0), -10001);
        due("no such what", x.cost(0, 9, 0, 2), -10001);
        due("no such what", x.cost(0, 9, 0, -1), -10001);
        due("no word", x.cost(0, 9, 0, 1), -10002);
    }

    private static void costsOfOtherKinds() {
        PutBack x = withWords(123, 10, 124, 0);
        x.mender(5, 0);
        x.mender(6, 0);
        due("a beginning", x.cost(0, 1, 0, 0), 2);
        due("a longer beginning", x.cost(0, 12, 0, 1), 10);
        due("all of it", x.cost(0, 123, 0, 0), 0);
        due("no beginning", x.cost(0, 13, 0, 0), 10);
        due("longer", x.cost(0, 1234, 0, 0), 10);
        due("GUESSING alone", x.cost(1, 1, 0, 0), 20);
        for (int k = 0; k < 4; k++) {
            x.row(1, k, k + 5);
        }
        x.behind(0, 1, true);
        for (int n = 0; n < 6; n++) {
            due("row at " + n, x.cost(1, 12, 0, 0), 10 + 5 + n % 4);
            x.type(0, 123);
        }
        due("GUESSING is AHEAD, too", x.cost(0, 122, 1, 0), 5);
        due("0 at least", x.cost(0, 12, 1, 0), 0);
    }

    private static void costsOfClauses() {
        PutBack x = withWords(123, 57, 7, 99);
        x.mender(1, 0);
        x.mender(0, 0);
        read(x, "step 3;dear 20 t=2&w=3;free 4 d>4&d<6|i=1;dear 40 k=1;dear 1 !(t>2|t<2)&!w<3");
        due("dear twice, free, near no more than STEP", x.cost(0, 22, 0, 0), 3 + 3 + 20 - 4 + 40 + 1);
        due("free of 4, and 1 for step", x.cost(1, 7, 1, 0), 0);
        due("t is 1", x.cost(1, 8, 1, 0), 0);
        due("t is 1, of a longer one", x.cost(1, 1, 0, 0), 6 - 4);
        x.weigh(0, 60);
        due("d is 6", x.cost(1, 1, 0, 0), 6);
        x.weigh(0, 49);
        due("d is 4", x.cost(1, 1, 0, 0), 6);
        read(x, "dear 9 s=0;dear 2 s>8");
        due("s is 0", x.cost(1, 7, 1, 0), 9);
        for (int n = 0; n < 9; n++) {
            x.type(1, 7);
        }
        due("s is 9", x.cost(1, 7, 1, 0), 2);
        x.type(1, 7);
        due("s is 0 again", x.cost(1, 7, 1, 0), 9);
        read(x, "dear 1 t=1|t=2&t=3;dear 2 (t=1|t=2)&t=3;dear 4 !t=1&t=3;dear 8 !(t=1&t=3)");
        due("and binds before or, not before and", x.cost(1, 7, 1, 0), 1 + 8);
        due("and so on", x.cost(1, 777, 1, 0), 20 + 4 + 8);
    }

    /** Of words of two letters (t=2, w=1): what holds, what does not. */
    private static void costsOfBrackets() {
        String[] holding = {"t=2&(w=1)", "(t=2)&w=1", "t=2&(w=1|t=3)", "t=3|(w=1)", "(t=3|w=1)&t=2", "t=3|t=2&(w=1&(t=2|w=9))",
            "!(t=2&(w=2))", "!(t=3|(w=2))", "!!(t=2)", "!t=3&!(w=2)&t=2", "t=3&t=3|t=2", "t=2|t=3&t=3", "(((t=2)))|w=9",
            "t=2&(t=2&(t=2&(t=2&(t=2&w=1))))", "t=3|(t=3|(t=3|(t=3|(t=3|w=1))))", "!(t=3|!(t=2&!w=2))"};
        for (String e : holding) {
            PutBack y = withWords(7, 0);
            y.mender(0, 0);
            read(y, "dear 30 " + e + ";dear 1 t=2");
            due("holds: " + e, y.cost(0, 77, 0, 0), 41);
        }
        String[] others = {"t=2&(w=2)", "(t=3)&w=1", "t=3&(w=1|t=3)", "t=3|(w=2)", "(t=3|w=1)&t=3", "!(t=2&(w=1))", "!(t=3|(w=1))",
            "!!!(t=2)", "!t=3&!(w=1)", "t=3&t=2|t=3", "t=2&(t=2&(t=2&(t=2&(t=2&w=2))))", "!(t=2|t=3&t=3)", "!t=2|t=3"};
        for (String e : others) {
            PutBack y = withWords(7, 0);
            y.mender(0, 0);
            read(y, "dear 30 " + e + ";dear 1 t=2");
            due("does not hold: " + e, y.cost(0, 77, 0, 0), 11);
        }
    }

    private static void costsOfManyClauses() {
        PutBack x = withWords(123, 57, 7, 99);
        x.mender(0, 0);
        String tests = "dear 9 i=1|i=1|i=1|i=1|i=1|i=1|i=1|i=1|i=1|i=1|i=1|i=1|i=1|i=1|i=1|i=1|i=1|i=1|i=1|i=1|i=1|i=1|i=1|";
        due("too early, and the tape is full of tests", read(x, tests), -10 - tests.length());
        String many = "dear 9 i=1;dear 9 i=1;dear 9 i=1;dear 9 i=1;dear 9 i=1;free 1 i=0;dear 3 w=1&w=1;free 2 w=1";
        for (int n = 0; n < 4; n++) {
            due("many tests", read(x, many), n);
            due("all hold", x.cost(0, 7, 1, 0), 45 + 3 - 2);
            due("free", x.cost(0, 12, 0, 0), 9);
        }
        String nine = "dear 1 i=0;dear 2 i=0;dear 3 i=0;dear 4 i=0;dear 5 i=0;dear 6 i=0;dear 7 i=0;dear 8 i=0;dear 9 i=0";
        PutBack y = withWords(123, 57);
        y.mender(0, 0);
        due("nine clauses", read(y, nine), 0);
        due("all of them dear", y.cost(0, 123, 0, 0), 45);
    }

    private static void staying() {
        promise = 17;
        PutBack x = withWords(12, 0, 13, 99, 8888, 0);
        x.mender(0, 0);
        read(x, "step 9");
        due("13 is too heavy beside 12", x.stays(0), 6);
        due("stays(1)", x.stays(1), -1);
        due("stays(-1)", x.stays(-1), -1);
        due("stays of an empty list", emptyWith(0).stays(0), 0);

        promise = 18;
        x = withWords(12, 0, 77777, 0, 1, 99);
        x.mender(0, 0);
        x.mender(3, 0);
        read(x, "step 9;limit 10");
        due("touches(0, 1, 0)", x.touches(0, 1, 0), 2);
        due("touches(0, 1, 1): the least number", x.touches(0, 1, 1), 1);
        due("touches(0, 12, 0): back", x.touches(0, 12, 0), 4);
        due("touches(0, 12, 1)", x.touches(0, 12, 1), 12);
        due("touches(0, 12, 2)", x.touches(0, 12, 2), 1);
        due("touches(0, 77777, 0)", x.touches(0, 77777, 0), 6);
        due("touches(0, 77777, 1)", x.touches(0, 77777, 1), 77777);
        due("touches(0, 77777, 2)", x.touches(0, 77777, 2), 0);
        due("touches(0, 2, 0)", x.touches(0, 2, 0), 3);
        due("touches(0, 2, 2): of 1 made", x.touches(0, 2, 2), 1);
        due("touches(2, 9, 0)", x.touches(2, 9, 0), -1);
        due("touches(0, 9, 3)", x.touches(0, 9, 3), -1);
        due("touches(0, 9, -1)", x.touches(0, 9, -1), -1);
        due("touches(0, 9, 0)", x.touches(0, 9, 0), -2);
        PutBack y = withWords(345, 0);
        y.mender(0, 0);
        due("touches: of two letters", y.touches(0, 345, 0), 3);
        due("touches: the least of them", y.touches(0, 345, 1), 34);
        y = withWords(3, 0);
        y.mender(0, 0);
        read(y, "dear 50 t<2;limit 30");
        due("touches: 3 is too dear for the list, and stands as typed", y.touches(0, 3, 2), 0);
        due("touches: itself", y.touches(0, 3, 1), 3);

        promise = 19;
        due("never(0)", x.never(0), 1);
        due("never(2)", x.never(2), -1);
        due("never of an empty list", emptyWith(0).never(0), 0);
        x.type(0, 12);
        x.back();
        due("never(1): SHY, left", x.never(1), 0);
        due("never(0)", x.never(0), 1);
        y = withWords(33333, 0, 33334, 99);
        y.mender(0, 0);
        due("never: too far from all short ones, and not itself", y.never(0), 0);
        read(y, "step 9");
        due("never: of step 9", y.never(0), 1);
    }

    private static void touchesOfTwoLetters() {
        promise = 18;
        PutBack x = withWords(3, 0);
        x.mender(0, 0);
        read(x, "limit 11;dear 50 t=1");
        due("one letter is dear, so 3 stands as typed", x.touches(0, 3, 0), 2);
        x.word(4, 0);
        read(x, "limit 80;dear 60 t=1&i=0");
        due("two letters and one, no fewer taken back", x.touches(0, 3, 0), 3);
        due("what: 11, the least", x.touches(0, 3, 1), 11);
        due("not taken back", x.touches(0, 3, 2), 0);
        read(x, "limit 80;dear 60 t<3&i=0");
        due("three letters and one are more than taken back", x.touches(0, 3, 0), 3);
        due("itself", x.touches(0, 3, 1), 3);
        due("taken back", x.touches(0, 3, 2), 1);
    }

    private static void rounds() {
        promise = 20;
        PutBack x = withWords(12, 0, 13, 5, 14, 60);
        x.mender(0, 0);
        due("round: 12 stays", x.round(0, 12, 0), 1);
        due("round: one goes round", x.round(0, 12, 1), 1);
        due("round: 1 becomes 14", x.round(0, 1, 0), 2);
        due("round: one goes round", x.round(0, 1, 1), 1);
        due("round: itself", x.round(0, 88888, 0), 1);
        read(x, "step 0;dear 50 i=2;free 0 t=1;dear 10 d=0&t=2");
        due("round: all become 12", x.round(0, 14, 0), 2);
        due("round(1, 9, 0)", x.round(1, 9, 0), -1);
        due("round(0, 9, 2)", x.round(0, 9, 2), -1);
        due("round(0, 9, -1)", x.round(0, 9, -1), -1);
        due("round(0, 9, 1)", x.round(0, 9, 1), -2);
        PutBack y = withWords(1, 0, 22, 0);
        y.mender(0, 0);
        read(y, "step 0;dear 5 t=1&i=0;dear 5 t=2&i=1;dear 9 t>2&i=0");
        due("round: 1, 22, 1", y.round(0, 1, 0), 2);
        due("round: two go round", y.round(0, 1, 1), 2);
        due("round: 333, 22, 1, 22", y.round(0, 333, 0), 3);
        due("round: two go round", y.round(0, 333, 1), 2);

        promise = 21;
        due("stands: never", y.stands(0, 1), -5);
        due("stands(1, 9)", y.stands(1, 9), -1);
        due("stands(0, 9)", y.stands(0, 9), -2);
        due("stands: itself at once", emptyWith(4).stands(0, 77777), 1);
        y = withWords(1, 0);
        y.mender(0, 0);
        for (int n = 0; n < 20; n++) {
            y.type(0, 1);
        }
        due("stands: the text may be full", y.stands(0, 1), 1);
        y = withWords(1, 0, 2, 0);
        y.mender(6, 0);
        read(y, "dear 20 s<9&i=0");
        due("stands: the tenth time, as TYPED goes", y.stands(0, 1), 10);
        due("TYPED as it was", y.told(0), 0);
        due("nothing stands", y.count(3), 0);
    }

    private static void standsByLearning() {
        PutBack z = withWords(3, 1);
        z.mender(4, 1);
        read(z, "dear 20 d>2");
        due("stands: the thirtieth time, when 3 has a weight of 30 and is dear", z.stands(0, 2), 30);
        due("nothing is learnt by asking", z.listed(0, 1), 1);
        z.weigh(0, 0);
        due("stands: not within thirty times", z.stands(0, 2), -5);
        PutBack x = withWords(11, 0, 12, 0);
        x.mender(4, 9);
        read(x, "step 9;dear 5 i=0&d<4;free 1 i=1");
        due("stands: 12 takes the weight, and ever more of it", x.stands(0, 11), -5);
        due("weights as they were", x.listed(1, 1), 0);
        PutBack y = withWords(11, 0, 12, 80);
        y.mender(2, 0);
        y.behind(1, 0, true);
        read(y, "step 5");
        due("stands: 12 first, and 11 behind it", y.stands(0, 11), -5);
        read(y, "step 5;dear 4 i=1");
        due("stands: 11 at once", y.stands(0, 11), 1);
        read(y, "step 5;dear 3 i=0&t=2");
        due("stands: 11 never: its cost is 0 behind 12, yet 12 has more weight", y.stands(0, 11), -5);
        y.weigh(1, 70);
        due("stands: 12 first (50 - 70), then 11 (3 - 5, 0 at least) is not below", y.stands(0, 11), -5);
        read(y, "step 5;dear 4 i=0&t=2");
        y.weigh(1, 40);
        due("stands: 12 first (50 - 40 against 40)", y.stands(0, 11), 2);
        y.type(0, 12);
        due("stands: 12 stands already", y.stands(0, 11), 1);
    }

    // ---- guesses, weights

    private static void guessing() {
        promise = 22;
        PutBack x = withWords(1, 5, 12, 9, 123, 9, 1234, 0, 2, 99, 12345, 7);
        due("guess(1, 0): the first of two alike", x.guess(1, 0), 1);
        due("guess(1, 1)", x.guess(1, 1), 2);
        due("guess(1, 2)", x.guess(1, 2), 5);
        due("guess(1234, 0)", x.guess(1234, 0), 5);
        due("guess(1234, 1)", x.guess(1234, 1), 3);
        due("guess(1234, 2): fewer", x.guess(1234, 2), -5);
        due("guess(2, 0)", x.guess(2, 0), 4);
        due("guess(23, 0)", x.guess(23, 0), -5);
        due("guess(12345, 0)", x.guess(12345, 0), 5);
        due("guess(0, 0)", x.guess(0, 0), -2);
        due("guess(9, 3)", x.guess(9, 3), -2);
        due("guess(123456, 0)", x.guess(123456, 0), -2);
        due("guess(1, 3)", x.guess(1, 3), -1);
        due("guess(1, -1)", x.guess(1, -1), -1);
        due("guess of an empty list", new PutBack().guess(1, 0), -5);

        promise = 23;
        due("letter(0): three are ahead of it", x.letter(0), -5);
        due("letter(1)", x.letter(1), 1);
        due("letter(3): at its third", x.letter(3), 3);
        due("letter(4)", x.letter(4), 1);
        due("letter(5)", x.letter(5), 1);
        due("letter(6)", x.letter(6), -1);
        due("letter(-1)", x.letter(-1), -1);

        promise = 24;
        x = withWords(12, 50, 13, 95, 88888, 0);
        x.mender(0, 0);
        x.mender(3, 0);
        read(x, "step 9");
        due("enough(0, 0): 95 less 90", x.enough(0, 0), 5);
        due("enough(0, 2)", x.enough(0, 2), 0);
        due("its own weight stays", x.listed(0, 1), 50);
        due("enough(2, 0)", x.enough(2, 0), -1);
        due("enough(0, 3)", x.enough(0, 3), -1);
        due("enough(0, -1)", x.enough(0, -1), -1);
        read(x, "step 9;dear 20 d<9&i=0;dear 15 i=0");
        due("enough: by none", x.enough(0, 0), -5);
        read(x, "step 9;dear 20 d<9&i=0;dear 1 i=0");
        due("enough: the heavier is free of what is dear", x.enough(0, 0), 90);
        x.type(0, 12);
        x.back();
        due("enough: SHY, left", x.enough(1, 0), 0);
        x = withWords(12, 98, 13, 0);
        x.mender(0, 0);
        read(x, "step 0");
        due("enough: 99", x.enough(0, 1), 99);
        x.weigh(0, 99);
        due("enough: 99 is not enough for the second", x.enough(0, 1), -5);
    }

    // ---- slips, chains

    private static void slipping() {
        promise = 25;
        PutBack x = withWords(12, 0, 22, 10);
        x.mender(0, 0);
        x.mender(1, 0);
        long no = PutBack.NO;
        due("slips of 12: 11, 13, 16; but 22 and 52 become 22", x.slips(0, 12, 0), 3);
        due("of five ways", x.slips(0, 12, 1), 5);
        due("slips of 22: 12 32 62 21 23 26", x.slips(0, 22, 0), 5);
        due("six ways", x.slips(0, 22, 1), 6);
        due("slips of 88888", x.slips(0, 88888, 0), 0);
        due("in lowest terms", x.slips(0, 88888, 1), 1);
        x = withWords(1, 0, 2, 10);
        x.mender(1, 0);
        due("slips of 1: 5, for NEAR, but not 2", x.slips(0, 1, 0), 1);
        due("slips of 1: half", x.slips(0, 1, 1), 2);
        x = withWords(15678, 0, 23432, 0);
        x.mender(0, 0);
        due("slips of 15678: of 2 2 3 3 2", x.slips(0, 15678, 0), 1);
        due("slips of 15678: all", x.slips(0, 15678, 1), 1);
        read(x, "limit 10");
        due("slips of 15678: none is mended", x.slips(0, 15678, 0), 0);
        read(x, "free 3 i=0;limit 10;dear 99 i=1;dear 99 t=5&s=1");
        due("slips of 15678: all", x.slips(0, 15678, 0), 1);
        due("slips(0, 1, 2)", x.slips(0, 1, 2), no);
        due("slips(0, 1, -1)", x.slips(0, 1, -1), no);
        due("slips(1, 1, 0)", x.slips(1, 1, 0), no);
        due("slips(0, 9, 0)", x.slips(0, 9, 0), no);

        promise = 26;
        x = withWords(12, 0, 13, 99, 14, 0, 15, 1);
        x.mender(0, 0);
        due("wrong: none", x.wrong(0, 0), 0);
        due("wrong: none, lowest", x.wrong(0, 1), 1);
        read(x, "step 9");
        due("wrong: 3 of 4", x.wrong(0, 0), 3);
        due("wrong: 3 of 4", x.wrong(0, 1), 4);
        x.weigh(2, 90);
        due("wrong: 2 of 4", x.wrong(0, 0), 1);
        due("wrong: a half", x.wrong(0, 1), 2);
        due("wrong(1, 0)", x.wrong(1, 0), no);
        due("wrong(0, 2)", x.wrong(0, 2), no);
        due("wrong(0, -1)", x.wrong(0, -1), no);
        due("wrong of one", withOne().wrong(0, 1), 1);
        due("wrong of an empty list", emptyWith(0).wrong(0, 0), no);
    }

    private static PutBack withOne() {
        PutBack x = withWords(12, 0);
        x.mender(0, 0);
        return x;
    }

    private static void chaining() {
        promise = 27;
        PutBack x = withWords(12, 0, 13, 99, 77777, 0);
        x.mender(0, 0);
        x.mender(4, 9);
        read(x, "step 9");
        due("unlike words", x.chain(0, 1, 0), 2);
        due("one round alone", x.chain(0, 1, 1), -5);
        due("behind one round", x.chain(0, 2, 1), 1);
        due("behind one round", x.chain(0, 10, 1), 1);
        due("12 has become", x.chain(0, 1, 10), 13);
        due("77777 has become", x.chain(0, 10, 12), 77777);
        due("chain(0, 1, 13)", x.chain(0, 1, 13), -1);
        due("chain(0, 1, 2)", x.chain(0, 1, 2), -1);
        due("chain(0, 0, 9)", x.chain(0, 0, 9), -1);
        due("chain(0, 0, least)", x.chain(0, 0, LEAST), -1);
        due("chain(2, 0, 0)", x.chain(2, 0, 0), -1);
        due("chain(0, 0, 0)", x.chain(0, 0, 0), -2);
        due("chain(0, 11, 10)", x.chain(0, 11, 10), -2);
        due("of an empty list none", emptyWith(0).chain(0, 1, 0), 0);
        due("of an empty list nothing becomes otherwise", emptyWith(0).chain(0, 1, 1), 0);
        x = withWords(12, 49, 13, 40);
        x.mender(4, 3);
        x.mender(0, 3);
        read(x, "step 0;dear 9 d>4");
        due("learnt as it goes: 12 is dear then", x.chain(0, 1, 11), 13);
        due("not learnt: 12 has more weight", x.chain(1, 1, 11), 12);
        due("weights stay", x.listed(0, 1), 49);
        due("TYPED stays", x.told(0), 0);
        x = withWords(1, 0, 2, 0);
        x.mender(2, 0);
        x.behind(1, 1, true);
        read(x, "step 2");
        x.type(0, 2);
        due("a text of its own: 1 is made of 1 though 2 stands", x.chain(0, 1, 10), 1);
        due("the text stays", x.count(3), 1);
        x.behind(0, 0, true);
        x.behind(0, 1, true);
        x.behind(1, 0, true);
        due("behind 1, 2 costs 0 and 1 costs 0: the first", x.chain(0, 1, 11), 1);
        x = withWords(1, 0, 2, 0);
        x.mender(0, 0);
        read(x, "step 0;dear 5 i=0&s<3;dear 1 i=1");
        due("TYPED as it goes: 2 2 2 1", x.chain(0, 2, 10), 2);
        due("TYPED as it goes: 2 2 2 1", x.chain(0, 2, 11), 1);
        due("two unlike", x.chain(0, 2, 0), 2);
        due("all 1 in the third", x.chain(0, 4, 0), 1);
        due("nothing otherwise behind three", x.chain(0, 4, 1), 3);
    }

    // ---- what was meant

    private static void meaning() {
        promise = 28;
        PutBack x = withWords(12, 9, 13, 0, 88888, 3);
        x.mender(0, 0);
        due("meant(0, 12): 12 and 13, that may slip to 12", x.meant(0, 12), 3);
        due("meant(0, 13): 12 slips to 13", x.meant(0, 13), 3);
        due("meant(0, 88888)", x.meant(0, 88888), 4);
        due("meant(0, 1): none", x.meant(0, 1), 0);
        due("meant(1, 9)", x.meant(1, 9), -1);
        due("meant(0, 9)", x.meant(0, 9), -2);

        promise = 29;
        due("likeliest(0, 12): 10 times 5", x.likeliest(0, 12), 0);
        due("likeliest(0, 13): 10 times 1 against 1 times 3", x.likeliest(0, 13), 0);
        due("likeliest(0, 88888)", x.likeliest(0, 88888), 2);
        due("likeliest(0, 1)", x.likeliest(0, 1), -5);
        due("likeliest(1, 9)", x.likeliest(1, 9), -1);
        due("likeliest(0, 9)", x.likeliest(0, 9), -2);
        PutBack y = withWords(2, 0, 3, 0);
        y.mender(0, 0);
        read(y, "step 0;limit 1;dear 9 i=0&t=1");
        due("likeliest: 2 by 4 ways, 3 by 4: the first", y.likeliest(0, 3), 0);
        y.weigh(1, 1);
        due("likeliest: the heavier", y.likeliest(0, 3), 1);

        y = withWords(1, 3, 2, 2);
        y.mender(0, 0);
        read(y, "step 0;limit 1;dear 9 i=0");
        due("likeliest: 4 times 3 and 3 times 4 are alike, the first", y.likeliest(0, 2), 0);
        y.weigh(0, 2);
        due("likeliest: 3 times 4", y.likeliest(0, 2), 1);

        promise = 30;
        x.mender(1, 0);
        x.mender(5, 0);
        due("who(52, 12)", x.who(52, 12), 7);
        due("who(18, 12)", x.who(18, 12), 7);
        due("who(1, 12)", x.who(1, 12), 7);
        due("who(14, 13): NEAR alone", x.who(14, 13), 2);
        due("who(888, 88888): GUESSING alone", x.who(888, 88888), 4);
        due("who(888, 888): the others", x.who(888, 888), 3);
        due("who(9, 1)", x.who(9, 1), -2);
        due("who(1, 9)", x.who(1, 9), -2);
        due("who of none", new PutBack().who(1, 1), 0);
    }

    private static void likeness() {
        promise = 31;
        due("twins of none", new PutBack().twins(), -5);
        due("twins of one", withWords(1, 0).twins(), -5);
        due("twins of two", withWords(1, 0, 88888, 0).twins(), 1);
        PutBack x = withWords(123, 0, 88888, 0, 77, 0, 124, 0, 7, 0);
        due("twins: 03 ahead of 24", x.twins(), 3);
        x = withWords(111, 0, 88888, 0, 77, 0, 224, 0, 7, 0);
        due("twins: 24", x.twins(), 24);
        read(x, "step 0");
        due("twins: all alike far", x.twins(), 1);
        x = withWords(11, 0, 55, 0, 15, 0, 8, 0, 3, 0);
        due("twins: near letters are no nearer", x.twins(), 2);

        promise = 32;
        x = withWords(88888, 0);
        x.mender(0, 0);
        x.mender(3, 0);
        due("room: none", x.room(0), 0);
        read(x, "limit 21");
        due("room: 888", x.room(0), 1);
        due("touches: 888", x.touches(0, 88888, 1), 888);
        read(x, "limit 99");
        due("room: all of 1 to 3 letters", x.room(0), 584);
        due("room(2)", x.room(2), -1);
        due("room(-1)", x.room(-1), -1);
        x.type(0, 77);
        x.back();
        due("room: but for what is left", x.room(1), 583);
        x.word(77, 0);
        due("room: what is left is of the list", x.room(1), 584);

        promise = 33;
        x = withWords(12345, 0, 8, 0);
        x.mender(0, 0);
        due("saved: none", x.saved(0), 0);
        read(x, "limit 21");
        due("saved: by three letters two", x.saved(0), 2);
        x.weigh(1, 99);
        due("saved: of three letters some are still nearer 12345", x.saved(0), 2);
        read(x, "limit 99;dear 99 i=1&t>1;dear 99 i=1&t=1");
        due("saved: by one letter four; 8 cannot be had", x.saved(0), 4);
        due("saved(1)", x.saved(1), -1);
        due("saved(-1)", x.saved(-1), -1);
        due("saved of an empty list", emptyWith(0).saved(0), 0);
    }

    private static void books() {
        promise = 34;
        PutBack x = withWords(12, 0);
        x.mender(0, 0);
        due("book(1, 9, 1)", x.book(1, 9, 1), -1);
        due("book(-2, 1, 1)", x.book(-2, 1, 1), -1);
        due("book(0, 9, 1)", x.book(0, 9, 1), -2);
        due("book(0, 1, 9)", x.book(0, 1, 9), -2);
        for (int n = 1; n <= 8; n++) {
            due("book", x.book(0, 1, n < 6 ? 12 : 1), n);
        }
        due("book, full", x.book(0, 1, 1), -4);
        due("book, full, no word", x.book(0, 9, 1), -2);
        due("count(4)", x.count(4), 8);

        promise = 35;
        due("looked(): the sixth is not so", x.looked(), 5);
        due("book(-1, 9, 9)", x.book(-1, 9, 9), 0);
        due("looked() at none", x.looked(), -5);
        due("count(4)", x.count(4), 0);
        x.book(0, 12, 12);
        due("looked(): all so", x.looked(), -5);
        x.word(13, 99);
        read(x, "step 9");
        due("looked(), as things are now", x.looked(), 0);
    }

    // ---- acts, the image

    private static void acting() {
        promise = 36;
        PutBack x = new PutBack();
        x.mender(0, 3);
        x.mender(4, 5);
        x.mender(5, 7);
        x.mender(6, 2);
        x.mender(1, 1);
        due("MENDER mends", x.act(0, 0, 10), 10);
        due("MENDER leaves", x.act(0, 1, 10), 7);
        due("MENDER tells", x.act(0, 2, 10), 14);
        due("NEAR mends", x.act(4, 0, 10), 34);
        due("LEARNING mends", x.act(1, 0, 10), 31);
        due("LEARNING tells", x.act(1, 2, 10), (27 + 1 - 5) * 2 + 7);
        due("GUESSING mends", x.act(2, 0, 9), (9 + 2) ^ 2);
        due("GUESSING leaves", x.act(2, 1, 9), -(((9 + 2) ^ 2) - 7));
        due("GUESSING tells", x.act(2, 2, 9), -4);
        due("TOLD leaves", x.act(3, 1, 9), 9 + 3 - 2 + 2);
        due("TOLD tells", x.act(3, 2, 9), 24 ^ 7);
        due("wrapping", x.act(4, 0, MOST), MOST * 3 + 4);
        due("wrapping", x.act(0, 2, LEAST + 3), 0);
        due("no such mender", x.act(5, 0, 1), 0);
        due("no such act", x.act(0, 3, 1), 0);
        due("no such act", x.act(0, -1, 1), 0);

        promise = 37;
        due("no trace then", x.trace(0), -1);
        due("none ran", x.count(6), 0);
        int[][] traces = {{1, 2, 41, 3, 2, 11, 1, 11, 1}, {2, 2, 3, 21, 2, 51, 1}, {3, 2, 31, 3, 61, 2, 1}, {0, 0, 1}};
        for (int[] trace : traces) {
            x.act(trace[0], trace[1], 5);
            for (int k = 2; k < trace.length; k++) {
                due("trace(" + (k - 2) + ")", x.trace(k - 2), trace[k]);
            }
            due("how many ran", x.count(6), trace.length - 2);
            due("trace behind the last", x.trace(trace.length - 2), -1);
        }
        due("trace(-1)", x.trace(-1), -1);
        due("trace(20)", x.trace(20), -1);
        due("trace(most)", x.trace(MOST), -1);
        x.act(9, 0, 0);
        due("no trace then", x.trace(0), -1);

        promise = 38;
        int[][] under = {{3, 0, 2}, {3, 3, 2}, {3, 6, 2}, {3, 1, -6}, {3, 5, -6}, {1, 1, 5}, {1, 0, 5}, {1, 2, -6}, {2, 2, 7},
            {2, 5, 7}, {2, 4, -6}, {0, 0, 3}, {0, 1, -6}, {4, 4, -6}, {4, 1, 1}, {5, 0, -1}, {-1, 0, -1}, {0, 7, -1}, {0, -1, -1}};
        for (int[] u : under) {
            due("as(" + u[0] + ", " + u[1] + ")", x.as(u[0], u[1]), u[2]);
        }
    }

    private static void images() {
        PutBack x = withWords(12, 40, 13, 50);
        x.mender(6, 1);
        x.mender(4, 9);
        x.row(0, 2, 7);
        x.behind(0, 1, true);
        read(x, "limit 20;step 8;dear 3 t=1");
        x.type(0, 12);
        x.type(0, 14);
        x.back();
        x.book(0, 12, 12);
        x.feed(108);
        promise = 39;
        due("image()", x.image(), 2);
        promise = 40;
        due("cost ahead", x.cost(0, 1, 0, 0), 18);
        x.mender(5, 3);
        x.word(88, 1);
        x.row(0, 2, 2);
        x.weigh(0, 3);
        x.behind(0, 1, false);
        x.send();
        x.type(1, 13);
        x.type(1, 16);
        x.type(1, 17);
        x.back();
        x.book(1, 1, 1);
        x.feed(105);
        due("a fault", x.telephone(), -12);
        due("another telephone", read(x, "step 3"), 1);
        x.book(-1, 0, 0);
        x.book(1, 5, 6);
        x.act(0, 2, 5);
        for (int n = 0; n < 2; n++) {
            due("undo()", x.undo(), 2);
            due("menders", x.count(0), 2);
            due("words", x.count(1), 2);
            due("telephones", x.count(2), 1);
            due("that stand", x.count(3), 2);
            due("rows of the book", x.count(4), 1);
            due("signs", x.count(5), 1);
            due("the trace is not of the image", x.count(6), 5);
            due("weight", x.listed(0, 1), 40);
            due("weight learnt", x.listed(1, 1), 50);
            due("behind", x.listed(0, 2), 2);
            due("TYPED", x.told(0), 2);
            due("LIMIT", x.told(1), 20);
            due("STEP", x.told(2), 8);
            due("LEFT", x.told(3), 1);
            due("which was left", x.told(70), 14);
            due("what stands", x.told(11), 14);
            due("what was typed", x.told(40), 12);
            due("cost with row and clause", x.cost(0, 1, 0, 0), 18);
            due("the book as it was", x.looked(), -5);
            due("the tape as it was", read(x, "imit 17"), 1);
            due("LIMIT", x.told(1), 17);
            due("a word that is there", x.word(88, 1), 2);
            due("another mender", x.mender(2, 2), 2);
            x.row(0, 2, 1);
            x.type(1, 12);
        }
        promise = 39;
        due("image() again", x.image(), 3);
        x.weigh(0, 0);
        due("undo() to the newer one", x.undo(), 3);
        due("weight as learnt", x.listed(0, 1), 49);
    }

    private static void counts() {
        promise = 41;
        PutBack x = withWords(12, 40, 13, 50, 14, 60);
        x.mender(0, 1);
        x.mender(0, 1);
        read(x, "limit 20");
        for (int n = 0; n < 4; n++) {
            x.type(0, 1);
        }
        for (int n = 0; n < 5; n++) {
            x.book(0, 1, 1);
        }
        for (int n = 0; n < 7; n++) {
            x.feed(50);
        }
        x.act(0, 2, 1);
        int[] due = {2, 3, 1, 4, 5, 7, 3, -1};
        for (int what = 0; what < due.length; what++) {
            due("count(" + what + ")", x.count(what), due[what]);
        }
        due("count(-1)", x.count(-1), -1);
        due("count(most)", x.count(MOST), -1);
    }

    public static void main(String[] args) {
        newObject();
        feeding();
        telephones();
        words();
        listing();
        menders();
        typing();
        making();
        costs();
        costsOfOtherKinds();
        costsOfClauses();
        costsOfBrackets();
        costsOfManyClauses();
        staying();
        touchesOfTwoLetters();
        rounds();
        standsByLearning();
        guessing();
        slipping();
        chaining();
        meaning();
        likeness();
        books();
        acting();
        images();
        counts();
        System.out.println(wrong == 0 ? "all " + checks + " answers are as due" : wrong + " of " + checks + " answers are not as due");
        if (wrong != 0) {
            System.exit(1);
        }
    }
}
