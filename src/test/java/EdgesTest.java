/** Each sentence of the document that names an edge, in the document's order: just inside it, just outside it. */
public final class EdgesTest {
    private static final int MOST = Integer.MAX_VALUE, LEAST = Integer.MIN_VALUE;
    private static final int PLAIN = 0, NEAR = 1, AHEAD = 2, SHY = 3, LEARNING = 4, GUESSING = 5, TOLD = 6;
    private static int checks = 0;
    private static int wrong = 0;
    private static String sentence = "";

    private static void due(String what, long got, long due) {
        checks++;
        if (got != due) {
            wrong++;
            System.out.println(sentence + " -- " + what + " answered " + got + ", due is " + due);
        }
    }

    private static void feed(PutBack x, String tape) {
        for (int k = 0; k < tape.length(); k++) {
            x.feed(tape.charAt(k));
        }
    }

    private static int read(PutBack x, String tape) {
        feed(x, tape);
        return x.telephone();
    }

    /** What telephone() answers to a tape, on an object of its own. */
    private static int readAlone(String tape) {
        return read(new PutBack(), tape);
    }

    /** One MENDER, number 0, and WORDS with their WEIGHTS. */
    private static PutBack with(int kind, int v, int... wordsAndWeights) {
        PutBack x = new PutBack();
        x.mender(kind, v);
        for (int k = 0; k < wordsAndWeights.length; k += 2) {
            x.word(wordsAndWeights[k], wordsAndWeights[k + 1]);
        }
        return x;
    }

    private static PutBack with(String tape, int kind, int v, int... wordsAndWeights) {
        PutBack x = with(kind, v, wordsAndWeights);
        due("telephone() of " + tape, read(x, tape), 0);
        return x;
    }

    private static String repeat(String part, int times) {
        StringBuilder all = new StringBuilder();
        for (int n = 0; n < times; n++) {
            all.append(part);
        }
        return all.toString();
    }

    // ---- letters, words

    private static void wordsAreOneToFiveLetters() {
        sentence = "LETTERS are 1 .. 8; a WORD is a number of 1 to 5 digits, each a LETTER";
        PutBack x = new PutBack();
        for (int n = -1000; n <= 112000; n++) {
            if (n % 500 == 0) {
                x = new PutBack();
            }
            boolean isWord = Integer.toString(n).matches("[1-8]{1,5}");
            due("who(" + n + ", 1)", x.who(n, 1), isWord ? 0 : -2);
        }
        int[] others = {888888, 111111, 100001, 888880, 1111111, 11111111, 111111111, 1111111111, -11111, -88888, LEAST, LEAST + 1, MOST};
        for (int n : others) {
            due("who(1, " + n + ")", new PutBack().who(1, n), -2);
            due("word(" + n + ", 0)", new PutBack().word(n, 0), -2);
        }
        due("word(1, 0)", new PutBack().word(1, 0), 0);
        due("word(88888, 0)", new PutBack().word(88888, 0), 0);
    }

    private static final String[] NEAR_ONES = {"", "25", "136", "247", "38", "16", "257", "368", "47"};

    private static boolean isNear(int a, int b) {
        return NEAR_ONES[a].indexOf('0' + b) >= 0;
    }

    private static void nearIsBesideOrAbove() {
        sentence = "two rows, 1 .. 4 and 5 .. 8; two are NEAR, if one is beside or above the other one";
        for (int kind = 0; kind <= 6; kind++) {
            PutBack x = with(kind, 0);
            for (int letter = 1; letter <= 8; letter++) {
                x.word(letter, 0);
            }
            boolean knows = kind == NEAR || kind == LEARNING;
            for (int a = 1; a <= 8; a++) {
                for (int b = 1; b <= 8; b++) {
                    due("KIND " + kind + ": " + a + " for " + b, x.cost(0, a, b - 1, 0), a == b ? 0 : knows && isNear(a, b) ? 4 : 10);
                }
            }
        }
        sentence = "SLIPS: one of its LETTERS could slip to a NEAR one";
        for (int letter = 1; letter <= 8; letter++) {
            for (int slip = 1; slip <= 8; slip++) {
                if (slip != letter) {
                    PutBack x = with(PLAIN, 0, letter, 0);
                    for (int other = 1; other <= 8; other++) {
                        if (other != slip) {
                            x.word(other, 0);
                        }
                    }
                    boolean isNear = isNear(letter, slip);
                    due(letter + " slips to " + slip, x.slips(0, letter, 0), isNear ? 1 : 0);
                    due(letter + " slips to " + slip + ", of", x.slips(0, letter, 1), isNear ? NEAR_ONES[letter].length() : 1);
                }
            }
        }
    }

    // ---- the sizes of all that is kept

    private static void listHoldsEight() {
        sentence = "THE LIST: WORDS, numbered from 0 on, 8 at most, no two alike, each with a WEIGHT (0 .. 99)";
        PutBack x = new PutBack();
        for (int n = 0; n < 8; n++) {
            due("count(1)", x.count(1), n);
            due("listed behind the last", x.listed(n, 0), -1);
            due("WEIGHT -1", x.word(11 * (n + 1), -1), -2);
            due("WEIGHT 100", x.word(11 * (n + 1), 100), -2);
            due("the number", x.word(11 * (n + 1), n % 2 == 0 ? 0 : 99), n);
            due("alike", x.word(11 * (n + 1), 50), -3);
            due("the first one alike", x.word(11, 50), -3);
            due("BEHIND: none at first", x.listed(n, 2), 0);
        }
        due("the ninth", x.word(1, 0), -4);
        due("count(1)", x.count(1), 8);
        for (int n = 0; n < 8; n++) {
            due("the WORD", x.listed(n, 0), 11 * (n + 1));
            due("WEIGHT", x.listed(n, 1), n % 2 == 0 ? 0 : 99);
        }
        due("listed(8, 0)", x.listed(8, 0), -1);
        due("alike but for a LETTER more", with(PLAIN, 0, 12, 0).word(121, 0), 1);
        sentence = "WEIGHT of one of THE LIST becomes n";
        due("weigh(7, 0)", x.weigh(7, 0), 99);
        due("weigh(7, 99)", x.weigh(7, 99), 0);
        due("weigh(7, 100)", x.weigh(7, 100), -2);
        due("weigh(7, -1)", x.weigh(7, -1), -2);
        due("weigh(8, 0)", x.weigh(8, 0), -1);
        due("WEIGHT", x.listed(7, 1), 99);
        due("that of the others", x.listed(6, 1), 0);
        sentence = "The one told as next often comes BEHIND that of number i (also one and the same), or not: whether it did";
        for (int next = 0; next < 8; next++) {
            due("not yet", x.behind(7, next, false), 0);
            due("it did not", x.behind(7, next, true), 0);
            due("it did", x.behind(7, next, true), 1);
            due("bits", x.listed(7, 2), (2 << next) - 1);
        }
        for (int next = 7; next >= 0; next--) {
            due("it did", x.behind(7, next, false), 1);
            due("it did not any more", x.behind(7, next, false), 0);
            due("bits", x.listed(7, 2), (1 << next) - 1);
        }
        due("behind(7, 8, true)", x.behind(7, 8, true), -1);
        due("behind(8, 7, true)", x.behind(8, 7, true), -1);
        due("behind(6, 7, true)", x.behind(6, 7, true), 0);
        due("one way alone", x.listed(7, 2), 0);
        due("that way", x.listed(6, 2), 128);
    }

    private static void mendersAreFive() {
        sentence = "MENDERS are numbered from 0 on, 5 at most, each of a KIND (0 .. 6); a number v (0 .. 9)";
        for (int first = 0; first <= 2; first++) {
            PutBack x = new PutBack();
            for (int n = 0; n < 5; n++) {
                due("of what is not there", x.of(n, 0), -1);
                due("KIND 7", x.mender(7, 0), -1);
                due("KIND -1", x.mender(-1, 0), -1);
                due("v 10", x.mender(first + n, 10), -2);
                due("v -1", x.mender(first + n, -1), -2);
                due("its number", x.mender(first + n, n % 2 == 0 ? 9 : 0), n);
                due("how many", x.count(0), n + 1);
            }
            due("the sixth", x.mender(0, 0), -4);
            due("how many", x.count(0), 5);
            for (int n = 0; n < 5; n++) {
                due("KIND", x.of(n, 0), first + n);
                due("v", x.of(n, 1), n % 2 == 0 ? 9 : 0);
                due("what 2", x.of(n, 2), -1);
                due("what -1", x.of(n, -1), -1);
            }
            due("of(5, 0)", x.of(5, 0), -1);
        }
        sentence = "TOLD ones a ROW of four numbers (0 .. 9; 0 at first)";
        PutBack x = new PutBack();
        for (int n = 0; n < 5; n++) {
            x.mender(TOLD, 0);
        }
        for (int n = 0; n < 20; n++) {
            due("0 at first", x.row(n / 4, n % 4, n % 10), 0);
            due("10", x.row(n / 4, n % 4, 10), -2);
            due("-1", x.row(n / 4, n % 4, -1), -2);
        }
        for (int n = 0; n < 20; n++) {
            due("what it was", x.row(n / 4, n % 4, 9 - n % 10), n % 10);
        }
        for (int n = 0; n < 20; n++) {
            due("what it became", x.row(n / 4, n % 4, 0), 9 - n % 10);
        }
        for (int m = 0; m < 5; m++) {
            due("row(m, 4, 0)", x.row(m, 4, 0), -1);
            due("row(m, -1, 0)", x.row(m, -1, 0), -1);
        }
        for (int kind = 0; kind <= 5; kind++) {
            due("KIND " + kind + " has no ROW", with(kind, 0).row(0, 0, 0), -3);
        }
    }

    private static void textHoldsTwenty() {
        sentence = "THE TEXT: WORDS that stand, 20 at most; each with the WORD that was typed for it; TYPED: 0 at first";
        PutBack x = with(PLAIN, 0, 12, 0);
        for (int n = 0; n < 20; n++) {
            due("TYPED", x.told(0), n);
            due("that stand", x.count(3), n);
            due("none stands there yet", x.told(10 + n), -1);
            due("none was typed there yet", x.told(40 + n), -1);
            due("type", x.type(0, n % 2 == 0 ? 11 : 77), n % 2 == 0 ? 12 : 77);
            due("what stands", x.told(10 + n), n % 2 == 0 ? 12 : 77);
            due("what was typed", x.told(40 + n), n % 2 == 0 ? 11 : 77);
        }
        due("the twenty-first", x.type(0, 11), -4);
        due("TYPED", x.told(0), 20);
        due("that stand", x.count(3), 20);
        due("told(30)", x.told(30), -1);
        due("told(60)", x.told(60), -1);
        due("taken back, it stands still", x.back(), 77);
        due("so there is no room", x.type(0, 11), -4);
        due("send()", x.send(), 20);
        due("send() again", x.send(), 0);
        due("told(10)", x.told(10), -1);
        due("told(40)", x.told(40), -1);
        due("there is room again", x.type(0, 11), 12);
        due("TYPED goes on", x.told(0), 21);
        due("what stands", x.told(10), 12);
        due("told(11)", x.told(11), -1);
    }

    private static void leftAreSix() {
        sentence = "LEFT: WORDS that were taken back, 6 at most; among the LEFT (if it is not, and there is room)";
        PutBack x = with(PLAIN, 0, 11111, 0);
        x.mender(SHY, 0);
        read(x, "step 0;free 1 i=0");
        for (int n = 1; n <= 8; n++) {
            due("type", x.type(0, n), 11111);
            due("back()", x.back(), n);
            due("back() again", x.back(), n);
            due("how many", x.told(3), Math.min(n, 6));
            due("the last one", x.told(75), n < 6 ? -1 : 6);
            due("SHY", x.makes(1, n), n <= 6 ? n : 11111);
            due("the first one again", x.type(0, 1), 11111);
            due("taken back", x.back(), 1);
            due("is there already", x.told(3), Math.min(n, 6));
            due("what stands", x.told(10 + 2 * n - 2), n);
        }
        for (int k = 0; k < 6; k++) {
            due("in their order", x.told(70 + k), k + 1);
        }
        due("told(76)", x.told(76), -1);
        due("told(69)", x.told(69), -1);
        due("send()", x.send(), 16);
        due("LEFT stay", x.told(3), 6);
        due("back(): nothing stands", x.back(), -3);
        PutBack y = with(PLAIN, 0);
        due("back(): nothing stands", y.back(), -3);
        due("none is LEFT", y.told(3), 0);
        due("told(70)", y.told(70), -1);
    }

    private static void bookHoldsEight() {
        sentence = "BOOK told by hand: 8 at most; LOOKED at: the first that is not so (-5: none)";
        PutBack x = with(PLAIN, 0, 12, 0);
        due("looked() at none", x.looked(), -5);
        for (int n = 1; n <= 8; n++) {
            due("a row", x.book(0, 11, n < 8 ? 12 : 11), n);
            due("count(4)", x.count(4), n);
            due("looked()", x.looked(), n < 8 ? -5 : 7);
        }
        due("the ninth", x.book(0, 11, 12), -4);
        due("none of that", x.count(4), 8);
        due("all others are so as well", x.looked(), 7);
        due("mender -1", x.book(-1, 0, 0), 0);
        due("count(4)", x.count(4), 0);
        due("looked()", x.looked(), -5);
        due("mender -1 of none", x.book(-1, LEAST, MOST), 0);
        due("mender -2", x.book(-2, 1, 1), -1);
        due("mender 1", x.book(1, 1, 1), -1);
        due("the first again", x.book(0, 11, 88888), 1);
        due("looked(): the first", x.looked(), 0);
        x = with("limit 9", PLAIN, 0, 12, 0);
        for (int kind : new int[] {NEAR, PLAIN, LEARNING, PLAIN}) {
            x.mender(kind, 0);
        }
        for (int m = 0; m < 5; m++) {
            due("of its own MENDER", x.book(m, 11, m == 1 || m == 3 ? 12 : 11), m + 1);
        }
        due("looked(): all are so", x.looked(), -5);
        due("one more", x.book(4, 11, 12), 6);
        due("looked()", x.looked(), 5);
        PutBack y = new PutBack();
        due("mender -1 where there is no MENDER", y.book(-1, 1, 1), 0);
        due("mender 0 where there is no MENDER", y.book(0, 1, 1), -1);
    }

    // ---- telephones

    private static void tapeHoldsHundred() {
        sentence = "A sign (0 .. 127) comes behind THE TAPE's (100 at most): how many it has";
        PutBack x = new PutBack();
        for (int n = 0; n < 100; n++) {
            due("count(5)", x.count(5), n);
            due("feed(-1)", x.feed(-1), -2);
            due("feed(128)", x.feed(128), -2);
            due("feed", x.feed(n % 2 == 0 ? 0 : 127), n + 1);
        }
        due("feed a sign too many", x.feed(0), -4);
        due("BAD ahead of FULL", x.feed(128), -2);
        due("count(5)", x.count(5), 100);
        due("a FAULT", x.telephone(), -10);
        due("empty then", x.count(5), 0);
        due("feed", x.feed(0), 1);
        String hundred = "dear 40 t=11|" + repeat("t=9|", 20) + "t=1|w=2";
        due("it is of 100 bytes", hundred.length(), 100);
        PutBack y = with("step 0;dear 20 t=0", PLAIN, 0, 12, 0);
        feed(y, hundred);
        due("feed a sign too many", y.feed('5'), -4);
        due("a TELEPHONE of 100 bytes", y.telephone(), 1);
        due("its last TEST holds", y.cost(0, 33, 0, 0), 60);
        due("a FAULT by the last byte", readAlone(hundred.substring(0, 99) + "="), -109);
        String early = "dear 4 t=11|" + repeat("t=9|", 22);
        due("it is of 100 bytes", early.length(), 100);
        due("a TAPE of 100 bytes that ends too early", readAlone(early), -110);
        due("the sign behind them never came", readAlone(early + "t"), -110);
    }

    private static final String DIGITS = "0123456789", FACTOR = "!(twdkis", BEHIND = "&|";

    /** A tape, sign by sign, each with what else could be in its place. */
    private static final String[] PLACES = {
        "l", "lsdf", "i", "i", "m", "m", "i", "i", "t", "t", " ", " ", "7", DIGITS, ";", DIGITS + ";",
        "s", "lsdf", "t", "t", "e", "e", "p", "p", " ", " ", "1", DIGITS, "0", DIGITS + ";", ";", ";",
        "d", "lsdf", "e", "e", "a", "a", "r", "r", " ", " ", "0", DIGITS, " ", " ",
        "!", FACTOR, "(", FACTOR, "t", FACTOR, "<", "<=>", "1", DIGITS, "&", DIGITS + BEHIND + ")", "w", FACTOR, "=", "<=>",
        "2", DIGITS, "2", DIGITS + BEHIND + ")", "|", BEHIND + ")", "!", FACTOR, "d", FACTOR, ">", "<=>", "0", DIGITS,
        ")", BEHIND + ")", "|", BEHIND + ";", "s", FACTOR, "=", "<=>", "9", DIGITS, ";", DIGITS + BEHIND + ";",
        "f", "lsdf", "r", "r", "e", "e", "e", "e", " ", " ", "9", DIGITS, "9", DIGITS + " ", " ", " ",
        "k", FACTOR, "=", "<=>", "4", DIGITS, "&", DIGITS + BEHIND + ";", "(", FACTOR, "i", FACTOR, ">", "<=>", "1", DIGITS,
        "0", DIGITS + BEHIND + ")", ")", BEHIND + ")", "", BEHIND + ";"};

    private static void faultIsTheFirstByte() {
        sentence = "FAULT: the place of the first byte with which no TELEPHONE can go on (the size, if it ends too early)";
        StringBuilder ahead = new StringBuilder();
        for (int k = 0; k + 1 < PLACES.length; k += 2) {
            String tape = ahead.toString();
            int place = tape.length();
            boolean mayEnd = PLACES[k + 1].indexOf(';') >= 0;
            due("telephone() of " + tape, readAlone(tape), mayEnd ? 0 : -10 - place);
            for (char sign = 0; sign < 128; sign++) {
                int answer = readAlone(tape + sign);
                boolean isFit = PLACES[k + 1].indexOf(sign) >= 0;
                due("telephone() of " + tape + sign + " (" + (int) sign + ")", answer == 0 ? -11 - place : answer, isFit ? -11 - place : -10 - place);
                if (!isFit) {
                    due("what comes behind does not matter", readAlone(tape + sign + " 1"), -10 - place);
                }
            }
            ahead.append(PLACES[k]);
        }
        due("all of it", readAlone(ahead.toString()), 0);
        for (String name : new String[] {"limit", "step", "dear", "free"}) {
            String rest = name.length() == 5 || name.equals("step") ? "" : " t=1";
            for (String n : new String[] {"0", "9", "10", "99"}) {
                due(name + " " + n + rest, readAlone(name + " " + n + rest), 0);
            }
            int behind = -10 - name.length() - 1;
            for (String n : new String[] {"00", "01", "09"}) {
                due(name + " " + n + rest, readAlone(name + " " + n + rest), behind - 1);
            }
            due(name + " 100", readAlone(name + " 100" + rest), behind - 2);
            due(name + " -1", readAlone(name + " -1" + rest), behind);
            due(name + " with two blanks", readAlone(name + "  1" + rest), behind);
            due(name + " without a blank", readAlone(name + "1" + rest), behind + 1);
            due(name + " with a blank ahead", readAlone(" " + name + " 1" + rest), -10);
            due(name + " alone", readAlone(name), behind + 1);
            due(name + " without a number", readAlone(name + " "), behind);
        }
        due("an empty TAPE ends too early", readAlone(""), -10);
        due("nothing behind a ;", readAlone("step 1;"), -17);
    }

    private static void clausesAreTen() {
        sentence = "CLAUSES, 10 at most, with ; between";
        String nine = repeat("step 1;", 9);
        due("ten", readAlone(nine + "step 2"), 0);
        due("ten and a ;", readAlone(nine + "step 2;"), -10 - 69);
        due("eleven", readAlone(nine + "step 2;step 3"), -10 - 69);
        due("ten of two digits and a ;", readAlone(nine + "limit 22;"), -10 - 71);
        PutBack x = with(nine + "limit 33", PLAIN, 0);
        due("the tenth holds", x.told(1), 33);
        due("the ninth, too", x.told(2), 1);
        x = with("step 0;limit 0;step 0;limit 0;dear 1 t=1;step 0;limit 0;free 3 t=2;dear 7 t=1;dear 9 t=1", PLAIN, 0, 8, 0);
        due("the tenth is dear", x.cost(0, 1, 0, 0), 17);
        due("a FAULT in the tenth", readAlone(nine + "step x"), -10 - 68);
    }

    private static void fiveMayBeOpen() {
        sentence = "At most 5 of ! and ( are open (a ( till its ) , a ! till its F ends)";
        for (int bits = 0; bits < 32; bits++) {
            StringBuilder open = new StringBuilder();
            StringBuilder closing = new StringBuilder();
            for (int k = 0; k < 5; k++) {
                boolean isNot = (bits >> k & 1) != 0;
                open.append(isNot ? '!' : '(');
                closing.append(isNot ? "" : ")");
            }
            due("five: " + open, readAlone("dear 1 " + open + "t=1" + closing), 0);
            due("a sixth (: " + open, readAlone("dear 1 " + open + "(t=1)" + closing), -10 - 12);
            due("a sixth !: " + open, readAlone("dear 1 " + open + "!t=1" + closing), -10 - 12);
            String twice = "dear 1 " + open + "t=1" + closing + "&" + open + "t=1" + closing + "|" + open + "t=1" + closing;
            due("five, and five again: " + open, readAlone(twice), 0);
            due("five, and six then: " + open, readAlone("dear 1 " + open + "t=1" + closing + "&" + open + "!"), -10 - 16 - closing.length() - 5);
        }
        due("four and one !, that ends with its F, and one again", readAlone("dear 1 ((((!t=1&!t=2|!t=3))))"), 0);
        due("four and one (, and one again", readAlone("dear 1 !(!((t=1)&(t=2)|!t=3))"), 0);
        due("two ! that end with a )", readAlone("dear 1 (((!!t=1&!!t=1)&!!!t=1)&!!!!t=1)&!!!!!t=1"), 0);
        due("four ( and two !", readAlone("dear 1 ((((!t=1&!!t=1"), -10 - 17);
        due("a ! is open while its ( is", readAlone("dear 1 !(!(!t=1&!!t=1))"), -10 - 17);
        due("and no more than that", readAlone("dear 1 !(!(!t=1&!t=1))"), 0);
        due("a ! is not open behind its )", readAlone("dear 1 !(!(t=1)&!!!t=1)"), 0);
        due("a ) that none opened", readAlone("dear 1 (((((t=1))))))"), -10 - 20);
        PutBack x = with("step 0;dear 3 !(!(!t=1))|(((((w=2)))));dear 5 !!!!!t=1;dear 8 !!!!t=1", PLAIN, 0, 8, 0);
        due("what holds of 1", x.cost(0, 1, 0, 0), 8);
        due("what holds of 11", x.cost(0, 11, 0, 0), 3 + 5);
    }

    private static boolean holds(char sign, int fact, int number) {
        return sign == '<' ? fact < number : sign == '>' ? fact > number : fact == number;
    }

    private static final int[] NUMBERS = {0, 1, 2, 3, 4, 5, 6, 7, 8, 9, 10, 98, 99};
    private static final int[] BY_LETTERS = {7, 77, 777, 7777, 77777};

    private static void testsOfLetters() {
        for (char sign : new char[] {'<', '=', '>'}) {
            for (int n : NUMBERS) {
                sentence = "t LETTERS of the first, w of the second: " + sign + n;
                PutBack x = with("step 0;dear 7 t" + sign + n + ";dear 20 w" + sign + n, PLAIN, 0, 7, 0, 77, 0, 777, 0, 7777, 0, 77777, 0);
                for (int t = 1; t <= 5; t++) {
                    for (int w = 1; w <= 5; w++) {
                        int cost = (holds(sign, t, n) ? 7 : 0) + (holds(sign, w, n) ? 20 : 0);
                        due("of " + t + " and " + w, x.cost(0, BY_LETTERS[t - 1], w - 1, 0), cost);
                    }
                }
                sentence = "d WEIGHT of that by 10 (cut), i the number of the second: " + sign + n;
                x = with("step 0;dear 7 d" + sign + n + ";dear 20 i" + sign + n, PLAIN, 0, 1, 0, 2, 9, 3, 10, 4, 19, 5, 20, 6, 89, 7, 90, 8, 99);
                int[] ds = {0, 0, 1, 1, 2, 8, 9, 9};
                for (int i = 0; i < 8; i++) {
                    due("of number " + i, x.cost(0, 1, i, 0), (holds(sign, ds[i], n) ? 7 : 0) + (holds(sign, i, n) ? 20 : 0));
                }
                sentence = "k KIND of the MENDER: " + sign + n;
                for (int kind = 0; kind <= 6; kind++) {
                    x = with("step 0;dear 7 k" + sign + n, kind, 5, 8, 0);
                    due("of KIND " + kind, x.cost(0, 1, 0, 0), holds(sign, kind, n) ? 7 : 0);
                }
                sentence = "s TYPED modulo 10: " + sign + n;
                x = with("step 0;dear 7 s" + sign + n, PLAIN, 0, 8, 0);
                for (int typed = 0; typed <= 31; typed++) {
                    due("TYPED " + typed, x.cost(0, 1, 0, 0), holds(sign, typed % 10, n) ? 7 : 0);
                    x.type(0, 8);
                    if (typed % 15 == 14) {
                        x.send();
                    }
                }
            }
        }
    }

    private static void telephonesAreFive() {
        sentence = "TELEPHONES are numbered from 0 on, 5 at most; the newest one holds; without one there are no CLAUSES";
        PutBack x = with(PLAIN, 0, 8, 0);
        due("LIMIT without", x.told(1), 12);
        due("STEP without", x.told(2), 10);
        due("nothing dear", x.cost(0, 1, 0, 0), 10);
        due("a FAULT first", read(x, "limit 5x"), -17);
        due("still without", x.told(1), 12);
        for (int n = 0; n < 5; n++) {
            due("count(2)", x.count(2), n);
            due("a FAULT", read(x, "limit 99;step 99;dear 9"), -10 - 23);
            due("is none", x.count(2), n);
            due("the one that held holds: STEP", x.told(2), n == 0 ? 10 : 5);
            due("the one that held holds: COST", x.cost(0, 1, 0, 0), n == 0 ? 10 : 5 + n - 1);
            due("its number", read(x, "step 7;step 5;dear " + n + " t=1"), n);
            due("it holds", x.cost(0, 1, 0, 0), 5 + n);
        }
        feed(x, "step 0");
        due("a sixth", x.telephone(), -4);
        due("THE TAPE stays", x.count(5), 6);
        due("the fifth holds", x.cost(0, 1, 0, 0), 9);
        feed(x, "!");
        due("a FAULT does not come ahead of FULL", x.telephone(), -4);
        due("THE TAPE stays", x.count(5), 7);
        x = with(PLAIN, 0, 8, 0);
        String tests = "dear 1 t=5" + repeat("|t=5", 22);
        for (int n = 0; n < 3; n++) {
            due("a long FAULT", read(x, tests + "|"), -10 - 99);
        }
        due("behind long FAULTS", read(x, "step 0;dear 5 t=5|t=1;dear 9 t=5&t=1"), 0);
        due("what holds is its own", x.cost(0, 1, 0, 0), 5);
        sentence = "LIMIT (12 without), STEP (10 without): the last n";
        x = with("limit 3;step 4;limit 0;step 0", PLAIN, 0);
        due("LIMIT", x.told(1), 0);
        due("STEP", x.told(2), 0);
        read(x, "limit 99;dear 5 t=1");
        due("LIMIT", x.told(1), 99);
        due("STEP without", x.told(2), 10);
        read(x, "step 99;limit 1;step 98;free 5 t=1");
        due("LIMIT", x.told(1), 1);
        due("STEP", x.told(2), 98);
        read(x, "dear 5 t=1");
        due("LIMIT without", x.told(1), 12);
        due("STEP without", x.told(2), 10);
    }

    // ---- far, cost, price

    private static void farOfSteps() {
        sentence = "FAR: a LETTER put in, or taken out, or put in another one's place: STEP each; NEAR: 4, if that is less";
        for (int step : new int[] {0, 1, 3, 4, 5, 10, 99}) {
            for (int kind = 0; kind <= 4; kind++) {
                PutBack x = with("step " + step, kind, 0, 123, 0, 88888, 0, 8, 0);
                String of = "KIND " + kind + ", STEP " + step + ": ";
                int near = kind == NEAR || kind == LEARNING ? Math.min(4, step) : step;
                due(of + "alike", x.cost(0, 123, 0, 0), 0);
                due(of + "put in at the end", x.cost(0, 12, 0, 0), step);
                due(of + "put in at the beginning", x.cost(0, 23, 0, 0), step);
                due(of + "put in between", x.cost(0, 13, 0, 0), step);
                due(of + "taken out at the end", x.cost(0, 1231, 0, 0), step);
                due(of + "taken out at the beginning", x.cost(0, 8123, 0, 0), step);
                due(of + "taken out between", x.cost(0, 1283, 0, 0), step);
                due(of + "another's place", x.cost(0, 823, 0, 0), step);
                due(of + "a NEAR one's place", x.cost(0, 523, 0, 0), near);
                due(of + "three NEAR ones", x.cost(0, 567, 0, 0), 3 * near);
                due(of + "NEAR and put in", x.cost(0, 16, 0, 0), near + step);
                due(of + "shifted by one: out and in", x.cost(0, 238, 0, 0), Math.min(2 * step, 2 * near + step));
                due(of + "a LETTER changes once alone", x.cost(0, 6, 2, 0), step);
                due(of + "five others", x.cost(0, 11111, 1, 0), 5 * step);
                due(of + "four put in", x.cost(0, 8, 1, 0), 4 * step);
                due(of + "four taken out", x.cost(0, 88888, 2, 0), 4 * step);
            }
        }
        sentence = "GUESSING: 2 in place of that sum, if the WORD typed is the beginning of the other one, and shorter";
        for (int step : new int[] {0, 1, 2, 3, 99}) {
            PutBack x = with("step " + step, GUESSING, 0, 12121, 0, 1, 0);
            for (int kind = 0; kind <= 4; kind++) {
                due("another KIND", with("step " + step, kind, 0, 12121, 0).cost(0, 1212, 0, 0), step);
            }
            due("another KIND", with("step " + step, TOLD, 0, 12121, 0).cost(0, 1212, 0, 0), step);
            due("of one LETTER", x.cost(0, 1, 0, 0), 2);
            due("one LETTER shorter", x.cost(0, 1212, 0, 0), 2);
            due("as long", x.cost(0, 12121, 0, 0), 0);
            due("as long, of one LETTER", x.cost(0, 1, 1, 0), 0);
            due("longer", x.cost(0, 11, 1, 0), step);
            due("the end of it", x.cost(0, 2121, 0, 0), step);
            due("no beginning by the last LETTER", x.cost(0, 122, 0, 0), 2 * step);
            due("no beginning by the first LETTER", x.cost(0, 212, 0, 0), 2 * step);
            due("NEAR is nothing to it", x.cost(0, 2, 1, 0), step);
        }
    }

    private static void costIsNoLess() {
        sentence = "COST: the n of all dear whose E holds, less those of all free, together; 0 at least";
        int[][] frees = {{9, 1}, {10, 0}, {11, 0}, {99, 0}, {0, 10}};
        for (int[] f : frees) {
            due("free " + f[0], with("free " + f[0] + " t=1", PLAIN, 0, 8, 0).cost(0, 1, 0, 0), f[1]);
        }
        due("free first, then dear", with("free 20 t=1;dear 15 t=1", PLAIN, 0, 8, 0).cost(0, 1, 0, 0), 5);
        due("dear first, then free", with("dear 15 t=1;free 20 t=1", PLAIN, 0, 8, 0).cost(0, 1, 0, 0), 5);
        due("free of twice", with("free 3 t=1;free 4 t=1;free 50 t=2", PLAIN, 0, 8, 0).cost(0, 1, 0, 0), 3);
        due("dear of twice", with("dear 99 t=1;dear 99 w=1;dear 99 i=1", PLAIN, 0, 8, 0).cost(0, 1, 0, 0), 208);
        due("all that is dear", with("step 99;dear 99 t=5;dear 99 w=5;dear 99 d=9;dear 99 i=0;dear 99 k=0;dear 99 s=0", PLAIN, 0, 88888, 99)
            .cost(0, 11111, 0, 1), 10 * (5 * 99 + 6 * 99) - 99);
        sentence = "for AHEAD, GUESSING 5 less, if the other WORD comes BEHIND the last one that stands (that one being of THE LIST)";
        for (int kind = 0; kind <= 6; kind++) {
            boolean goes = kind == AHEAD || kind == GUESSING;
            for (int step = 4; step <= 6; step++) {
                PutBack x = with("step " + step, kind, 0, 12, 0, 88, 0);
                x.behind(0, 1, true);
                due("none stands", x.cost(0, 8, 0, 0), 2 * step);
                due("none stands", x.cost(0, 38, 1, 0), step);
                x.type(0, 12);
                due("KIND " + kind + ", STEP " + step, x.cost(0, 38, 1, 0), goes ? Math.max(0, step - 5) : step);
                due("not BEHIND", x.cost(0, 38, 0, 0), 2 * step);
                x.type(0, 55555);
                due("the last one is not of THE LIST", x.cost(0, 38, 1, 0), step);
                x.type(0, 12);
                x.send();
                due("none stands any more", x.cost(0, 38, 1, 0), step);
            }
        }
        PutBack x = with("step 9", AHEAD, 0, 12, 0, 88, 0);
        x.behind(0, 0, true);
        x.behind(1, 0, true);
        x.type(0, 18);
        due("made 12 of 18; BEHIND itself", x.cost(0, 18, 0, 0), 4);
        x.back();
        due("18 stands, which is not of THE LIST", x.cost(0, 18, 0, 0), 9);
        x.word(18, 0);
        due("now it is, with none BEHIND it", x.cost(0, 18, 0, 0), 9);
        x.behind(2, 0, true);
        due("now one is", x.cost(0, 18, 0, 0), 4);
        x.behind(2, 0, false);
        due("now none is", x.cost(0, 18, 0, 0), 9);
        x = with("step 0;dear 7 t=2", GUESSING, 0, 12, 0);
        x.behind(0, 0, true);
        x.type(0, 12);
        due("0 at least of all together: 7 - 5", x.cost(0, 12, 0, 0), 2);
    }

    private static void costOfRows() {
        sentence = "for TOLD its ROW at TYPED modulo 4 more";
        PutBack x = with("step 1", TOLD, 0, 8, 0);
        for (int kind = 0; kind <= 2; kind++) {
            x.mender(kind, 0);
        }
        x.mender(TOLD, 0);
        int[] row = {9, 0, 5, 1};
        for (int k = 0; k < 4; k++) {
            x.row(0, k, row[k]);
        }
        for (int typed = 0; typed <= 9; typed++) {
            due("TYPED " + typed, x.cost(0, 1, 0, 0), 1 + row[typed % 4]);
            due("another TOLD one", x.cost(4, 1, 0, 0), 1);
            for (int m = 1; m <= 3; m++) {
                due("another KIND", x.cost(m, 1, 0, 0), 1);
            }
            x.type(1, 8);
        }
        int[][] frees = {{18, 1}, {19, 0}, {20, 0}};
        for (int[] f : frees) {
            x = with("free " + f[0] + " t=1", TOLD, 0, 8, 0);
            x.row(0, 0, 9);
            due("0 at least of all together: 10 and 9 less " + f[0], x.cost(0, 1, 0, 0), f[1]);
        }
        sentence = "PRICE: 10 times COST, less WEIGHT";
        x = with(PLAIN, 0, 8, 99, 7, 0);
        due("least", x.cost(0, 8, 0, 1), -99);
        due("of no WEIGHT", x.cost(0, 7, 1, 1), 0);
        due("COST 10", x.cost(0, 7, 0, 1), 1);
        due("COST 50", x.cost(0, 11111, 1, 1), 500);
    }

    // ---- what is made

    private static void madeBelowLimit() {
        sentence = "the WORD of THE LIST with the least PRICE, if that is below 10 times LIMIT; else the WORD typed itself";
        int[][] cases = {{0, 0, 0, 0}, {0, 0, 1, 1}, {10, 10, 0, 0}, {10, 10, 1, 1}, {10, 11, 0, 1}, {10, 9, 10, 0}, {10, 9, 11, 1},
            {10, 1, 90, 0}, {10, 1, 91, 1}, {99, 99, 0, 0}, {99, 99, 1, 1}, {99, 98, 10, 0}, {99, 98, 11, 1}, {10, 0, 99, 0}, {9, 0, 90, 0}, {9, 0, 91, 1}};
        for (int[] c : cases) {
            PutBack x = with("step " + c[0] + ";limit " + c[1], PLAIN, 0, 8, c[2]);
            due("STEP " + c[0] + ", LIMIT " + c[1] + ", WEIGHT " + c[2], x.makes(0, 1), c[3] == 1 ? 8 : 1);
            due("so it is typed", x.type(0, 1), c[3] == 1 ? 8 : 1);
        }
        for (int tens = 0; tens <= 2; tens++) {
            PutBack x = with(TOLD, 0, 8, 0);
            x.row(0, 0, tens);
            due("LIMIT 12 without a TELEPHONE: COST " + (10 + tens), x.makes(0, 1), tens < 2 ? 8 : 1);
        }
        due("of an empty LIST", with(PLAIN, 0).makes(0, 1), 1);
        due("far away", with(PLAIN, 0, 88888, 0).makes(0, 1), 1);
        sentence = "of several the first";
        PutBack x = with("limit 20", PLAIN, 0, 12, 5, 13, 5, 14, 5);
        due("three alike", x.makes(0, 1), 12);
        x.weigh(1, 6);
        due("the second is of less PRICE", x.makes(0, 1), 13);
        x.weigh(2, 6);
        due("the second and the third", x.makes(0, 1), 13);
        x.weigh(2, 7);
        due("the third", x.makes(0, 1), 14);
    }

    private static void madeOfLeft() {
        sentence = "MAKES: SHY, TOLD: that WORD, if it is among the LEFT";
        for (int kind = 0; kind <= 6; kind++) {
            boolean minds = kind == SHY || kind == TOLD;
            PutBack x = with("step 1;limit 99", kind, 0, 8, 50, 7, 0);
            due("not yet LEFT", x.type(0, 1), 8);
            due("typed, not yet taken BACK", x.makes(0, 1), 8);
            due("back()", x.back(), 1);
            due("KIND " + kind + ": LEFT", x.makes(0, 1), minds ? 1 : 8);
            due("another WORD", x.makes(0, 2), 8);
            due("typed again", x.type(0, 1), minds ? 1 : 8);
            x.type(0, 7);
            x.back();
            due("LEFT, and of THE LIST", x.makes(0, 7), minds ? 7 : 8);
            due("its COST is as ever", x.cost(0, 1, 0, 0), 1);
        }
    }

    private static void typedIsLearnt() {
        sentence = "if it is of THE LIST, and the MENDER LEARNING, its WEIGHT is v more (99 at most); TYPED is 1 more";
        for (int kind = 0; kind <= 6; kind++) {
            PutBack x = with("step 1;limit 99", kind, 9, 8, 50, 7, 0);
            due("made", x.type(0, 1), 8);
            due("KIND " + kind, x.listed(0, 1), kind == LEARNING ? 59 : 50);
            due("the other one", x.listed(1, 1), 0);
            due("TYPED", x.told(0), 1);
        }
        int[][] cases = {{9, 89, 98}, {9, 90, 99}, {9, 91, 99}, {9, 99, 99}, {0, 98, 98}, {0, 99, 99}, {1, 98, 99}, {1, 99, 99}, {5, 0, 5}};
        for (int[] c : cases) {
            PutBack x = with("step 1;limit 99", LEARNING, c[0], 8, c[1]);
            x.type(0, 1);
            due("v " + c[0] + ", WEIGHT " + c[1], x.listed(0, 1), c[2]);
        }
        PutBack x = with("step 0", LEARNING, 5, 8, 1, 7, 0);
        due("8 is made of 7, both of THE LIST", x.type(0, 7), 8);
        due("what is made is learnt", x.listed(0, 1), 6);
        due("what is typed is not", x.listed(1, 1), 0);
        x = with("limit 9", LEARNING, 5, 8, 0);
        due("not of THE LIST", x.type(0, 1), 1);
        due("nothing is learnt", x.listed(0, 1), 0);
        due("TYPED", x.told(0), 1);
        due("of THE LIST", x.type(0, 8), 8);
        due("learnt", x.listed(0, 1), 5);
        due("taken BACK", x.back(), 8);
        due("what is learnt stays", x.listed(0, 1), 5);
        due("TYPED stays", x.told(0), 2);
        x.makes(0, 8);
        due("not learnt by asking", x.listed(0, 1), 5);
    }

    // ---- stays, touches, never

    /** With COST 0 the first of THE LIST, with 99 none: what is made hangs on how many LETTERS are typed. */
    private static PutBack onlyOf(String test, int... words) {
        PutBack x = new PutBack();
        x.mender(PLAIN, 0);
        for (int word : words) {
            x.word(word, 0);
        }
        due("telephone()", read(x, "step 0;limit 99;dear 99 i=0&!(" + test + ")"), 0);
        return x;
    }

    private static void staying() {
        sentence = "STAYS: which WORDS of THE LIST, as bits, it MAKES of themselves";
        due("of an empty LIST", with(PLAIN, 0).stays(0), 0);
        PutBack x = with(PLAIN, 0, 1, 0, 12, 0, 123, 0, 1234, 0, 12341, 0, 8, 0, 88, 0, 888, 0);
        due("all eight", x.stays(0), 255);
        read(x, "step 0");
        due("the first alone", x.stays(0), 1);
        x.weigh(7, 1);
        due("the last alone", x.stays(0), 128);
        read(x, "step 0;limit 0;dear 50 t>0");
        due("none is below 0, so all stay as typed", x.stays(0), 255);
    }

    private static void touching() {
        sentence = "TOUCHES: of all WORDS of 1 to 3 LETTERS, and itself, of which the MENDER MAKES it";
        int[] least = {0, 1, 11, 111};
        for (int n = 1; n <= 3; n++) {
            PutBack x = onlyOf("t=" + n, 88888, 7);
            due("of " + n + " LETTERS", x.touches(0, 88888, 0), n + 1);
            due("of several with as few the least number", x.touches(0, 88888, 1), least[n]);
            due("not taken BACK", x.touches(0, 88888, 2), 0);
        }
        PutBack x = onlyOf("t=4", 88888, 7);
        due("of 4 LETTERS: none", x.touches(0, 88888, 0), 7);
        due("typed", x.touches(0, 88888, 1), 88888);
        due("taken BACK", x.touches(0, 88888, 2), 1);
        x = onlyOf("t=5", 88888, 7);
        due("itself", x.touches(0, 88888, 0), 6);
        due("itself is typed", x.touches(0, 88888, 1), 88888);
        due("not taken BACK", x.touches(0, 88888, 2), 0);
        due("itself, not of THE LIST, is made otherwise", x.touches(0, 77777, 0), 7);
        due("typed", x.touches(0, 77777, 1), 77777);
        due("taken BACK", x.touches(0, 77777, 2), 1);
        x = onlyOf("t>2", 8888, 7);
        due("3 LETTERS are fewer than itself", x.touches(0, 8888, 0), 4);
        due("of 3 LETTERS", x.touches(0, 8888, 1), 111);
        x = with("dear 1 i=0", PLAIN, 0, 88888, 99, 2, 99);
        due("of 888 alone", x.touches(0, 88888, 1), 888);
        due("of three LETTERS", x.touches(0, 88888, 0), 4);
        due("of 1, the least", x.touches(0, 2, 1), 1);
        sentence = "TOUCHES: or its LETTERS and 2 (typed, then taken BACK; only if that is fewer)";
        x = onlyOf("t=3", 8, 7);
        due("1 and 2 are fewer than 3 and 1", x.touches(0, 8, 0), 3);
        due("itself", x.touches(0, 8, 1), 8);
        due("taken BACK", x.touches(0, 8, 2), 1);
        x = onlyOf("t=2", 8, 7);
        due("1 and 2 are as many as 2 and 1", x.touches(0, 8, 0), 3);
        due("of 2 LETTERS", x.touches(0, 8, 1), 11);
        due("not taken BACK", x.touches(0, 8, 2), 0);
        x = onlyOf("t=3", 88, 7);
        due("2 and 2 are as many as 3 and 1", x.touches(0, 88, 0), 4);
        due("of 3 LETTERS", x.touches(0, 88, 1), 111);
        due("not taken BACK", x.touches(0, 88, 2), 0);
        x = onlyOf("t=4", 888, 7);
        due("3 and 2", x.touches(0, 888, 0), 5);
        due("taken BACK", x.touches(0, 888, 2), 1);
        sentence = "TOUCHES: of THE LIST or not";
        x = with(PLAIN, 0);
        for (int word : new int[] {1, 88, 888, 1111, 88888}) {
            due("of an empty LIST " + word, x.touches(0, word, 0), Integer.toString(word).length() + 1);
            due("itself", x.touches(0, word, 1), word);
            due("not taken BACK", x.touches(0, word, 2), 0);
        }
        due("what 3", x.touches(0, 1, 3), -1);
        due("what -1", x.touches(0, 1, -1), -1);
    }

    private static void nevers() {
        sentence = "NEVER: which of THE LIST it MAKES of no WORD of 1 to 3 LETTERS, nor of themselves";
        for (int n = 1; n <= 3; n++) {
            due("of " + n + " LETTERS", onlyOf("t=" + n, 88888, 7).never(0) & 1, 0);
        }
        due("of 4 LETTERS alone", onlyOf("t=4", 88888, 7).never(0), 1);
        due("of itself", onlyOf("t=5", 88888, 7).never(0), 0);
        due("of an empty LIST", with(PLAIN, 0).never(0), 0);
        PutBack x = with("step 0", PLAIN, 0, 1, 1, 2, 0, 3, 0, 4, 0, 5, 0, 6, 0, 7, 0, 8, 0);
        due("all but the first", x.never(0), 254);
        x.weigh(7, 2);
        due("all but the last", x.never(0), 127);
        sentence = "ROOM: how many WORDS of 1 to 3 LETTERS it MAKES one of THE LIST of";
        int[] rooms = {0, 8, 64, 512, 0, 0};
        for (int n = 1; n <= 5; n++) {
            x = with("step 0;dear 99 !t=" + n, PLAIN, 0, 88888, 0);
            due("of " + n + " LETTERS", x.room(0), rooms[n]);
        }
        due("of all", with("step 0", PLAIN, 0, 88888, 0).room(0), 584);
        due("of an empty LIST", with(PLAIN, 0).room(0), 0);
        due("typed itself, being of THE LIST", with("limit 0", PLAIN, 0, 8, 0, 88, 0, 888, 0, 8888, 0).room(0), 3);
        sentence = "SAVED: how many LETTERS fewer than their LETTERS and 1 each (those that cannot be had in fewer: 0)";
        int[] saved = {0, 4, 3, 2, 0, 0};
        for (int n = 1; n <= 5; n++) {
            due("five LETTERS by " + n, onlyOf("t=" + n, 88888, 7).saved(0), saved[n]);
        }
        due("three LETTERS by 3", onlyOf("t=3", 888, 7).saved(0), 0);
        due("three LETTERS by 2", onlyOf("t=2", 888, 7).saved(0), 1);
        due("two by 3, which are more", onlyOf("t=3", 88, 7).saved(0), 0);
        due("what must be taken BACK saves nothing less", onlyOf("t=1", 88888, 7777, 666).saved(0), 4 + 2);
        due("of an empty LIST", with(PLAIN, 0).saved(0), 0);
    }

    // ---- rounds, stands

    private static void rounds() {
        sentence = "ROUND: behind how many times it has a WORD that was there before (1 ..); how many WORDS go round";
        PutBack x = with("limit 99;dear 99 t=1&!w=2|t=2&!w=3|t=3&!w=4|t=4&!w=1", PLAIN, 0,
            1, 0, 13, 0, 132, 0, 3328, 0, 8, 0, 86, 0, 867, 0, 6671, 0);
        int[] ring = {1, 13, 132, 3328, 8, 86, 867, 6671};
        for (int k = 0; k < 8; k++) {
            due("makes(0, " + ring[k] + ")", x.makes(0, ring[k]), ring[(k + 1) % 8]);
            due("eight times", x.round(0, ring[k], 0), 8);
            due("eight go round", x.round(0, ring[k], 1), 8);
        }
        due("one ahead of the ring", x.round(0, 33328, 0), 9);
        due("eight go round", x.round(0, 33328, 1), 8);
        due("itself at once", with(PLAIN, 0).round(0, 88888, 0), 1);
        due("one goes round", with(PLAIN, 0).round(0, 88888, 1), 1);
        x = with("limit 99", PLAIN, 0, 8, 0);
        due("one ahead of itself", x.round(0, 1, 0), 2);
        due("one goes round", x.round(0, 1, 1), 1);
        due("what 2", x.round(0, 1, 2), -1);
        due("what -1", x.round(0, 1, -1), -1);
    }

    private static void standing() {
        sentence = "STANDS: the fewest times (1 .. 30) that it must be typed, till what stands is that WORD (-5: by none)";
        PutBack x = with("dear 20 d>2", LEARNING, 1, 3, 3);
        due("28 times", x.stands(0, 2), 28);
        x.weigh(0, 2);
        due("29 times", x.stands(0, 2), 29);
        x.weigh(0, 1);
        due("30 times", x.stands(0, 2), 30);
        x.weigh(0, 0);
        due("31 times are too many", x.stands(0, 2), -5);
        x.weigh(0, 30);
        due("at once", x.stands(0, 2), 1);
        x = with("limit 99", PLAIN, 0, 8, 0);
        due("never", x.stands(0, 1), -5);
        x = with("dear 20 s=7", PLAIN, 0, 8, 0);
        for (int typed = 0; typed <= 9; typed++) {
            due("from TYPED " + typed + " on", x.stands(0, 1), 1 + Math.floorMod(7 - typed, 10));
            x.type(0, 8);
        }
        due("a WORD of THE LIST at once", x.stands(0, 8), 1);
        due("one that is too far at once", x.stands(0, 88888), 1);
        sentence = "STANDS: as it goes, THE TEXT of any size";
        x = with("dear 20 s>0", PLAIN, 0, 8, 0);
        for (int n = 0; n < 20; n++) {
            x.type(0, 8);
        }
        due("THE TEXT is full", x.type(0, 8), -4);
        due("the second time", x.stands(0, 1), 2);
        x = with("step 2", AHEAD, 0, 1, 0, 88, 5);
        x.behind(1, 0, true);
        x.word(2, 2);
        due("88 stands at first: 2 for 1 is 20 - 5", x.makes(0, 2), 2);
        x = with("step 2;dear 5 i=0", AHEAD, 0, 1, 0, 2, 0);
        x.behind(1, 0, true);
        due("2 stands first, then 1 comes BEHIND it", x.stands(0, 1), 2);
        x.type(0, 2);
        due("2 stands already", x.stands(0, 1), 1);
        x.type(0, 77777);
        due("the last that stands is not of THE LIST", x.stands(0, 1), 2);
    }

    // ---- guesses, weights

    private static void guessing() {
        sentence = "GUESSES: the three WORDS of THE LIST with most WEIGHT (of several the first) that begin so, or are that";
        PutBack x = with(PLAIN, 0, 1, 5, 12, 5, 123, 5, 1234, 5, 12341, 5, 2, 99, 21, 99, 13, 6);
        int[][] due = {{1, 7, 0, 1}, {12, 1, 2, 3}, {123, 2, 3, 4}, {1234, 3, 4, -5}, {12341, 4, -5, -5}, {12342, -5, -5, -5},
            {2, 5, 6, -5}, {21, 6, -5, -5}, {212, -5, -5, -5}, {13, 7, -5, -5}, {3, -5, -5, -5}, {88888, -5, -5, -5}};
        for (int[] d : due) {
            for (int k = 0; k <= 2; k++) {
                due("guess(" + d[0] + ", " + k + ")", x.guess(d[0], k), d[k + 1]);
            }
            due("k 3", x.guess(d[0], 3), -1);
            due("k -1", x.guess(d[0], -1), -1);
        }
        sentence = "LETTER: the fewest of its first LETTERS by which it is among these three (-5: never)";
        int[] letters = {1, 1, 2, 2, 3, 1, 1, 1};
        for (int i = 0; i < 8; i++) {
            due("letter(" + i + ")", x.letter(i), letters[i]);
        }
        due("letter(8)", x.letter(8), -1);
        x.weigh(0, 4);
        due("the fourth by 1: never", x.letter(0), -5);
        x.weigh(1, 6);
        x.weigh(2, 6);
        due("three are ahead of it", x.letter(0), -5);
        x.weigh(0, 6);
        due("of several the first", x.letter(0), 1);
        due("the fifth of five LETTERS", with(PLAIN, 0, 12345, 0, 12341, 1, 12342, 1, 12343, 1).letter(0), 5);
        sentence = "WEIGHT: the least WEIGHT (0 .. 99), in place of its own, by which the MENDER MAKES that WORD of itself (-5: by none)";
        int[][] cases = {{0, 0, 1}, {50, 50, 51}, {98, 98, 99}, {99, 99, -5}};
        for (int[] c : cases) {
            x = with("step 0", PLAIN, 0, 12, c[0], 13, c[0]);
            due("the first beside " + c[0], x.enough(0, 0), c[1]);
            due("the second beside " + c[0], x.enough(0, 1), c[2]);
            due("its own stays", x.listed(1, 1), c[0]);
        }
        due("0 is enough", with(PLAIN, 0, 12, 50, 13, 50).enough(0, 0), 0);
        due("as a WEIGHT goes, so d", with("dear 99 i=0&!d=9;limit 99;step 0", PLAIN, 0, 12, 0, 13, 0).enough(0, 0), 90);
    }

    // ---- slips, chains, what was meant

    private static void fractions() {
        sentence = "SLIPS, WRONG: a fraction in lowest terms";
        PutBack x = with("step 0", PLAIN, 0, 2, 0);
        due("all of three", x.slips(0, 2, 0), 1);
        due("1 below the line", x.slips(0, 2, 1), 1);
        due("none of three", x.slips(0, 3, 0), 0);
        due("1 below the line", x.slips(0, 3, 1), 1);
        due("part 2", x.slips(0, 2, 2), PutBack.NO);
        due("part -1", x.slips(0, 2, -1), PutBack.NO);
        for (int word : new int[] {1, 4, 5, 8, 2, 12, 21, 48, 1111, 2222, 123, 678, 1458, 45454, 26372, 12345, 56781, 88888, 77777}) {
            String letters = Integer.toString(word);
            int ways = 0;
            for (int k = 0; k < letters.length(); k++) {
                ways += NEAR_ONES[letters.charAt(k) - '0'].length();
            }
            for (int k = 0; k < letters.length(); k++) {
                for (char slip : NEAR_ONES[letters.charAt(k) - '0'].toCharArray()) {
                    PutBack y = with(PLAIN, 0, word, 0);
                    due("all slips of " + word, y.slips(0, word, 0), 1);
                    due("all slips of " + word, y.slips(0, word, 1), 1);
                    y.word(Integer.parseInt(letters.substring(0, k) + slip + letters.substring(k + 1)), 0);
                    due("all slips of " + word + " but one", y.slips(0, word, 0), ways - 1);
                    due("all slips of " + word, y.slips(0, word, 1), ways);
                }
            }
        }
        x = with(PLAIN, 0, 22, 0, 21, 0, 23, 0, 26, 0);
        due("three of six are mended", x.slips(0, 22, 0), 1);
        due("a half", x.slips(0, 22, 1), 2);
        x.word(12, 0);
        due("two of six", x.slips(0, 22, 1), 3);
        x.word(32, 0);
        due("one of six", x.slips(0, 22, 1), 6);
        x = with("step 0;limit 99;dear 50 t=1&i=0|t=2&i=1", PLAIN, 0, 1, 0, 22, 0);
        due("each one is made of the other: all are wrong", x.wrong(0, 0), 1);
        due("1 below the line", x.wrong(0, 1), 1);
        x = with(PLAIN, 0, 1, 0, 22, 0);
        due("none is wrong", x.wrong(0, 0), 0);
        due("1 below the line", x.wrong(0, 1), 1);
        due("part 2", x.wrong(0, 2), PutBack.NO);
        due("THE LIST is empty", with(PLAIN, 0).wrong(0, 0), PutBack.NO);
        due("none of one", with(PLAIN, 0, 1, 0).wrong(0, 0), 0);
        due("none of one", with(PLAIN, 0, 1, 0).wrong(0, 1), 1);
        x = with("step 0", PLAIN, 0, 1, 0, 2, 0, 3, 0, 4, 0, 5, 0, 6, 0, 7, 0, 8, 0);
        due("seven of eight", x.wrong(0, 0), 7);
        due("seven of eight", x.wrong(0, 1), 8);
    }

    /** Two WORDS that change places in each round, till one WEIGHT has grown to 10: then both become that one. */
    private static PutBack changing(int weight) {
        return with("step 1;dear 5 t=1&i=0&d=0|t=2&i=1&d=0", LEARNING, 1, 1, weight, 22, weight);
    }

    private static void chains() {
        sentence = "CHAIN for n rounds (1 .. 10): behind how many rounds (0 .. n less 1) the next round makes nothing otherwise (-5: none does)";
        for (int n = 1; n <= 10; n++) {
            for (int weight = 0; weight <= 10; weight++) {
                PutBack x = changing(weight);
                int settles = 10 - weight;
                due("WEIGHT " + weight + ", rounds " + n, x.chain(0, n, 1), settles <= n - 1 ? settles : -5);
                int first = Math.min(n, settles) % 2 == 0 ? 1 : 22;
                boolean isOne = settles > 0 && n >= settles;
                due("what the first has become", x.chain(0, n, 10), first);
                due("what the second has become", x.chain(0, n, 11), isOne ? first : 23 - first);
                due("how many unlike", x.chain(0, n, 0), isOne ? 1 : 2);
            }
        }
        PutBack x = changing(0);
        due("no rounds", x.chain(0, 0, 0), -2);
        due("eleven rounds", x.chain(0, 11, 0), -2);
        due("-1 rounds", x.chain(0, -1, 1), -2);
        for (int what : new int[] {-1, 2, 9, 12}) {
            due("what " + what, x.chain(0, 1, what), -1);
        }
        x = with(PLAIN, 0);
        due("of an empty LIST none is left", x.chain(0, 10, 0), 0);
        due("and none of it is made otherwise", x.chain(0, 10, 1), 0);
        due("nor has become anything", x.chain(0, 10, 10), -1);
        x = with("step 0", PLAIN, 0, 1, 0, 2, 0, 3, 0, 4, 0, 5, 0, 6, 0, 7, 0, 8, 9);
        due("all eight alike", x.chain(0, 1, 0), 1);
        due("the eighth has become", x.chain(0, 1, 17), 8);
        due("what 18", x.chain(0, 1, 18), -1);
        due("behind one round", x.chain(0, 2, 1), 1);
        due("not yet", x.chain(0, 1, 1), -5);
        x = with("step 1;dear 9 i=0&s>3", PLAIN, 0, 1, 0, 2, 0);
        due("the first two rounds make nothing otherwise, the third does", x.chain(0, 10, 1), 0);
        due("what the first has become", x.chain(0, 3, 10), 2);
        due("what the first had become", x.chain(0, 2, 10), 1);
        x = with("step 1;dear 9 i=0&s=0;dear 9 i=1&s=6", PLAIN, 0, 1, 0, 2, 0);
        due("only the second round makes nothing otherwise for the first time", x.chain(0, 10, 1), 1);
        due("the first is 2 in three rounds", x.chain(0, 3, 10), 2);
        due("and 1 in the fourth", x.chain(0, 4, 10), 1);
        sentence = "CHAIN: what stands is as in a TEXT of its own, empty at first, of any size; WEIGHT as it is learnt, TYPED as it goes";
        x = with("step 1;dear 9 i=0&s=3", PLAIN, 0, 1, 0, 2, 0);
        for (int typed = 0; typed <= 3; typed++) {
            due("from TYPED " + typed + " on", x.chain(0, 1, 10), typed == 3 ? 2 : 1);
            due("from TYPED " + typed + " on, two rounds", x.chain(0, 2, 10), typed == 1 || typed == 3 ? 2 : 1);
            x.type(0, 2);
        }
        x = with("step 0;dear 5 t=1", AHEAD, 0, 1, 0, 2, 0);
        x.behind(0, 1, true);
        x.type(0, 1);
        due("1 stands: 2 comes BEHIND it", x.makes(0, 1), 2);
        due("no WORD stands in its own TEXT, not even the first of THE LIST", x.chain(0, 1, 10), 1);
        due("then 1 stands there", x.chain(0, 1, 11), 2);
        due("and 2 at the second round's beginning", x.chain(0, 2, 10), 1);
        x = with("step 2", AHEAD, 0, 1, 0, 2, 0, 88888, 0);
        x.behind(2, 1, true);
        x.behind(1, 0, true);
        x.weigh(1, 16);
        x.type(0, 88888);
        due("of a TEXT with 88888: 2 for 1", x.makes(0, 1), 2);
        due("of an empty one: 1", x.chain(0, 1, 10), 1);
        due("2 behind 1", x.chain(0, 1, 11), 2);
        due("the second round begins with 88888", x.chain(0, 2, 10), 2);
        for (int n = 0; n < 19; n++) {
            x.type(0, 88888);
        }
        due("THE TEXT is full", x.type(0, 1), -4);
        due("of any size", x.chain(0, 10, 12), 88888);
        due("of an empty one: 1", x.chain(0, 1, 10), 1);
    }

    private static void meaning() {
        sentence = "MEANT: which of THE LIST could have been meant: typed without a slip, or with one (of one LETTER to a NEAR one)";
        PutBack x = with("step 99;limit 1", PLAIN, 0, 11, 0, 12, 0, 22, 0, 56, 0, 15, 0, 88, 0, 1, 0, 2, 0);
        due("11: itself, and one slip of 12, of 15", x.meant(0, 11), 1 + 2 + 16);
        due("12: itself, and one slip of 11, of 22", x.meant(0, 12), 1 + 2 + 4);
        due("25: one slip of 15, none of 22", x.meant(0, 25), 16);
        due("78: one slip of 88", x.meant(0, 78), 32);
        due("77: two slips of 88", x.meant(0, 77), 0);
        due("21: one slip of 11, of 22", x.meant(0, 21), 5);
        due("16: of 12, 56, 15", x.meant(0, 16), 2 + 8 + 16);
        due("8: of none", x.meant(0, 8), 0);
        due("6: of 2, the last one", x.meant(0, 6), 128);
        due("an empty LIST", with(PLAIN, 0).meant(0, 1), 0);
        sentence = "LIKELIEST: for which WEIGHT and 1, times how many of these ways make it, is most (of several the first; -5: none)";
        due("of none", x.likeliest(0, 8), -5);
        due("of one of no WEIGHT", x.likeliest(0, 6), 7);
        due("three alike", x.likeliest(0, 16), 1);
        x.weigh(4, 1);
        due("the heavier", x.likeliest(0, 16), 4);
        due("an empty LIST", with(PLAIN, 0).likeliest(0, 1), -5);
        x = with("step 0", PLAIN, 0, 1, 2, 22, 0);
        due("3 ways of WEIGHT 2 and 1, against 7 of 1", x.likeliest(0, 1), 0);
        x.weigh(0, 1);
        due("3 ways of 2, against 7 of 1", x.likeliest(0, 1), 1);
        x.weigh(0, 4);
        x.weigh(1, 1);
        due("3 ways of 5, against 7 of 2: the one without a slip counts", x.likeliest(0, 1), 0);
        due("both could be meant", x.meant(0, 1), 3);
        sentence = "WHO: which MENDERS, as bits, MAKE the second of the first";
        x = with(NEAR, 0, 8, 59, 7, 0);
        for (int n = 1; n < 5; n++) {
            x.mender(n == 4 ? NEAR : PLAIN, 0);
        }
        due("no MENDER", new PutBack().who(1, 1), 0);
        due("the plain ones", x.who(3, 8), 14);
        due("the first and the last", x.who(3, 7), 17);
        sentence = "TWINS: the two that are the fewest changes apart (of several the first; -5: there are fewer than two)";
        x = new PutBack();
        due("none", x.twins(), -5);
        x.word(88888, 0);
        due("one", x.twins(), -5);
        x.word(1, 0);
        due("two", x.twins(), 1);
        x.word(222, 0);
        due("0 and 1, 0 and 2 are five apart, 1 and 2 three", x.twins(), 12);
        int[] more = {3333, 44, 555, 6666, 666};
        for (int word : more) {
            x.word(word, 0);
        }
        due("the last two", x.twins(), 67);
        x.behind(0, 1, true);
        read(x, "step 99;dear 99 i=7;free 99 i=3");
        due("plain FAR is no COST", x.twins(), 67);
        read(x, "step 0");
        due("all as far apart", x.twins(), 1);
    }

    // ---- as things are now

    private interface Ask {
        long of(PutBack x, int mender, int word);
    }

    private interface Change {
        void of(PutBack x);
    }

    private static final Ask[] ASKS = {
        (x, m, w) -> x.makes(m, w), (x, m, w) -> x.cost(m, w, 0, 0), (x, m, w) -> x.cost(m, w, 1, 1), (x, m, w) -> x.stays(m),
        (x, m, w) -> x.touches(m, w, 1), (x, m, w) -> x.never(m), (x, m, w) -> x.round(m, w, 0), (x, m, w) -> x.stands(m, w),
        (x, m, w) -> x.guess(1, 0), (x, m, w) -> x.letter(m), (x, m, w) -> x.enough(m, 1), (x, m, w) -> x.slips(m, w, 0),
        (x, m, w) -> x.slips(m, w, 1), (x, m, w) -> x.wrong(m, 0), (x, m, w) -> x.chain(m, 2, 10), (x, m, w) -> x.chain(m, 9, 1),
        (x, m, w) -> x.meant(m, w), (x, m, w) -> x.likeliest(m, w), (x, m, w) -> x.who(13, w), (x, m, w) -> x.twins(),
        (x, m, w) -> x.room(m), (x, m, w) -> x.saved(m), (x, m, w) -> x.looked()};

    private static final Change[] CHANGES = {
        x -> { }, x -> x.weigh(1, 99), x -> x.weigh(0, 99), x -> x.weigh(2, 60), x -> x.type(0, 11), x -> x.type(1, 55555),
        x -> x.type(1, 13), x -> x.back(), x -> x.send(), x -> x.behind(1, 0, true), x -> x.behind(0, 1, false), x -> x.row(4, 1, 0),
        x -> read(x, "step 9;limit 11"), x -> read(x, "step 0"), x -> read(x, "dear 9 s=1;step 2"), x -> x.word(11, 30), x -> x.undo()};

    private static PutBack toBeAsked() {
        PutBack x = new PutBack();
        int[] words = {12, 30, 13, 40, 1234, 9};
        for (int k = 0; k < words.length; k += 2) {
            x.word(words[k], words[k + 1]);
        }
        int[] kinds = {PLAIN, LEARNING, GUESSING, SHY, TOLD};
        for (int kind : kinds) {
            x.mender(kind, 9);
        }
        x.behind(0, 1, true);
        x.book(0, 11, 12);
        x.book(1, 14, 13);
        x.book(4, 13, 12);
        read(x, "step 5;limit 14;dear 3 s=0&d=3");
        x.image();
        x.row(4, 1, 9);
        x.weigh(2, 80);
        x.type(0, 12);
        return x;
    }

    private static void askedAsThingsAreNow() {
        sentence = "All that follows is asked, as things are now";
        for (int c = 0; c < CHANGES.length; c++) {
            for (int a = 0; a < ASKS.length; a++) {
                for (int m = 0; m < 5; m++) {
                    for (int word : new int[] {12, 11}) {
                        PutBack often = toBeAsked();
                        ASKS[a].of(often, m, word);
                        CHANGES[c].of(often);
                        PutBack once = toBeAsked();
                        CHANGES[c].of(once);
                        once.makes(0, 1);
                        once.who(1, 1);
                        due("question " + a + " of " + m + ", " + word + " behind change " + c, ASKS[a].of(often, m, word), ASKS[a].of(once, m, word));
                    }
                }
            }
        }
    }

    // ---- acts, the image

    private static void actsWrap() {
        sentence = "ACTS of a MENDER with x (ints, wrapping)";
        int[] xs = {0, 1, -1, MOST, LEAST, MOST - 1, LEAST + 1, MOST / 3 + 1, LEAST / 3 - 1, 1 << 30, -(1 << 30) - 1};
        for (int i = 0; i < 5; i++) {
            int[] kinds = i < 4 ? new int[] {PLAIN, NEAR, AHEAD, SHY, LEARNING, GUESSING, TOLD} : new int[] {PLAIN, LEARNING, GUESSING, TOLD};
            for (int kind : kinds) {
                PutBack y = new PutBack();
                for (int n = 0; n < i; n++) {
                    y.mender(PLAIN, 1);
                }
                y.mender(kind, 7);
                for (int x : xs) {
                    int mends = kind == NEAR || kind == LEARNING ? x * 3 + i : kind == GUESSING ? x + i ^ i : x + i;
                    int leaves = kind == AHEAD || kind == GUESSING ? -(mends - 7) : kind == TOLD ? mends : mends - 7;
                    int tells = kind == SHY || kind == TOLD ? leaves * 2 ^ 7
                        : kind == LEARNING ? ((x - 1) * 3 + i - 7) * 2 + 6 + i : leaves * 2;
                    due("KIND " + kind + ", number " + i + " mends " + x, y.act(i, 0, x), mends);
                    due("KIND " + kind + ", number " + i + " leaves " + x, y.act(i, 1, x), leaves);
                    due("KIND " + kind + ", number " + i + " tells " + x, y.act(i, 2, x), tells);
                }
            }
        }
        sentence = "0, and no TRACE then: no such MENDER, act";
        PutBack x = with(LEARNING, 1);
        int[][] refused = {{1, 0}, {-1, 0}, {0, 3}, {0, -1}, {5, 2}};
        for (int[] r : refused) {
            due("LEARNING tells", x.act(0, 2, 0), ((0 - 1) * 3 - 1) * 2 + 6);
            due("bodies that ran", x.count(6), 7);
            due("the last one", x.trace(6), 1);
            due("refused", x.act(r[0], r[1], 5), 0);
            due("no bodies", x.count(6), 0);
            due("no TRACE", x.trace(0), -1);
        }
    }

    private static void traces() {
        sentence = "THE TRACE: the numbers of the bodies that ran in the latest act(), as they began";
        int[][][] all = {
            {{1}, {2, 1}, {3, 2, 1}},
            {{11, 1}, {2, 11, 1}, {3, 2, 11, 1}},
            {{1}, {21, 2, 1}, {3, 21, 2, 1}},
            {{1}, {2, 1}, {31, 3, 2, 1}},
            {{11, 1}, {2, 11, 1}, {41, 3, 2, 11, 1, 11, 1}},
            {{51, 1}, {21, 2, 51, 1}, {3, 21, 2, 51, 1}},
            {{1}, {61, 2, 1}, {31, 3, 61, 2, 1}}};
        for (int kind = 0; kind <= 6; kind++) {
            PutBack x = with(kind, 3);
            due("none ran yet", x.count(6), 0);
            due("trace(0)", x.trace(0), -1);
            for (int act = 2; act >= 0; act--) {
                x.act(0, act, 5);
                int[] ran = all[kind][act];
                for (int k = 0; k < ran.length; k++) {
                    due("KIND " + kind + ", act " + act + ": trace(" + k + ")", x.trace(k), ran[k]);
                }
                for (int k = ran.length; k <= 21; k++) {
                    due("KIND " + kind + ", act " + act + ": trace(" + k + ")", x.trace(k), -1);
                }
                due("trace(-1)", x.trace(-1), -1);
                due("how many ran", x.count(6), ran.length);
            }
            sentence = "A MENDER taken for a KIND k (0 .. 6), or one under that: its v";
            String[] under = {"0", "01", "02", "03", "014", "025", "036"};
            for (int k = 0; k <= 6; k++) {
                due("KIND " + kind + " as " + k, x.as(0, k), under[kind].indexOf('0' + k) >= 0 ? 3 : -6);
            }
            due("k 7", x.as(0, 7), -1);
            due("k -1", x.as(0, -1), -1);
            due("no MENDER", x.as(1, 0), -1);
            sentence = "THE TRACE: the numbers of the bodies that ran in the latest act(), as they began";
        }
    }

    private static void images() {
        sentence = "undo(): STATE: there is none; THE IMAGE: all that there is (but THE IMAGE and THE TRACE)";
        PutBack x = new PutBack();
        due("none yet", x.undo(), -3);
        due("of a new object", x.image(), 0);
        x.mender(LEARNING, 5);
        x.word(12, 4);
        x.type(0, 11);
        x.type(0, 11);
        x.back();
        x.book(0, 1, 1);
        read(x, "limit 5;step 6");
        x.feed('l');
        x.act(0, 0, 0);
        due("undo()", x.undo(), 0);
        for (int what = 0; what <= 5; what++) {
            due("count(" + what + ")", x.count(what), 0);
        }
        due("THE TRACE stays", x.count(6), 2);
        due("THE TRACE stays", x.trace(0), 11);
        int[] told = {0, 12, 10, 0};
        for (int what = 0; what <= 3; what++) {
            due("told(" + what + ")", x.told(what), told[what]);
        }
        due("undo() again", x.undo(), 0);
        due("a MENDER", x.mender(TOLD, 1), 0);
        due("its ROW is 0 at first", x.row(0, 0, 7), 0);
        due("a WORD", x.word(13, 9), 0);
        due("with none BEHIND it", x.listed(0, 2), 0);
        due("image() again", x.image(), 1);
        x.weigh(0, 1);
        x.row(0, 0, 1);
        x.mender(0, 0);
        x.act(0, 1, 0);
        due("undo()", x.undo(), 1);
        due("WEIGHT", x.listed(0, 1), 9);
        due("ROW", x.row(0, 0, 0), 7);
        due("THE TRACE is of the latest act()", x.trace(0), 61);
        due("the ROW again", x.undo(), 1);
        due("ROW", x.row(0, 0, 0), 7);
        x = with("limit 9", PLAIN, 0, 12, 0);
        x.mender(NEAR, 0);
        x.book(1, 11, 12);
        x.book(0, 11, 11);
        x.book(0, 12, 88);
        x.image();
        int[][] rows = {{0, 11, 12}, {1, 11, 11}, {1, 13, 12}, {0, 13, 12}};
        for (int[] r : rows) {
            x.book(-1, 0, 0);
            x.book(r[0], r[1], r[2]);
            x.book(r[0], r[1], r[2]);
            due("another BOOK", x.looked(), x.makes(r[0], r[1]) == r[2] ? -5 : 0);
            due("undo()", x.undo(), 2);
            due("rows of BOOK", x.count(4), 3);
            due("the first two are so again", x.looked(), 2);
        }
        x.feed('s');
        x.image();
        x.telephone();
        feed(x, "limit 3");
        due("undo()", x.undo(), 2);
        due("THE TAPE's s", x.feed('t'), 2);
        due("THE TAPE is gone on with", read(x, "ep 3"), 1);
        sentence = "count(what)";
        due("count(7)", x.count(7), -1);
        due("count(-1)", x.count(-1), -1);
    }

    public static void main(String[] args) {
        wordsAreOneToFiveLetters();
        nearIsBesideOrAbove();
        listHoldsEight();
        mendersAreFive();
        textHoldsTwenty();
        leftAreSix();
        bookHoldsEight();
        tapeHoldsHundred();
        faultIsTheFirstByte();
        clausesAreTen();
        fiveMayBeOpen();
        testsOfLetters();
        telephonesAreFive();
        farOfSteps();
        costIsNoLess();
        costOfRows();
        madeBelowLimit();
        madeOfLeft();
        typedIsLearnt();
        staying();
        touching();
        nevers();
        rounds();
        standing();
        guessing();
        fractions();
        chains();
        meaning();
        askedAsThingsAreNow();
        actsWrap();
        traces();
        images();
        System.out.println(wrong == 0 ? "all " + checks + " edges hold" : wrong + " of " + checks + " edges do not hold");
        if (wrong != 0) {
            System.exit(1);
        }
    }
}
