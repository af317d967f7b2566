/** Promises 7 to 9: type, word, fault. */
public final class WordTest {
    private static final long BLANKS = 0x2020202020202020L;

    public static void main(String[] args) {
        typing();
        words();
        faults();
        Check.end();
    }

    private static void typing() {
        Check.sentence("7: The lowest n bytes of w", WordTest::lowestBytes);
        Check.sentence("7: the highest of these first", WordTest::highestFirst);
        Check.sentence("7: bytes of w: those above 127", WordTest::highBytes);
        Check.sentence("7: bytes of w: a w below 0", WordTest::negative);
        Check.sentence("7: come behind the tape", WordTest::behindTape);
        Check.sentence("7: how many bytes it has", WordTest::byteCount);
        Check.sentence("7: how many bytes it has: 160", WordTest::byteCount160);
        Check.sentence("7: n .. 1 .. 8: each of these", WordTest::eachCount);
        Check.sentence("7: BAD: n is below 1", WordTest::tooFew);
        Check.sentence("7: BAD: n is above 8", WordTest::tooMany);
        Check.sentence("7: FULL", WordTest::full);
        Check.sentence("7: FULL: not all of the n bytes have room", WordTest::fullForSome);
    }

    private static void words() {
        Check.sentence("8: The tape becomes the word", WordTest::becomesWord);
        Check.sentence("8: The tape becomes the word: an empty tape", WordTest::emptyTape);
        Check.sentence("8: The tape becomes the word: in place of the one before", WordTest::replacesWord);
        Check.sentence("8: The tape becomes the word: nothing of those before", WordTest::nothingOfBefore);
        Check.sentence("8: is empty then", WordTest::emptyThen);
        Check.sentence("8: is empty then in any case: with a FAULT", WordTest::emptyInAnyCase);
        Check.sentence("8: is empty then: it takes 160 bytes again", WordTest::roomAgain);
        Check.sentence("8: how many atoms it has that are no ( )", WordTest::atomCount);
        Check.sentence("8: how many atoms it has: none", WordTest::noAtoms);
        Check.sentence("8: how many atoms it has: 50", WordTest::fiftyAtoms);
        Check.sentence("8: -10 less the place of a FAULT: 0", WordTest::firstPlace);
        Check.sentence("8: -10 less the place of a FAULT", WordTest::laterPlace);
        Check.sentence("8: -10 less the place of a FAULT: 160", WordTest::lastPlace);
        Check.sentence("8: (the word stays)", WordTest::wordStays);
        Check.sentence("8: (the word stays): none, when there was none", WordTest::noWordStays);
        Check.sentence("8: (the word stays): of a FAULT at the very end", WordTest::wordStaysAtEnd);
    }

    private static void faults() {
        Check.sentence("9: The FAULT of the latest word()", WordTest::eachFault);
        Check.sentence("9: of the latest word(): not of one before", WordTest::latestFault);
        Check.sentence("9: of the latest word(): behind other calls", WordTest::faultStays);
        Check.sentence("9: 0 when it had none", WordTest::noFault);
        Check.sentence("9: and before one", WordTest::beforeOne);
    }

    private static void lowestBytes() {
        TuneSearch x = new TuneSearch();
        // The bytes above the lowest two would be a fault: ***.
        Check.due("type(.., 2)", x.type(0x2A2A2A2A2A2A3132L, 2), 2);
        Check.due("word()", x.word(), 1);
        TuneSearch y = new TuneSearch();
        y.type(0x2A2A2A2A2A2A2A31L, 1);
        Check.due("word() of one byte", y.word(), 1);
    }

    private static void highestFirst() {
        TuneSearch x = Runs.withTune(12, 1, 21, 1, 123, 1);
        x.type(0x3132L, 2);
        x.word();
        x.find(0);
        Check.due("'12'", Runs.found(x, 1), "0");
        x.type(0x20203132332020L, 7);
        x.word();
        x.find(0);
        Check.due("'  123  '", Runs.found(x, 1), "2");
        x.type(0x31323A3435363738L, 8);
        Check.due("'12:45678'", x.word(), -12);
    }

    private static void highBytes() {
        int[] bytes = {128, 129, 160, 177, 200, 254, 255};
        for (int b : bytes) {
            TuneSearch x = new TuneSearch();
            x.type(b, 1);
            Check.due("word() of byte " + b, x.word(), -10);
            Check.due("fault() of byte " + b, x.fault(), 1);
        }
    }

    private static void negative() {
        TuneSearch x = new TuneSearch();
        Check.due("type(0xFF..2E, 1)", x.type(0xFFFFFFFFFFFFFF2EL, 1), 1);
        Check.due("word()", x.word(), 1);
        x.type(0xB12E2E2E2E2E2E2EL, 8);
        Check.due("word() of eight bytes, the first above 127", x.word(), -10);
        x.type(-1L, 8);
        Check.due("word() of eight bytes 255", x.word(), -10);
    }

    private static void behindTape() {
        TuneSearch x = Runs.withTune(123, 1, 60, 1, 61, 1);
        x.type('1', 1);
        x.type(0x3233L, 2);
        x.type(0x203630L, 3);
        x.type(0x20363120L, 4);
        Check.due("word() of '123 60 61 '", x.word(), 3);
        Check.due("find(0)", x.find(0), 1);
        Check.due("its size", x.found(0, 2), 3);
    }

    private static void byteCount() {
        TuneSearch x = new TuneSearch();
        Check.due("type(.., 3)", x.type(BLANKS, 3), 3);
        Check.due("type(.., 1)", x.type(BLANKS, 1), 4);
        Check.due("type(.., 8)", x.type(BLANKS, 8), 12);
    }

    private static void byteCount160() {
        TuneSearch x = new TuneSearch();
        for (int n = 1; n <= 20; n++) {
            Check.due("type(.., 8)", x.type(BLANKS, 8), 8 * n);
        }
        TuneSearch y = withBytes(159);
        Check.due("the 160th byte", y.type('.', 1), 160);
        Check.due("word()", y.word(), 1);
    }

    private static void eachCount() {
        for (int n = 1; n <= 8; n++) {
            TuneSearch x = new TuneSearch();
            Check.due("type(.., " + n + ")", x.type(0x2E2E2E2E2E2E2E2EL, n), n);
            Check.due("word() of so many points", x.word(), n);
        }
    }

    private static void tooFew() {
        TuneSearch x = new TuneSearch();
        int[] bad = {0, -1, -8, Integer.MIN_VALUE};
        for (int n : bad) {
            Check.due("type(.., " + n + ")", x.type(BLANKS, n), TuneSearch.BAD);
        }
    }

    private static void tooMany() {
        TuneSearch x = new TuneSearch();
        int[] bad = {9, 10, 160, Integer.MAX_VALUE};
        for (int n : bad) {
            Check.due("type(.., " + n + ")", x.type(BLANKS, n), TuneSearch.BAD);
        }
    }

    /** A new object with so many blanks on the tape. */
    private static TuneSearch withBytes(int count) {
        TuneSearch x = new TuneSearch();
        Runs.typeText(x, " ".repeat(count));
        return x;
    }

    private static void full() {
        TuneSearch x = withBytes(160);
        for (int n = 1; n <= 8; n++) {
            Check.due("type(.., " + n + ")", x.type(BLANKS, n), TuneSearch.FULL);
        }
        Check.due("told(3)", x.told(3), 160);
    }

    private static void fullForSome() {
        TuneSearch x = withBytes(156);
        Check.due("8 bytes behind 156", x.type(BLANKS, 8), TuneSearch.FULL);
        Check.due("5 bytes behind 156", x.type(BLANKS, 5), TuneSearch.FULL);
        Check.due("told(3)", x.told(3), 156);
        Check.due("4 bytes behind 156", x.type(BLANKS, 4), 160);
    }

    private static void becomesWord() {
        TuneSearch x = Runs.withTune(60, 1, 62, 1, 60, 1);
        Words.dueFinds(x, "60", 0, "0:1 2:1");
    }

    private static void emptyTape() {
        TuneSearch x = Runs.withTune(60, 1);
        Runs.word(x, "60");
        Check.due("word() of an empty tape", x.word(), 0);
        Check.due("fault()", x.fault(), 0);
        Check.due("find(0) of the row of no signs", x.find(0), 0);
    }

    private static void replacesWord() {
        TuneSearch x = Runs.withTune(60, 1, 62, 1, -1, 1);
        Words.dueFinds(x, "60 .", 0, "0:2");
        Words.dueFinds(x, "62", 0, "1:1");
        Words.dueFinds(x, "r", 0, "2:1");
        Words.dueFinds(x, "60", 0, "0:1");
    }

    private static void nothingOfBefore() {
        TuneSearch x = Runs.withTune(60, 1, 62, 1, -1, 1);
        Words.dueFinds(x, "60 62+ r*", 0, "0:3");
        Words.dueFinds(x, "60 62+ r*", 0, "0:3");
        Words.dueFinds(x, "60|62|r", 0, "0:1 1:1 2:1");
        Words.dueFinds(x, "60 62+ r*", 0, "0:3");
        Runs.word(x, "60 62+ r*)");
        Words.dueFinds(x, "60|62|r", 0, "0:1 1:1 2:1");
    }

    private static void emptyThen() {
        TuneSearch x = new TuneSearch();
        Runs.word(x, "1 2");
        Check.due("told(3)", x.told(3), 0);
        Check.due("type('7', 1)", x.type('7', 1), 1);
        Check.due("word() of '7'", x.word(), 1);
    }

    private static void emptyInAnyCase() {
        String[] texts = {"a", "1*+", "[2,1]", ".".repeat(51), "1(", ")1 2 3"};
        for (String text : texts) {
            TuneSearch x = new TuneSearch();
            Runs.word(x, text);
            Check.due("told(3) behind '" + text + "'", x.told(3), 0);
            Check.due("type('7', 1) behind it", x.type('7', 1), 1);
            Check.due("word() of '7' behind it", x.word(), 1);
        }
    }

    private static void roomAgain() {
        TuneSearch x = withBytes(160);
        x.word();
        Runs.typeText(x, ".".repeat(159));
        Check.due("the 160th byte", x.type('.', 1), 160);
        Check.due("the 161st byte", x.type('.', 1), TuneSearch.FULL);
    }

    private static void atomCount() {
        Words.dueAtoms("1 2", 2);
        Words.dueAtoms("(1|2)*(3|(4 5)+)?", 5);
        Words.dueAtoms(".r[1,2]", 3);
        Words.dueAtoms("((1))", 1);
    }

    private static void noAtoms() {
        String[] texts = {"", " ", "|", "()", "(()|())*"};
        for (String text : texts) {
            Words.dueAtoms(text, 0);
        }
    }

    private static void fiftyAtoms() {
        Words.dueAtoms(".".repeat(50), 50);
        Words.dueAtoms("1 ".repeat(50), 50);
        Words.dueAtoms("(r)".repeat(50), 50);
    }

    private static void firstPlace() {
        TuneSearch x = new TuneSearch();
        Check.due("word() of 'a'", Runs.word(x, "a"), -10);
        Check.due("word() of '*'", Runs.word(x, "*"), -10);
    }

    private static void laterPlace() {
        TuneSearch x = new TuneSearch();
        Check.due("word() of '1a'", Runs.word(x, "1a"), -11);
        Check.due("word() of '(1'", Runs.word(x, "(1"), -12);
        Check.due("word() of '[2,1]'", Runs.word(x, "[2,1]"), -13);
        Check.due("word() of 51 points", Runs.word(x, ".".repeat(51)), -60);
    }

    private static void lastPlace() {
        TuneSearch x = new TuneSearch();
        Check.due("a bad last byte of 160", Runs.word(x, " ".repeat(159) + "a"), -169);
        Check.due("an end that comes too early", Runs.word(x, " ".repeat(159) + "("), -170);
    }

    private static void wordStays() {
        String[] texts = {"a", "62*+", "[2,1]", ".".repeat(51), "62 62 ((", "62)62"};
        for (String text : texts) {
            TuneSearch x = Runs.withTune(60, 1, 62, 1, 60, 1);
            Runs.word(x, "60 62?");
            Runs.word(x, text);
            x.find(0);
            Check.due("finds behind '" + text + "'", Runs.found(x, 1) + "/" + Runs.found(x, 2), "0 2/2 1");
        }
    }

    private static void noWordStays() {
        TuneSearch x = Runs.withTune(60, 1);
        Check.due("word() of '60('", Runs.word(x, "60("), -13);
        Check.due("find(0)", x.find(0), 0);
    }

    private static void wordStaysAtEnd() {
        TuneSearch x = Runs.withTune(60, 1, 62, 1);
        Runs.word(x, "62");
        Check.due("word() of '(60 .'", Runs.word(x, "(60 ."), -15);
        x.find(0);
        Check.due("finds", Runs.found(x, 1), "1");
        Check.due("word() of '(60 .' again", Runs.word(x, "(60 ."), -15);
        x.find(0);
        Check.due("finds", Runs.found(x, 1), "1");
    }

    private static void eachFault() {
        String[] texts = {"a", ",", "[2,1]", "((((((((("};
        TuneSearch x = new TuneSearch();
        for (int k = 0; k < texts.length; k++) {
            Runs.word(x, texts[k]);
            Check.due("fault() of '" + texts[k] + "'", x.fault(), k + 1);
        }
    }

    private static void latestFault() {
        TuneSearch x = new TuneSearch();
        Runs.word(x, "((((((((((");
        Runs.word(x, "a");
        Check.due("fault() of 'a'", x.fault(), 1);
        Runs.word(x, "(");
        Check.due("fault() of '('", x.fault(), 2);
    }

    private static void faultStays() {
        TuneSearch x = Runs.withTune(60, 1);
        Runs.word(x, "[2,1]");
        x.type('1', 1);
        x.find(0);
        x.find(7);
        x.near(0, 0);
        x.families(0);
        x.forget();
        Check.due("fault()", x.fault(), 3);
        Check.due("fault() again", x.fault(), 3);
    }

    private static void noFault() {
        TuneSearch x = new TuneSearch();
        Runs.word(x, "a");
        Runs.word(x, "1");
        Check.due("fault() of '1'", x.fault(), 0);
        Runs.word(x, "a");
        x.word();
        Check.due("fault() of an empty tape", x.fault(), 0);
    }

    private static void beforeOne() {
        TuneSearch x = new TuneSearch();
        Check.due("fault() at first", x.fault(), 0);
        Runs.typeText(x, "a*(");
        Check.due("fault() before word()", x.fault(), 0);
    }
}
