/** Terms, 2 WORDS: FAULTS, a test for each sentence. */
public final class TermsFaultsTest {
    public static void main(String[] args) {
        placesAndOrder();
        bytes();
        tokens();
        ranges();
        many();
        Check.end();
    }

    private static void placesAndOrder() {
        Check.sentence("FAULTS, at a TOKEN's first byte", TermsFaultsTest::atFirstByte);
        Check.sentence("how many bytes there are, if it ends too early", TermsFaultsTest::endsTooEarly);
        Check.sentence("how many bytes there are: blanks, too", TermsFaultsTest::endsBehindBlanks);
        Check.sentence("how many bytes there are: 160", TermsFaultsTest::endsFull);
        Check.sentence("the first one", TermsFaultsTest::firstOne);
        Check.sentence("the first one: before an end that comes too early", TermsFaultsTest::firstBeforeEnd);
        Check.sentence("of one TOKEN the least: 1 before 2", TermsFaultsTest::oneBeforeTwo);
        Check.sentence("of one TOKEN the least: 1 before 3", TermsFaultsTest::oneBeforeThree);
        Check.sentence("of one TOKEN the least: 1 before 4", TermsFaultsTest::oneBeforeFour);
        Check.sentence("of one TOKEN the least: 2 before 4", TermsFaultsTest::twoBeforeFour);
    }

    private static void bytes() {
        Check.sentence("1 a byte that begins no TOKEN", TermsFaultsTest::noToken);
        Check.sentence("1 a byte that begins no TOKEN: 0, and above 127", TermsFaultsTest::noTokenEnds);
        Check.sentence("1 (a - without a digit behind, too)", TermsFaultsTest::minusAlone);
        Check.sentence("1 (a - without a digit behind): at the end", TermsFaultsTest::minusAtEnd);
        Check.sentence("1 a NUMBER of more digits", TermsFaultsTest::moreDigits);
        Check.sentence("1 a NUMBER of more digits: within [ ]", TermsFaultsTest::moreDigitsInRange);
    }

    private static void tokens() {
        Check.sentence("2 a TOKEN that can't come: at the beginning", TermsFaultsTest::cantBegin);
        Check.sentence("2 a TOKEN that can't come: * + ? behind one of these", TermsFaultsTest::repeatTwice);
        Check.sentence("2 a TOKEN that can't come: * + ? behind | or (", TermsFaultsTest::repeatOfNothing);
        Check.sentence("2 a TOKEN that can't come: * + ? behind a text with a FAULT", TermsFaultsTest::repeatOfFormer);
        Check.sentence("2 a TOKEN that can't come: ) without (", TermsFaultsTest::closeWithout);
        Check.sentence("2 a TOKEN that can't come: , and ] outside of [ ]", TermsFaultsTest::outsideOfRange);
        Check.sentence("2 a TOKEN that can't come: behind [", TermsFaultsTest::behindOpen);
        Check.sentence("2 a TOKEN that can't come: behind the first NUMBER", TermsFaultsTest::behindFirst);
        Check.sentence("2 a TOKEN that can't come: behind the ,", TermsFaultsTest::behindComma);
        Check.sentence("2 a TOKEN that can't come: behind the second NUMBER", TermsFaultsTest::behindSecond);
        Check.sentence("2 .. if it ends too early: within ( )", TermsFaultsTest::endInGroup);
        Check.sentence("2 .. if it ends too early: within [ ]", TermsFaultsTest::endInRange);
    }

    private static void ranges() {
        Check.sentence("3 the second NUMBER of [ ] is below the first", TermsFaultsTest::below);
        Check.sentence("3 .. is below the first: not like it, not above", TermsFaultsTest::notBelow);
        Check.sentence("3 .. is below the first: below 0", TermsFaultsTest::belowNought);
        Check.sentence("3 at the second NUMBER, whatever comes behind", TermsFaultsTest::belowAtNumber);
    }

    private static void many() {
        Check.sentence("4 the 51st atom that is no ( )", TermsFaultsTest::atom51);
        Check.sentence("4 the 51st atom: the 50th is none", TermsFaultsTest::atom50);
        Check.sentence("4 the 51st atom that is no ( ): those do not count", TermsFaultsTest::groupsNotCounted);
        Check.sentence("4 the 51st atom: a [ ] is one", TermsFaultsTest::rangeCounted);
        Check.sentence("4 the 51st atom: a [ ], at its first byte", TermsFaultsTest::range51);
        Check.sentence("4 the 51st atom: within ( ), and behind |", TermsFaultsTest::atom51Anywhere);
        Check.sentence("4 a ( within 8 others", TermsFaultsTest::ninthOpen);
        Check.sentence("4 a ( within 8 others: within 7 it is none", TermsFaultsTest::eighthOpen);
        Check.sentence("4 a ( within 8 others: behind others it is none", TermsFaultsTest::openBehind);
        Check.sentence("4 a ( within 8 others: those that are closed are not", TermsFaultsTest::openAgain);
    }

    private static void atFirstByte() {
        Words.dueFault("a", 0, 1);
        Words.dueFault("  a", 2, 1);
        Words.dueFault("1 -1234", 2, 1);
        Words.dueFault("[10,  12]-5  ,", 13, 2);
        Words.dueFault("[10,  -12,", 6, 3);
    }

    private static void endsTooEarly() {
        Words.dueFault("(", 1, 2);
        Words.dueFault("(1", 2, 2);
        Words.dueFault("[1,2", 4, 2);
        Words.dueFault("[12,234", 7, 2);
    }

    private static void endsBehindBlanks() {
        Words.dueFault("(1  ", 4, 2);
        Words.dueFault("[  ", 3, 2);
    }

    private static void endsFull() {
        Words.dueFault("(" + " ".repeat(159), 160, 2);
        Words.dueFault(" ".repeat(159) + "[", 160, 2);
        Words.dueFault("()".repeat(79) + "|(", 160, 2);
        Words.dueFault("()".repeat(79) + "|[", 160, 2);
    }

    private static void firstOne() {
        Words.dueFault("1** a", 2, 2);
        Words.dueFault("a **", 0, 1);
        Words.dueFault("[2,1] 1234", 3, 3);
        Words.dueFault(".".repeat(51) + "a", 50, 4);
    }

    private static void firstBeforeEnd() {
        Words.dueFault("(1 a", 3, 1);
        Words.dueFault("(1**", 3, 2);
        Words.dueFault("[2,1", 3, 3);
    }

    private static void oneBeforeTwo() {
        Words.dueFault("[a", 1, 1);
        Words.dueFault("[1 2345]", 3, 1);
        Words.dueFault("[-", 1, 1);
    }

    private static void oneBeforeThree() {
        Words.dueFault("[5,-1000]", 3, 1);
    }

    private static void oneBeforeFour() {
        Words.dueFault(".".repeat(50) + "1234", 50, 1);
        Words.dueFault("((((((((a", 8, 1);
    }

    private static void twoBeforeFour() {
        Words.dueFault("(((((((( [(", 10, 2);
        Words.dueFault(".".repeat(49) + "[.", 50, 2);
    }

    private static void noToken() {
        Words.dueFault("a", 0, 1);
        Words.dueFault("R", 0, 1);
        Words.dueFault("{1}", 0, 1);
        Words.dueFault("1 2 #", 4, 1);
    }

    private static void noTokenEnds() {
        Words.dueFault("\0", 0, 1);
        Words.dueFault("1\0", 1, 1);
        Words.dueFault("\u0080", 0, 1);
        Words.dueFault("\u00ff", 0, 1);
    }

    private static void minusAlone() {
        Words.dueFault("--1", 0, 1);
        Words.dueFault("-r", 0, 1);
        Words.dueFault("- 1", 0, 1);
        Words.dueFault("1-.", 1, 1);
    }

    private static void minusAtEnd() {
        Words.dueFault("-", 0, 1);
        Words.dueFault("1-", 1, 1);
        Words.dueFault(" ".repeat(159) + "-", 159, 1);
        // A digit that an earlier text left on the tape's place is not behind the minus.
        TuneSearch x = new TuneSearch();
        Runs.word(x, "11");
        Check.due("word() of '-' behind '11'", Runs.word(x, "-"), -10);
        Check.due("fault() of '-' behind '11'", x.fault(), 1);
    }

    private static void moreDigits() {
        Words.dueFault("1234", 0, 1);
        Words.dueFault("-1234", 0, 1);
        Words.dueFault("0001", 0, 1);
        Words.dueFault("12345 6", 0, 1);
        Words.dueFault("1 2 3456", 4, 1);
    }

    private static void moreDigitsInRange() {
        Words.dueFault("[1234,2]", 1, 1);
        Words.dueFault("[1,2345]", 3, 1);
    }

    private static void cantBegin() {
        String[] tokens = {"*", "+", "?", ")", "]", ","};
        for (String token : tokens) {
            Words.dueFault(token, 0, 2);
        }
    }

    private static void repeatTwice() {
        Words.dueFault("1**", 2, 2);
        Words.dueFault("1*+", 2, 2);
        Words.dueFault("1? ?", 3, 2);
        Words.dueFault("()**", 3, 2);
        Words.dueFault("(1*)*?", 5, 2);
    }

    private static void repeatOfNothing() {
        Words.dueFault("1|*", 2, 2);
        Words.dueFault("1|+", 2, 2);
        Words.dueFault("(*)", 1, 2);
        Words.dueFault("1(?)", 2, 2);
    }

    private static void repeatOfFormer() {
        TuneSearch x = new TuneSearch();
        Runs.word(x, "1a");
        Check.due("word() of '*' behind '1a'", Runs.word(x, "*"), -10);
        Check.due("its fault", x.fault(), 2);
        Runs.word(x, "(1a");
        Check.due("word() of '(*' behind '(1a'", Runs.word(x, "(*"), -11);
        Check.due("its fault", x.fault(), 2);
        Runs.word(x, "[1,a");
        Check.due("word() of '2]' behind '[1,a'", Runs.word(x, "2]"), -11);
        Check.due("its fault", x.fault(), 2);
    }

    private static void closeWithout() {
        Words.dueFault("1)", 1, 2);
        Words.dueFault("(1))", 3, 2);
        Words.dueFault("1|)", 2, 2);
    }

    private static void outsideOfRange() {
        Words.dueFault("1,2", 1, 2);
        Words.dueFault("1]", 1, 2);
        Words.dueFault("[1,2]]", 5, 2);
        Words.dueFault("[1,2],", 5, 2);
        Words.dueFault("(,", 1, 2);
        Words.dueFault("(]", 1, 2);
    }

    private static void behindOpen() {
        String[] tokens = {"|", "*", "+", "?", ".", "r", "[", "]", ",", "(", ")"};
        for (String token : tokens) {
            Words.dueFault("1[" + token, 2, 2);
        }
    }

    private static void behindFirst() {
        String[] tokens = {"|", "*", "+", "?", ".", "r", "[", "]", "(", ")", " 2", "-2"};
        for (String token : tokens) {
            Words.dueFault("[1" + token, token.startsWith(" ") ? 3 : 2, 2);
        }
    }

    private static void behindComma() {
        String[] tokens = {"|", "*", "+", "?", ".", "r", "[", "]", ",", "(", ")"};
        for (String token : tokens) {
            Words.dueFault("[1," + token, 3, 2);
        }
    }

    private static void behindSecond() {
        String[] tokens = {"|", "*", "+", "?", ".", "r", "[", ",", "(", ")", " 2", "-2"};
        for (String token : tokens) {
            Words.dueFault("[1,2" + token, token.startsWith(" ") ? 5 : 4, 2);
        }
    }

    private static void endInGroup() {
        String[] texts = {"(", "(1", "((1)", "(1|", "(1*", "()("};
        for (String text : texts) {
            Words.dueFault(text, text.length(), 2);
        }
    }

    private static void endInRange() {
        String[] texts = {"[", "[1", "[1,", "[1,2", "(.[1,2"};
        for (String text : texts) {
            Words.dueFault(text, text.length(), 2);
        }
    }

    private static void below() {
        Words.dueFault("[2,1]", 3, 3);
        Words.dueFault("[ 2 , 1 ]", 6, 3);
        Words.dueFault("[999,-999]", 5, 3);
        Words.dueFault("[1,2][2,1]", 8, 3);
    }

    private static void notBelow() {
        Words.dueAtoms("[1,1]", 1);
        Words.dueAtoms("[1,2]", 1);
        Words.dueAtoms("[999,999]", 1);
        Words.dueAtoms("[-999,999]", 1);
    }

    private static void belowNought() {
        Words.dueFault("[0,-1]", 3, 3);
        Words.dueFault("[-1,-2]", 4, 3);
        Words.dueAtoms("[-2,-1]", 1);
        Words.dueAtoms("[-1,0]", 1);
        Words.dueAtoms("[-0,0]", 1);
        Words.dueAtoms("[0,-0]", 1);
    }

    private static void belowAtNumber() {
        Words.dueFault("[2,1", 3, 3);
        Words.dueFault("[2,1,", 3, 3);
        Words.dueFault("[2,1a", 3, 3);
    }

    private static void atom51() {
        Words.dueFault(".".repeat(51), 50, 4);
        Words.dueFault(".".repeat(50) + "r", 50, 4);
        Words.dueFault(".".repeat(50) + " 7", 51, 4);
        Words.dueFault(".".repeat(50) + "*-7", 51, 4);
    }

    private static void atom50() {
        Words.dueAtoms(".".repeat(50), 50);
        Words.dueAtoms(".".repeat(49) + "r", 50);
        Words.dueAtoms(".".repeat(49) + "7", 50);
        Words.dueAtoms(".".repeat(50) + "*|", 50);
    }

    private static void groupsNotCounted() {
        Words.dueAtoms("()".repeat(80), 0);
        Words.dueAtoms("(.)".repeat(50), 50);
        Words.dueAtoms(".".repeat(50) + "()()", 50);
    }

    private static void rangeCounted() {
        Words.dueAtoms(".".repeat(49) + "[1,2]", 50);
        Words.dueFault(".".repeat(49) + "[1,2]*|.", 56, 4);
    }

    private static void range51() {
        Words.dueFault(".".repeat(50) + "[1,2]", 50, 4);
        Words.dueFault(".".repeat(50) + "[2,1]", 50, 4);
        Words.dueFault(".".repeat(50) + "[", 50, 4);
    }

    private static void atom51Anywhere() {
        Words.dueFault(".".repeat(50) + "(.)", 51, 4);
        Words.dueFault(".".repeat(25) + "|" + ".".repeat(26), 51, 4);
        Words.dueFault("(" + ".".repeat(25) + ")*" + ".".repeat(26), 53, 4);
    }

    private static void ninthOpen() {
        Words.dueFault("(((((((((", 8, 4);
        Words.dueFault("((((((((.(", 9, 4);
        Words.dueFault("((((((((|()))))))))", 9, 4);
    }

    private static void eighthOpen() {
        Words.dueAtoms("((((((((.))))))))", 1);
        Words.dueAtoms("(((((((.(.))))))))", 2);
    }

    private static void openBehind() {
        Words.dueAtoms("()()()()()()()()()", 0);
        Words.dueAtoms("((((((((.))))))))((((((((r))))))))", 2);
    }

    private static void openAgain() {
        Words.dueAtoms("((((((((.)(.)(.))))))))", 3);
        Words.dueFault("((((((((.)))))))) (((((((( (", 27, 4);
        // A text with a fault leaves no ( open for the next one.
        TuneSearch x = new TuneSearch();
        Runs.word(x, "((((((((");
        Check.due("word() of '(.)' behind it", Runs.word(x, "(.)"), 1);
    }
}
