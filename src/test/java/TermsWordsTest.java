/** Terms, 2 WORDS: the text on the tape and what it stands for, a test for each sentence. */
public final class TermsWordsTest {
    private static final String MARKS = "|*+?.r[],()";

    public static void main(String[] args) {
        text();
        signsOfAtoms();
        rowsOfItems();
        Check.end();
    }

    private static void text() {
        Check.sentence("THE TAPE has at most 160 bytes: 160", TermsWordsTest::tape160);
        Check.sentence("THE TAPE has at most 160 bytes: 161", TermsWordsTest::tape161);
        Check.sentence("blanks (32) between TOKENS where one likes", TermsWordsTest::blanks);
        Check.sentence("blanks .. between TOKENS: not within one", TermsWordsTest::blankWithin);
        Check.sentence("blanks (32): no other byte is one", TermsWordsTest::otherBlanks);
        Check.sentence("blanks where one likes: nothing but blanks", TermsWordsTest::onlyBlanks);
        Check.sentence("alt = seq (| seq)*: one seq, or many", TermsWordsTest::altOfSeqs);
        Check.sentence("seq = item*: no item", TermsWordsTest::emptySeqs);
        Check.sentence("seq = item*: many items", TermsWordsTest::manyItems);
        Check.sentence("item = atom [* or + or ?]: none of these, or one", TermsWordsTest::oneRepeat);
        Check.sentence("item = atom [* or + or ?]: not two", TermsWordsTest::twoRepeats);
        Check.sentence("item = atom [* or + or ?]: not without an atom", TermsWordsTest::repeatOfNothing);
        Check.sentence("atom = NUMBER | . | r | [ , ] | ( )", TermsWordsTest::eachAtom);
        Check.sentence("atom = .. ( alt ): an empty one", TermsWordsTest::emptyGroup);
        Check.sentence("NUMBER = 1 to 3 digits: the least and the greatest", TermsWordsTest::digits);
        Check.sentence("NUMBER = 1 to 3 digits: 4", TermsWordsTest::fourDigits);
        Check.sentence("NUMBER .. digits: noughts in front are digits", TermsWordsTest::noughts);
        Check.sentence("- right in front", TermsWordsTest::minus);
        Check.sentence("- right in front: not with a blank between", TermsWordsTest::minusAndBlank);
        Check.sentence("TOKENS are NUMBERS, and all other bytes here: no more", TermsWordsTest::everyByte);
        Check.sentence("a NUMBER has all digits that stand there", TermsWordsTest::allDigits);
        Check.sentence("a NUMBER has all digits ..: a - ends it", TermsWordsTest::minusEnds);
    }

    private static void signsOfAtoms() {
        Check.sentence("NUMBER that SIGN", TermsWordsTest::number);
        Check.sentence("NUMBER that SIGN: one below 0", TermsWordsTest::numberBelow);
        Check.sentence("NUMBER that SIGN: -0 and noughts", TermsWordsTest::numberNought);
        Check.sentence("NUMBER that SIGN: none stands for R", TermsWordsTest::numberIsNoRest);
        Check.sentence(". any SIGN but R", TermsWordsTest::anySign);
        Check.sentence(". any SIGN: the least and the greatest there are", TermsWordsTest::anySignEnds);
        Check.sentence("r R", TermsWordsTest::rest);
        Check.sentence("[ ] from the first NUMBER", TermsWordsTest::rangeFrom);
        Check.sentence("[ ] to the second one", TermsWordsTest::rangeTo);
        Check.sentence("[ ] a SIGN from the first to the second: one", TermsWordsTest::rangeOfOne);
        Check.sentence("[ ] a SIGN from .. to ..: below 0", TermsWordsTest::rangeBelow);
        Check.sentence("[ ] a SIGN from .. to ..: the widest, not R", TermsWordsTest::rangeIsNoRest);
    }

    private static void rowsOfItems() {
        Check.sentence("a seq one row of each item, one behind the other", TermsWordsTest::seq);
        Check.sentence("a seq one row of each item: of none", TermsWordsTest::seqOfNone);
        Check.sentence("| one of both", TermsWordsTest::choice);
        Check.sentence("| one of both: one of them of no items", TermsWordsTest::choiceOfNone);
        Check.sentence("| one of both: both begin alike, or end alike", TermsWordsTest::choiceOfLike);
        Check.sentence("| one of both: not of the items beside it alone", TermsWordsTest::choiceOfSeqs);
        Check.sentence("* any number of rows of the atom", TermsWordsTest::star);
        Check.sentence("* .. none, too", TermsWordsTest::starNone);
        Check.sentence("* any number: 24", TermsWordsTest::starAll);
        Check.sentence("* .. of the atom: not of more", TermsWordsTest::starOfAtom);
        Check.sentence("* .. rows of the atom: each its own", TermsWordsTest::starOfGroup);
        Check.sentence("+ one", TermsWordsTest::plusOne);
        Check.sentence("+ or more", TermsWordsTest::plusMore);
        Check.sentence("+ one or more: not none", TermsWordsTest::plusNone);
        Check.sentence("+ one or more: of rows that may have no SIGN", TermsWordsTest::plusOfEmpty);
        Check.sentence("? one", TermsWordsTest::maybeOne);
        Check.sentence("? or none", TermsWordsTest::maybeNone);
        Check.sentence("? one, or none: not two", TermsWordsTest::maybeTwo);
        Check.sentence("* + ? of ( ) of no SIGN", TermsWordsTest::repeatsOfEmpty);
        Check.sentence("( alt ) one row of it: not none", TermsWordsTest::groupOnce);
        Check.sentence("( alt ) within ( alt )", TermsWordsTest::groupsWithin);
    }

    private static void tape160() {
        Words.dueAtoms(" ".repeat(159) + ".", 1);
        Words.dueAtoms(".*|".repeat(49) + ".*" + " ".repeat(11), 50);
    }

    private static void tape161() {
        TuneSearch x = new TuneSearch();
        Runs.typeText(x, " ".repeat(160));
        Check.due("a 161st byte", x.type('1', 1), TuneSearch.FULL);
        Check.due("word() of 160 blanks", x.word(), 0);
    }

    private static void blanks() {
        Words.dueAtoms("  1  * |  ( . r ) + [  -1  ,  2  ]  ? ", 4);
        Words.dueStandsFor(" 60   61 ", true, 60, 61);
        Words.dueStandsFor(" 60   * ", true, 60, 60);
    }

    private static void blankWithin() {
        Words.dueStandsFor("6 0", false, 60);
        Words.dueAtoms("6 0", 2);
    }

    private static void otherBlanks() {
        int[] bytes = {0, 9, 10, 13, 160, 255};
        for (int b : bytes) {
            Words.dueFault("1" + (char) b + "2", 1, 1);
        }
    }

    private static void onlyBlanks() {
        Words.dueAtoms("", 0);
        Words.dueAtoms(" ", 0);
        Words.dueAtoms("   ", 0);
    }

    private static void altOfSeqs() {
        Words.dueAtoms("1", 1);
        Words.dueAtoms("1|2", 2);
        Words.dueAtoms("1|2 3|4|5", 5);
    }

    private static void emptySeqs() {
        Words.dueAtoms("|", 0);
        Words.dueAtoms("||", 0);
        Words.dueAtoms("1|", 1);
        Words.dueAtoms("|1", 1);
        Words.dueAtoms("(|)", 0);
        Words.dueAtoms("|".repeat(160), 0);
    }

    private static void manyItems() {
        Words.dueAtoms("1 2", 2);
        Words.dueAtoms("1(2).r[3,4]5", 6);
        Words.dueAtoms("1*2+3?", 3);
    }

    private static void oneRepeat() {
        String[] atoms = {"1", "-1", ".", "r", "[1,2]", "(1)"};
        for (String atom : atoms) {
            Words.dueAtoms(atom, 1);
            Words.dueAtoms(atom + "*", 1);
            Words.dueAtoms(atom + "+", 1);
            Words.dueAtoms(atom + "?", 1);
        }
    }

    private static void twoRepeats() {
        String[] repeats = {"*", "+", "?"};
        for (String one : repeats) {
            for (String other : repeats) {
                Words.dueFault("1" + one + other, 2, 2);
                Words.dueFault("(1)" + one + other, 4, 2);
                Words.dueFault("1" + one + " " + other, 3, 2);
            }
        }
    }

    private static void repeatOfNothing() {
        String[] repeats = {"*", "+", "?"};
        for (String repeat : repeats) {
            Words.dueFault(repeat, 0, 2);
            Words.dueFault("1|" + repeat, 2, 2);
            Words.dueFault("1(" + repeat, 2, 2);
        }
    }

    private static void eachAtom() {
        String[] atoms = {"1", ".", "r", "[1,2]", "(1)"};
        for (String atom : atoms) {
            Words.dueAtoms(atom, 1);
        }
        Words.dueAtoms("1.r[1,2](1)", 5);
    }

    private static void emptyGroup() {
        Words.dueAtoms("()", 0);
        Words.dueAtoms("(())", 0);
        Words.dueAtoms("()".repeat(80), 0);
    }

    private static void digits() {
        Words.dueAtoms("0", 1);
        Words.dueAtoms("9", 1);
        Words.dueAtoms("10", 1);
        Words.dueAtoms("999", 1);
        Words.dueAtoms("-999", 1);
        Words.dueAtoms("[-999,999]", 1);
    }

    private static void fourDigits() {
        Words.dueFault("1000", 0, 1);
        Words.dueFault("-1000", 0, 1);
        Words.dueFault("12345", 0, 1);
        Words.dueFault("1".repeat(160), 0, 1);
    }

    private static void noughts() {
        Words.dueAtoms("000", 1);
        Words.dueFault("0000", 0, 1);
        Words.dueFault("0001", 0, 1);
        Words.dueStandsFor("060", true, 60);
    }

    private static void minus() {
        Words.dueAtoms("-1", 1);
        Words.dueAtoms("-12", 1);
        Words.dueAtoms("-123", 1);
        Words.dueFinds(Runs.withTune(62, 1, 60, 1), "-2", 1, "0:1");
    }

    private static void minusAndBlank() {
        Words.dueFault("- 1", 0, 1);
        Words.dueFault("1 - 1", 2, 1);
    }

    private static void everyByte() {
        for (int b = 0; b < 256; b++) {
            boolean begins = b == ' ' || b >= '0' && b <= '9' || MARKS.indexOf(b) >= 0;
            TuneSearch x = new TuneSearch();
            Runs.word(x, Character.toString((char) b));
            Check.due("whether byte " + b + " begins no token", x.fault() == 1 ? 1 : 0, begins ? 0 : 1);
        }
    }

    private static void allDigits() {
        Words.dueAtoms("123", 1);
        Words.dueAtoms("12 3", 2);
        Words.dueStandsFor("123", true, 123);
        Words.dueStandsFor("123", false, 12, 3);
        Words.dueFault("123456", 0, 1);
    }

    private static void minusEnds() {
        Words.dueAtoms("1-2", 2);
        Words.dueAtoms("123-456-789", 3);
        Words.dueFinds(Runs.withTune(60, 1, 61, 1, 59, 1), "1-2", 1, "0:2");
    }

    private static void number() {
        Words.dueStandsFor("60", true, 60);
        Words.dueStandsFor("60", false, 59);
        Words.dueStandsFor("60", false, 61);
        Words.dueStandsFor("6", false, 60);
    }

    private static void numberBelow() {
        TuneSearch x = Runs.withTune(60, 1, 58, 1, 60, 1, 59, 1);
        Words.dueFinds(x, "-2", 1, "0:1");
        Words.dueFinds(x, "2", 1, "1:1");
        Words.dueFinds(x, "-1", 1, "2:1");
    }

    private static void numberNought() {
        Words.dueStandsFor("-0", true, 0);
        Words.dueStandsFor("000", true, 0);
        Words.dueStandsFor("-00", true, 0);
        Words.dueStandsFor("007", true, 7);
        Words.dueStandsFor("0", false, 1);
    }

    private static void numberIsNoRest() {
        for (int n = -999; n <= 999; n++) {
            Words.dueStandsFor(Integer.toString(n), false, -1);
        }
    }

    private static void anySign() {
        Words.dueStandsFor(".", true, 60);
        Words.dueStandsFor(".", false, -1);
        Words.dueStandsFor(". .", true, 60, 61);
        Words.dueStandsFor(". .", false, 60, -1);
    }

    private static void anySignEnds() {
        Words.dueFinds(Runs.withTune(0, 1, 127, 1, 0, 1), ".", 0, "0:1 1:1 2:1");
        Words.dueFinds(Runs.withTune(0, 1, 127, 1, 0, 1), ".", 1, "0:1 1:1");
        Words.dueFinds(Runs.withTune(0, 1, 127, 64), ".", 3, "0:1 1:1");
    }

    private static void rest() {
        Words.dueStandsFor("r", true, -1);
        Words.dueStandsFor("r", false, 0);
        Words.dueStandsFor("r", false, 127);
        Words.dueFinds(Runs.withTune(60, 1, 59, 1), "r", 1, "");
    }

    private static void rangeFrom() {
        Words.dueStandsFor("[60,62]", true, 60);
        Words.dueStandsFor("[60,62]", true, 61);
        Words.dueStandsFor("[60,62]", false, 59);
    }

    private static void rangeTo() {
        Words.dueStandsFor("[60,62]", true, 62);
        Words.dueStandsFor("[60,62]", false, 63);
    }

    private static void rangeOfOne() {
        Words.dueStandsFor("[60,60]", true, 60);
        Words.dueStandsFor("[60,60]", false, 59);
        Words.dueStandsFor("[60,60]", false, 61);
    }

    private static void rangeBelow() {
        TuneSearch x = Runs.withTune(60, 1, 56, 1, 53, 1, 51, 1, 50, 1, 50, 1);
        Words.dueFinds(x, "[-3,-2]", 1, "1:1 2:1");
        Words.dueFinds(x, "[-1,0]", 1, "3:1 4:1");
    }

    private static void rangeIsNoRest() {
        Words.dueStandsFor("[-999,999]", false, -1);
        Words.dueStandsFor("[-1,-1]", false, -1);
        Words.dueStandsFor("[-999,999]", true, 0);
        Words.dueStandsFor("[-999,999]", true, 127);
    }

    private static void seq() {
        Words.dueStandsFor("60 61 62", true, 60, 61, 62);
        Words.dueStandsFor("60 61 62", false, 60, 62, 61);
        Words.dueStandsFor("60 61 62", false, 60, 61);
        Words.dueStandsFor("60 61", false, 60, 61, 62);
    }

    private static void seqOfNone() {
        String[] texts = {"", "()", "|", "(|)"};
        for (String text : texts) {
            Words.dueFinds(Runs.withTune(60, 1), text, 0, "");
        }
        Words.dueStandsFor("60 () 61", true, 60, 61);
    }

    private static void choice() {
        Words.dueStandsFor("60|61", true, 60);
        Words.dueStandsFor("60|61", true, 61);
        Words.dueStandsFor("60|61", false, 62);
        Words.dueStandsFor("60|61", false, 60, 61);
        Words.dueStandsFor("60|61|62", true, 62);
    }

    private static void choiceOfNone() {
        Words.dueStandsFor("(60|)61", true, 61);
        Words.dueStandsFor("(60|)61", true, 60, 61);
        Words.dueStandsFor("(|60)61", true, 61);
        Words.dueStandsFor("61(|60)", true, 61);
        Words.dueStandsFor("61(60|)", true, 61, 60);
        Words.dueStandsFor("|60", true, 60);
    }

    private static void choiceOfLike() {
        Words.dueStandsFor("60 61|60 62", true, 60, 61);
        Words.dueStandsFor("60 61|60 62", true, 60, 62);
        Words.dueStandsFor("60 61|60 62", false, 60, 61, 62);
        Words.dueStandsFor("(60 61|. 62)63", true, 60, 61, 63);
        Words.dueStandsFor("(60 61|. 62)63", true, 60, 62, 63);
        Words.dueStandsFor("60 61|62 61", true, 60, 61);
        Words.dueStandsFor("60 61|62 61", true, 62, 61);
        Words.dueStandsFor("60|60", true, 60);
    }

    private static void choiceOfSeqs() {
        Words.dueStandsFor("60 61|62 63", true, 60, 61);
        Words.dueStandsFor("60 61|62 63", true, 62, 63);
        Words.dueStandsFor("60 61|62 63", false, 60, 61, 63);
        Words.dueStandsFor("60 61|62 63", false, 60, 62, 63);
    }

    private static void star() {
        Words.dueStandsFor("60*", true, 60);
        Words.dueStandsFor("60*", true, 60, 60);
        Words.dueStandsFor("60*", true, 60, 60, 60);
        Words.dueStandsFor("60*", false, 60, 61, 60);
    }

    private static void starNone() {
        Words.dueStandsFor("60* 61", true, 61);
        Words.dueStandsFor("61 60*", true, 61);
        Words.dueStandsFor("61 60* 62", true, 61, 62);
        Words.dueFinds(Runs.withTune(61, 1), "60*", 0, "");
    }

    private static void starAll() {
        TuneSearch x = Runs.withTune();
        Runs.fill(x, 0, 24, 60, 1);
        Runs.word(x, "60*");
        Check.due("find(0)", x.find(0), 24);
        Check.due("the first one's size", x.found(0, 2), 24);
    }

    private static void starOfAtom() {
        Words.dueStandsFor("60 61*", true, 60, 61, 61);
        Words.dueStandsFor("60 61*", false, 60, 61, 60, 61);
    }

    private static void starOfGroup() {
        Words.dueStandsFor("(60|61 62)*", true, 60, 61, 62, 60);
        Words.dueStandsFor("(60|61 62)*", false, 61, 61);
        Words.dueStandsFor("(60 61)*", true, 60, 61, 60, 61);
        Words.dueStandsFor("(60 61)*", false, 60, 61, 60);
    }

    private static void plusOne() {
        Words.dueStandsFor("60+", true, 60);
        Words.dueStandsFor("60+ 61", true, 60, 61);
    }

    private static void plusMore() {
        Words.dueStandsFor("60+", true, 60, 60);
        Words.dueStandsFor("60+ 61", true, 60, 60, 60, 61);
        Words.dueStandsFor("(60 61)+", true, 60, 61, 60, 61);
    }

    private static void plusNone() {
        Words.dueStandsFor("60+ 61", false, 61);
        Words.dueStandsFor("61 60+", false, 61);
    }

    private static void plusOfEmpty() {
        Words.dueStandsFor("(60|)+ 61", true, 61);
        Words.dueStandsFor("(60*)+ 61", true, 61);
        Words.dueStandsFor("(60?)+ 61", true, 60, 60, 61);
    }

    private static void maybeOne() {
        Words.dueStandsFor("60?", true, 60);
        Words.dueStandsFor("60? 61", true, 60, 61);
    }

    private static void maybeNone() {
        Words.dueStandsFor("60? 61", true, 61);
        Words.dueStandsFor("61 60?", true, 61);
        Words.dueFinds(Runs.withTune(61, 1), "60?", 0, "");
    }

    private static void maybeTwo() {
        Words.dueStandsFor("60?", false, 60, 60);
        Words.dueStandsFor("60? 61", false, 60, 60, 61);
        Words.dueStandsFor("(60 61)?", false, 60, 61, 60, 61);
    }

    private static void repeatsOfEmpty() {
        String[] texts = {"()*", "()+", "()?", "(()*)+", "(()+)?", "(|)*"};
        for (String text : texts) {
            Words.dueFinds(Runs.withTune(60, 1), text, 0, "");
            Words.dueStandsFor("60 " + text + " 61", true, 60, 61);
        }
        Words.dueStandsFor("(()|60)* 61", true, 60, 60, 61);
        Words.dueStandsFor("((60*)* 61?)*", true, 60, 61, 60, 60);
    }

    private static void groupOnce() {
        Words.dueStandsFor("60(61)62", true, 60, 61, 62);
        Words.dueStandsFor("60(61)62", false, 60, 62);
        Words.dueStandsFor("60(61)62", false, 60, 61, 61, 62);
        Words.dueStandsFor("(60)61", false, 61);
        Words.dueStandsFor("60(61|62)", false, 60);
        Words.dueStandsFor("(60|61)+ 62", false, 62);
    }

    private static void groupsWithin() {
        Words.dueStandsFor("((60|(61))62)+", true, 61, 62, 60, 62);
        Words.dueStandsFor("((60|(61))62)+", false, 60, 61, 62);
        Words.dueStandsFor("((((((((60))))))))*", true, 60, 60);
    }
}
