/** Promises 7 to 9: type, word, fault. */
public final class WordTest {
    public static void main(String[] args) {
        typing();
        wordsWithoutFault();
        faultsOfBytes();
        faultsOfOrder();
        faultsOfRanges();
        faultsOfMany();
        firstFaultAndLeast();
        wordStaysBehindFault();
        Check.end();
    }

    private static void typing() {
        TuneSearch x = new TuneSearch();
        int[] bad = {0, 9, -1, Integer.MIN_VALUE, Integer.MAX_VALUE};
        for (int n : bad) {
            Check.due("type(0, " + n + ")", x.type(0L, n), TuneSearch.BAD);
        }
        for (int n = 1; n <= 20; n++) {
            Check.due("type(.., 8)", x.type(0x2020202020202020L, 8), 8 * n);
        }
        Check.due("type behind 160 bytes", x.type(32L, 1), TuneSearch.FULL);
        Check.due("type(.., 0) behind 160 bytes", x.type(32L, 0), TuneSearch.BAD);
        Check.due("told(3)", x.told(3), 160);
        Check.due("word() of blanks", x.word(), 0);
        Check.due("told(3) then", x.told(3), 0);
        for (int n = 1; n <= 39; n++) {
            x.type(0x20202020L, 4);
        }
        Check.due("5 bytes behind 156", x.type(0x2020202020L, 5), TuneSearch.FULL);
        Check.due("told(3) behind them", x.told(3), 156);
        Check.due("4 bytes behind 156", x.type(0x20202020L, 4), 160);
        x.word();
        // The bytes above the lowest n are not taken: only "12" comes behind the tape.
        x.type(0x2A2A2A2A2A2A3132L, 2);
        Check.due("word() of the lowest two bytes", x.word(), 1);
        Runs.tune(x, 12, 1);
        Check.due("12 is found, the highest byte first", x.find(0), 1);
        x.type(0xFF31323320202020L, 8);
        Check.due("a byte above 127", x.word(), -10);
        Check.due("its fault", x.fault(), 1);
        x.type(0x3120202020202020L, 8);
        Check.due("eight bytes", x.word(), 1);
    }

    private static void dueAtoms(String text, int atoms) {
        TuneSearch x = new TuneSearch();
        Check.due("word() of '" + text + "'", Runs.word(x, text), atoms);
        Check.due("fault() of '" + text + "'", x.fault(), 0);
        Check.due("told(3) behind '" + text + "'", x.told(3), 0);
    }

    private static void dueFault(String text, int place, int fault) {
        TuneSearch x = new TuneSearch();
        Check.due("word() of '" + text + "'", Runs.word(x, text), -10 - place);
        Check.due("fault() of '" + text + "'", x.fault(), fault);
        Check.due("told(3) behind '" + text + "'", x.told(3), 0);
    }

    private static void wordsWithoutFault() {
        dueAtoms("", 0);
        dueAtoms("   ", 0);
        dueAtoms("|", 0);
        dueAtoms("||", 0);
        dueAtoms("()", 0);
        dueAtoms("()*", 0);
        dueAtoms("(()+)?", 0);
        dueAtoms("1", 1);
        dueAtoms("123", 1);
        dueAtoms("-123", 1);
        dueAtoms("1 2", 2);
        dueAtoms("1-2", 2);
        dueAtoms("1-2-3", 3);
        dueAtoms("-999 999", 2);
        dueAtoms("007 -00", 2);
        dueAtoms(".r.", 3);
        dueAtoms(" . * r + [ 1 , 2 ] ? ", 3);
        dueAtoms("[-5,-5]", 1);
        dueAtoms("(1|2)*(3|(4 5)+)?", 5);
        dueAtoms("((((((((.))))))))", 1);
        dueAtoms("((((((((.))))))))((((((((r))))))))", 2);
        dueAtoms(".".repeat(50), 50);
        dueAtoms("()".repeat(80), 0);
        dueAtoms("(.)".repeat(50), 50);
        dueAtoms(".".repeat(50) + "()()", 50);
    }

    private static void faultsOfBytes() {
        dueFault("a", 0, 1);
        dueFault(" a", 1, 1);
        dueFault("R", 0, 1);
        dueFault("\t", 0, 1);
        dueFault("\0", 0, 1);
        dueFault("1\0", 1, 1);
        dueFault("-", 0, 1);
        dueFault("1-", 1, 1);
        dueFault("- 1", 0, 1);
        dueFault("--1", 0, 1);
        dueFault("-r", 0, 1);
        dueFault("1234", 0, 1);
        dueFault("0001", 0, 1);
        dueFault("1 -1234", 2, 1);
        dueFault("12345 6", 0, 1);
        dueFault("[1,2345]", 3, 1);
        dueFault("[a", 1, 1);
        dueFault("\u00ff", 0, 1);
        dueFault("{1}", 0, 1);
    }

    private static void faultsOfOrder() {
        dueFault("*", 0, 2);
        dueFault("+", 0, 2);
        dueFault("?", 0, 2);
        dueFault(")", 0, 2);
        dueFault("]", 0, 2);
        dueFault(",", 0, 2);
        dueFault("1,2", 1, 2);
        dueFault("1**", 2, 2);
        dueFault("1*+", 2, 2);
        dueFault("1? ?", 3, 2);
        dueFault("1|*", 2, 2);
        dueFault("(*)", 1, 2);
        dueFault("()**", 3, 2);
        dueFault("(1*)*?", 5, 2);
        dueFault("1)", 1, 2);
        dueFault("(1))", 3, 2);
        dueFault("(", 1, 2);
        dueFault("(1  ", 4, 2);
        dueFault("((1)", 4, 2);
        dueFault("(1|", 3, 2);
        dueFault("[", 1, 2);
        dueFault("[  ", 3, 2);
        dueFault("[1", 2, 2);
        dueFault("[1,", 3, 2);
        dueFault("[1,2", 4, 2);
        dueFault("[]", 1, 2);
        dueFault("[,", 1, 2);
        dueFault("[1 2]", 3, 2);
        dueFault("[1-2]", 2, 2);
        dueFault("[-5-4", 3, 2);
        dueFault("[1,2,3]", 4, 2);
        dueFault("[1,2 3]", 5, 2);
        dueFault("[1,]", 3, 2);
        dueFault("[.,2]", 1, 2);
        dueFault("[r", 1, 2);
        dueFault("[(1,2)]", 1, 2);
        dueFault("[1,2)", 4, 2);
        dueFault("[[1,2]]", 1, 2);
        dueFault("[1|2]", 2, 2);
        dueFault("[1,2*]", 4, 2);
        // A full tape of one-byte tokens: its end is the 161st thing that is read.
        dueFault("()".repeat(79) + "|(", 160, 2);
        dueFault("()".repeat(79) + "|[", 160, 2);
        dueFault("(" + " ".repeat(159), 160, 2);
    }

    private static void faultsOfRanges() {
        dueFault("[2,1]", 3, 3);
        dueFault("[2,1", 3, 3);
        dueFault("[ 2 , 1 ]", 6, 3);
        dueFault("[0,-1]", 3, 3);
        dueFault("[-1,-2]", 4, 3);
        dueFault("[1,2][2,1]", 8, 3);
        dueAtoms("[-2,-1][-0,0][999,999]", 3);
    }

    private static void faultsOfMany() {
        dueFault("(((((((((", 8, 4);
        dueFault("((((((((.(", 9, 4);
        dueFault("((((((((.)))))))) (((((((( (", 27, 4);
        dueFault(".".repeat(51), 50, 4);
        dueFault(".".repeat(50) + "r", 50, 4);
        dueFault(".".repeat(50) + " 7", 51, 4);
        dueFault(".".repeat(50) + "[1,2]", 50, 4);
        dueFault(".".repeat(50) + "[2,1]", 50, 4);
        dueFault(".".repeat(50) + "(.)", 51, 4);
        dueFault(".".repeat(49) + "[1,2]*|.", 56, 4);
    }

    private static void firstFaultAndLeast() {
        dueFault("1** a", 2, 2);
        dueFault("a **", 0, 1);
        dueFault("[1 2345]", 3, 1);
        dueFault("[2,1] 1234", 3, 3);
        dueFault(".".repeat(50) + "1234", 50, 1);
        dueFault("(((((((( [(", 10, 2);
    }

    private static void wordStaysBehindFault() {
        TuneSearch x = new TuneSearch();
        Runs.tune(x, 60, 1, 62, 1);
        Check.due("a fault before any word", Runs.word(x, "60("), -13);
        Check.due("no word yet", x.find(0), 0);
        Check.due("word() of '60'", Runs.word(x, "60"), 1);
        Check.due("find(0)", x.find(0), 1);
        Check.due("word() of '. . (1'", Runs.word(x, ". . (1"), -16);
        Check.due("its fault", x.fault(), 2);
        Check.due("find(0) with the word that stayed", x.find(0), 1);
        Check.due("found(0, 2) of it", x.found(0, 2), 1);
        Check.due("fault() is that of word() still", x.fault(), 2);
        Check.due("word() of an empty tape", x.word(), 0);
        Check.due("its fault", x.fault(), 0);
        Check.due("find(0) of the empty row", x.find(0), 0);
    }
}
