/** What is looked at of words. */
final class Words {
    private Words() {
    }

    /** The text is a word of so many atoms. */
    static void dueAtoms(String text, int atoms) {
        TuneSearch x = new TuneSearch();
        Check.due("word() of '" + text + "'", Runs.word(x, text), atoms);
        Check.due("fault() of '" + text + "'", x.fault(), 0);
    }

    /** The text has this fault at this place. */
    static void dueFault(String text, int place, int fault) {
        TuneSearch x = new TuneSearch();
        Check.due("word() of '" + text + "'", Runs.word(x, text), -10 - place);
        Check.due("fault() of '" + text + "'", x.fault(), fault);
    }

    /** The word's finds in a view, each with its longest row: place:size. */
    static void dueFinds(TuneSearch x, String text, int view, String want) {
        Runs.word(x, text);
        int count = x.find(view);
        StringBuilder s = new StringBuilder();
        for (int k = 0; k < count; k++) {
            s.append(k == 0 ? "" : " ").append(x.found(k, 1)).append(':').append(x.found(k, 2));
        }
        Check.due("'" + text + "' in view " + view, s.toString(), want);
    }

    /** Whether the word stands for this whole row of pitches (-1: the sign R). */
    static void dueStandsFor(String text, boolean want, int... pitches) {
        TuneSearch x = new TuneSearch();
        int t = x.tune();
        StringBuilder row = new StringBuilder();
        for (int pitch : pitches) {
            x.note(t, pitch, 1);
            row.append(' ').append(pitch);
        }
        Runs.word(x, text);
        boolean whole = x.find(0) > 0 && x.found(0, 1) == 0 && x.found(0, 2) == pitches.length;
        Check.due("'" + text + "' stands for" + row, whole ? "yes" : "no", want ? "yes" : "no");
    }

    /** The object's one tune has just these signs in a view. */
    static void dueSigns(TuneSearch x, int view, String signs) {
        int count = signs.isEmpty() ? 0 : signs.split(" ").length;
        Runs.word(x, ".|r");
        Check.due("how many signs there are in view " + view, x.find(view), count);
        if (count > 0) {
            Runs.word(x, signs);
            boolean whole = x.find(view) > 0 && x.found(0, 1) == 0 && x.found(0, 2) == count;
            Check.due("the signs in view " + view + " are " + signs, whole ? "yes" : "no", "yes");
        }
    }
}
