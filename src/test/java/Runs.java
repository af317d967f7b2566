/** What the tests do again and again with a TuneSearch. */
final class Runs {
    private Runs() {
    }

    static void typeText(TuneSearch x, String text) {
        for (int k = 0; k < text.length(); k++) {
            x.type(text.charAt(k), 1);
        }
    }

    static int word(TuneSearch x, String text) {
        typeText(x, text);
        return x.word();
    }

    /** Makes a tune of pitch, length, pitch, length, .. */
    static int tune(TuneSearch x, int... pitchesAndLengths) {
        int t = x.tune();
        for (int k = 0; k + 1 < pitchesAndLengths.length; k += 2) {
            x.note(t, pitchesAndLengths[k], pitchesAndLengths[k + 1]);
        }
        return t;
    }

    /** A new object with one tune. */
    static TuneSearch withTune(int... pitchesAndLengths) {
        TuneSearch x = new TuneSearch();
        tune(x, pitchesAndLengths);
        return x;
    }

    /** Adds so many like notes to a tune. */
    static void fill(TuneSearch x, int tune, int count, int pitch, int length) {
        for (int n = 0; n < count; n++) {
            x.note(tune, pitch, length);
        }
    }

    /** A new object with 8 tunes of 24 like notes. */
    static TuneSearch full(int pitch, int length) {
        TuneSearch x = new TuneSearch();
        for (int t = 0; t < 8; t++) {
            fill(x, x.tune(), 24, pitch, length);
        }
        return x;
    }

    static void query(TuneSearch x, int... pitchesAndLengths) {
        x.forget();
        for (int k = 0; k + 1 < pitchesAndLengths.length; k += 2) {
            x.query(pitchesAndLengths[k], pitchesAndLengths[k + 1]);
        }
    }

    /** Prices 0 to 4, those of ways: so chosen that a cost tells what it was for. */
    static void prices(TuneSearch x, int pitch, int length, int aloneA, int aloneB, int rest) {
        int[] all = {pitch, length, aloneA, aloneB, rest};
        for (int k = 0; k < all.length; k++) {
            x.price(k, all[k]);
        }
    }

    /** Prices 5 to 7, those of carrying. */
    static void carryPrices(TuneSearch x, int begin, int pitch, int left) {
        x.price(5, begin);
        x.price(6, pitch);
        x.price(7, left);
    }

    /** All that was found: tune:place:size:cost:shift, a blank between two. */
    static String found(TuneSearch x) {
        StringBuilder s = new StringBuilder();
        for (int k = 0; k < x.told(4); k++) {
            s.append(k == 0 ? "" : " ");
            for (int what = 0; what < 5; what++) {
                s.append(what == 0 ? "" : ":").append(x.found(k, what));
            }
        }
        return s.toString();
    }

    /** One thing of all that was found, a blank between two. */
    static String found(TuneSearch x, int what) {
        StringBuilder s = new StringBuilder();
        for (int k = 0; k < x.told(4); k++) {
            s.append(k == 0 ? "" : " ").append(x.found(k, what));
        }
        return s.toString();
    }

    /** The least tunes of all tunes' families, a blank between two. */
    static String families(TuneSearch x) {
        StringBuilder s = new StringBuilder();
        for (int t = 0; t < x.told(0); t++) {
            s.append(t == 0 ? "" : " ").append(x.family(t));
        }
        return s.toString();
    }
}
