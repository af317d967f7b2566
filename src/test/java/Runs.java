/** What the tests do again and again with a TuneSearch. */
final class Runs {
    private Runs() {
    }

    static void typeText(TuneSearch x, String text) {
        for (int k = 0; k < text.length(); k++) {
            x.type(text.charAt(k), 1);
        }
    }

    static int word(TuneSearch x, String text) {
        typeText(x, text);
        return x.word();
    }

    /** Makes a tune of pitch, length, pitch, length, .. */
    static int tune(TuneSearch x, int... pitchesAndLengths) {
        int t = x.tune();
        for (int k = 0; k + 1 < pitchesAndLengths.length; k += 2) {
            x.note(t, pitchesAndLengths[k], pitchesAndLengths[k + 1]);
        }
        return t;
    }

    static void query(TuneSearch x, int... pitchesAndLengths) {
        x.forget();
        for (int k = 0; k + 1 < pitchesAndLengths.length; k += 2) {
            x.query(pitchesAndLengths[k], pitchesAndLengths[k + 1]);
        }
    }

    /** All that was found: tune:place:size:cost:shift, a blank between two. */
    static String found(TuneSearch x) {
        StringBuilder s = new StringBuilder();
        for (int k = 0; k < x.told(4); k++) {
            s.append(k == 0 ? "" : " ");
            for (int what = 0; what < 5; what++) {
                s.append(what == 0 ? "" : ":").append(x.found(k, what));
            }
        }
        return s.toString();
    }
}
