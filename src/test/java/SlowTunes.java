import java.util.ArrayList;
import java.util.Arrays;
import java.util.BitSet;
import java.util.List;

/**
 * All that the document says, in the plainest way and by other means than TuneSearch: words as trees whose rows' ends
 * are gathered in sets, ways from every place by every shift, units that are carried one by one.
 */
final class SlowTunes {
    private static final int NONE = -1;
    private static final int BAD = -2;
    private static final int FULL = -3;
    private static final Integer R = null;

    private final List<List<int[]>> tunes = new ArrayList<>();
    private final List<int[]> asked = new ArrayList<>();
    private final int[] prices = {1, 1, 1, 1, 1, 1, 1, 1};
    private String tape = "";
    private Node word = null;
    private int fault = 0;
    private List<int[]> found = new ArrayList<>();
    private int[] families = {};

    int tune() {
        if (tunes.size() == 8) {
            return FULL;
        }
        tunes.add(new ArrayList<>());
        return tunes.size() - 1;
    }

    int note(int tune, int pitch, int length) {
        return isNone(tune) ? NONE : add(tunes.get(tune), 24, pitch, length);
    }

    int query(int pitch, int length) {
        return add(asked, 12, pitch, length);
    }

    private static int add(List<int[]> row, int most, int pitch, int length) {
        if (pitch < -1 || pitch > 127 || length < 1 || length > 64) {
            return BAD;
        }
        if (row.size() == most) {
            return FULL;
        }
        row.add(new int[] {pitch, length});
        return row.size();
    }

    int forget() {
        int had = asked.size();
        asked.clear();
        return had;
    }

    int price(int k, int v) {
        if (k < 0 || k > 7) {
            return NONE;
        }
        if (v < 0 || v > 1000) {
            return BAD;
        }
        int was = prices[k];
        prices[k] = v;
        return was;
    }

    int type(long w, int n) {
        if (n < 1 || n > 8) {
            return BAD;
        }
        if (tape.length() + n > 160) {
            return FULL;
        }
        String more = "";
        for (int k = 0; k < n; k++) {
            more = (char) (w & 255) + more;
            w >>= 8;
        }
        tape += more;
        return tape.length();
    }

    int fault() {
        return fault;
    }

    // ---- words

    private static final class Fault extends RuntimeException {
        private static final long serialVersionUID = 1L;
        final int place;
        final int kind;

        Fault(int place, int kind) {
            this.place = place;
            this.kind = kind;
        }
    }

    private interface Node {
        /** The ends of the rows that begin at the place. */
        BitSet ends(List<Integer> signs, int place);
    }

    private record Atom(boolean rest, int low, int high) implements Node {
        @Override
        public BitSet ends(List<Integer> signs, int place) {
            BitSet set = new BitSet();
            if (place < signs.size()) {
                Integer sign = signs.get(place);
                boolean fits = sign == R ? rest : !rest && low <= sign && sign <= high;
                set.set(place + 1, fits);
            }
            return set;
        }
    }

    private record Alt(List<Node> parts) implements Node {
        @Override
        public BitSet ends(List<Integer> signs, int place) {
            BitSet set = new BitSet();
            for (Node n : parts) {
                set.or(n.ends(signs, place));
            }
            return set;
        }
    }

    private record Seq(List<Node> parts) implements Node {
        @Override
        public BitSet ends(List<Integer> signs, int place) {
            BitSet set = new BitSet();
            set.set(place);
            for (Node n : parts) {
                set = endsFromAll(n, signs, set);
            }
            return set;
        }
    }

    private record Repeat(Node part, char how) implements Node {
        @Override
        public BitSet ends(List<Integer> signs, int place) {
            BitSet all = part.ends(signs, place);
            if (how != '?') {
                for (int k = 0; k <= signs.size(); k++) {
                    all.or(endsFromAll(part, signs, all));
                }
            }
            if (how != '+') {
                all.set(place);
            }
            return all;
        }
    }

    private static BitSet endsFromAll(Node n, List<Integer> signs, BitSet places) {
        BitSet set = new BitSet();
        places.stream().forEach(p -> set.or(n.ends(signs, p)));
        return set;
    }

    private static final class Parser {
        final String text;
        int at = 0;
        int atoms = 0;

        Parser(String text) {
            this.text = text;
        }

        /** The next token's text, "" at the end. */
        String peek() {
            while (at < text.length() && text.charAt(at) == ' ') {
                at++;
            }
            if (at == text.length()) {
                return "";
            }
            int end = at;
            if (text.charAt(end) == '-') {
                end++;
            }
            int begin = end;
            while (end < text.length() && "0123456789".indexOf(text.charAt(end)) >= 0) {
                end++;
            }
            if (end - begin > 3) {
                throw new Fault(at, 1);
            }
            if (end > begin) {
                return text.substring(at, end);
            }
            if ("|*+?.r[],()".indexOf(text.charAt(at)) < 0) {
                throw new Fault(at, 1);
            }
            return text.substring(at, at + 1);
        }

        static boolean isNumber(String token) {
            return !token.isEmpty() && Character.isDigit(token.charAt(token.length() - 1));
        }

        int takeNumber() {
            String token = peek();
            if (!isNumber(token)) {
                throw new Fault(at, 2);
            }
            at += token.length();
            return Integer.parseInt(token);
        }

        void take(String token) {
            if (!peek().equals(token)) {
                throw new Fault(at, 2);
            }
            at += token.length();
        }

        Node alt(int depth) {
            List<Node> parts = new ArrayList<>();
            parts.add(seq(depth));
            while (peek().equals("|")) {
                take("|");
                parts.add(seq(depth));
            }
            return new Alt(parts);
        }

        Node seq(int depth) {
            List<Node> parts = new ArrayList<>();
            while (isNumber(peek()) || (!peek().isEmpty() && ".r[(".contains(peek()))) {
                Node atom = atom(depth);
                String how = peek();
                if (how.equals("*") || how.equals("+") || how.equals("?")) {
                    take(how);
                    atom = new Repeat(atom, how.charAt(0));
                }
                parts.add(atom);
            }
            return new Seq(parts);
        }

        Node atom(int depth) {
            String token = peek();
            if (token.equals("(")) {
                if (depth == 8) {
                    throw new Fault(at, 4);
                }
                take("(");
                Node inner = alt(depth + 1);
                take(")");
                return inner;
            }
            atoms++;
            if (atoms > 50) {
                throw new Fault(at, 4);
            }
            if (isNumber(token)) {
                int number = takeNumber();
                return new Atom(false, number, number);
            }
            take(token);
            if (!token.equals("[")) {
                return new Atom(token.equals("r"), Integer.MIN_VALUE, Integer.MAX_VALUE);
            }
            int low = takeNumber();
            take(",");
            peek();
            int place = at;
            int high = takeNumber();
            if (high < low) {
                throw new Fault(place, 3);
            }
            take("]");
            return new Atom(false, low, high);
        }
    }

    int word() {
        Parser p = new Parser(tape);
        tape = "";
        try {
            Node whole = p.alt(0);
            p.take("");
            word = whole;
            fault = 0;
            return p.atoms;
        } catch (Fault f) {
            fault = f.kind;
            return -10 - f.place;
        }
    }

    private static List<Integer> signs(List<int[]> tune, int view) {
        List<Integer> signs = new ArrayList<>();
        for (int n = 0; n < tune.size(); n++) {
            int[] now = tune.get(n);
            if (view == 0) {
                signs.add(now[0] == -1 ? R : Integer.valueOf(now[0]));
            } else if (view == 3) {
                signs.add(now[1]);
            } else if (n > 0) {
                int[] before = tune.get(n - 1);
                boolean rest = view < 3 && (now[0] == -1 || before[0] == -1);
                int d = view == 4 ? now[1] - before[1] : now[0] - before[0];
                signs.add(rest ? R : Integer.valueOf(view == 1 ? d : Integer.signum(d)));
            }
        }
        return signs;
    }

    int find(int view) {
        if (view < 0 || view > 4) {
            return BAD;
        }
        found = new ArrayList<>();
        for (int t = 0; t < tunes.size() && word != null; t++) {
            List<Integer> signs = signs(tunes.get(t), view);
            for (int place = 0; place < signs.size(); place++) {
                int longest = word.ends(signs, place).length() - 1 - place;
                if (longest > 0) {
                    found.add(new int[] {t, place, longest, 0, 0});
                }
            }
        }
        return found.size();
    }

    // ---- ways

    private int pair(int[] a, int[] b, int s) {
        if (a[0] == -1 || b[0] == -1) {
            return a[0] == b[0] ? 0 : prices[4];
        }
        return prices[0] * Math.abs(a[0] + s - b[0]);
    }

    /** The cost of a step that takes all notes of both rows, one of which has one. */
    private int step(List<int[]> a, List<int[]> b, int s) {
        int cost = 0;
        int length = 0;
        for (int[] x : a) {
            length += x[1];
        }
        for (int[] y : b) {
            length -= y[1];
        }
        for (int[] x : a) {
            for (int[] y : b) {
                cost += pair(x, y, s);
            }
        }
        return cost + prices[1] * Math.abs(length);
    }

    /** What is left to be paid, from the backs of both rows on. */
    private int way(List<int[]> a, List<int[]> b, int s) {
        int[][] due = new int[a.size() + 1][b.size() + 1];
        for (int i = a.size(); i >= 0; i--) {
            for (int j = b.size(); j >= 0; j--) {
                int best = i == a.size() && j == b.size() ? 0 : Integer.MAX_VALUE;
                if (i < a.size()) {
                    best = Math.min(best, due[i + 1][j] + prices[2] * a.get(i)[1]);
                }
                if (j < b.size()) {
                    best = Math.min(best, due[i][j + 1] + prices[3] * b.get(j)[1]);
                }
                for (int k = 1; k <= 4; k++) {
                    if (i < a.size() && j + k <= b.size()) {
                        best = Math.min(best, due[i + 1][j + k] + step(a.subList(i, i + 1), b.subList(j, j + k), s));
                    }
                    if (k > 1 && i + k <= a.size() && j < b.size()) {
                        best = Math.min(best, due[i + k][j + 1] + step(a.subList(i, i + k), b.subList(j, j + 1), s));
                    }
                }
                due[i][j] = best;
            }
        }
        return due[0][0];
    }

    int near(int most, int shifts) {
        if (most < 0 || shifts < 0 || shifts > 24) {
            return BAD;
        }
        found = new ArrayList<>();
        for (int t = 0; t < tunes.size(); t++) {
            for (int end = 0; end <= tunes.get(t).size(); end++) {
                int[] best = bestTo(t, end, shifts);
                if (best[3] <= most) {
                    found.add(best);
                }
            }
        }
        found.sort((x, y) -> Arrays.compare(new int[] {x[3], x[0], x[2]}, new int[] {y[3], y[0], y[2]}));
        return found.size();
    }

    private int[] bestTo(int t, int end, int shifts) {
        int[] best = null;
        int[] bestRank = null;
        for (int s = -shifts; s <= shifts; s++) {
            for (int place = 0; place <= end; place++) {
                int cost = way(asked, tunes.get(t).subList(place, end), s);
                int[] rank = {cost, Math.abs(s), s, -place};
                if (best == null || Arrays.compare(rank, bestRank) < 0) {
                    best = new int[] {t, place, end, cost, s};
                    bestRank = rank;
                }
            }
        }
        return best;
    }

    int found(int k, int what) {
        if (k < 0 || k >= found.size() || what < 0 || what > 4) {
            throw new IndexOutOfBoundsException();
        }
        return found.get(k)[what];
    }

    int distance(int a, int b, int shift) {
        if (isNone(a) || isNone(b)) {
            return NONE;
        }
        return shift < -24 || shift > 24 ? BAD : way(tunes.get(a), tunes.get(b), shift);
    }

    // ---- carrying

    private static int units(List<int[]> tune) {
        return tune.stream().filter(n -> n[0] != -1).mapToInt(n -> n[1]).sum();
    }

    /** Pitch, begin of each unit. */
    private static List<int[]> allUnits(List<int[]> tune) {
        List<int[]> units = new ArrayList<>();
        int begin = 0;
        for (int[] n : tune) {
            for (int k = 0; k < n[1] && n[0] != -1; k++) {
                units.add(new int[] {n[0], begin});
            }
            begin += n[1];
        }
        return units;
    }

    /** Every unit of the smaller tune has a unit of the other: the least sum, by paths through a table of units. */
    private long carry(List<int[]> few, List<int[]> many) {
        int[] holder = new int[many.size()];
        Arrays.fill(holder, -1);
        for (int u = 0; u < few.size(); u++) {
            long[] cost = new long[many.size()];
            int[] via = new int[many.size()];
            Arrays.fill(via, -1);
            for (int m = 0; m < many.size(); m++) {
                cost[m] = unit(few.get(u), many.get(m));
            }
            for (boolean changed = true; changed;) {
                changed = false;
                for (int m = 0; m < many.size(); m++) {
                    if (holder[m] < 0) {
                        continue;
                    }
                    long base = cost[m] - unit(few.get(holder[m]), many.get(m));
                    for (int q = 0; q < many.size(); q++) {
                        long now = base + unit(few.get(holder[m]), many.get(q));
                        if (now < cost[q]) {
                            cost[q] = now;
                            via[q] = m;
                            changed = true;
                        }
                    }
                }
            }
            int end = -1;
            for (int m = 0; m < many.size(); m++) {
                if (holder[m] < 0 && (end < 0 || cost[m] < cost[end])) {
                    end = m;
                }
            }
            for (; via[end] >= 0; end = via[end]) {
                holder[end] = holder[via[end]];
            }
            holder[end] = u;
        }
        long sum = 0;
        for (int m = 0; m < many.size(); m++) {
            sum += holder[m] < 0 ? prices[7] : unit(few.get(holder[m]), many.get(m));
        }
        return sum;
    }

    private long unit(int[] x, int[] y) {
        return (long) prices[6] * Math.abs(x[0] - y[0]) + (long) prices[5] * Math.abs(x[1] - y[1]);
    }

    long freight(int a, int b) {
        if (isNone(a) || isNone(b)) {
            return NONE;
        }
        List<int[]> x = allUnits(tunes.get(a));
        List<int[]> y = allUnits(tunes.get(b));
        return x.size() <= y.size() ? carry(x, y) : carry(y, x);
    }

    long share(int a, int b) {
        if (isNone(a) || isNone(b)) {
            throw new IndexOutOfBoundsException();
        }
        int going = Math.min(units(tunes.get(a)), units(tunes.get(b)));
        if (going == 0) {
            throw new ArithmeticException();
        }
        return 1000 * freight(a, b) / going;
    }

    // ---- families

    int families(int most) {
        if (most < 0) {
            return BAD;
        }
        int n = tunes.size();
        boolean[][] near = new boolean[n][n];
        for (int a = 0; a < n; a++) {
            for (int b = 0; b < n; b++) {
                near[a][b] = Math.min(distance(a, b, 0), distance(b, a, 0)) <= most;
            }
        }
        for (int k = 0; k < n; k++) {
            for (int a = 0; a < n; a++) {
                for (int b = 0; b < n; b++) {
                    near[a][b] |= near[a][k] && near[k][b];
                }
            }
        }
        families = new int[n];
        for (int a = 0; a < n; a++) {
            families[a] = a;
            for (int b = n - 1; b >= 0; b--) {
                families[a] = near[a][b] ? Math.min(b, families[a]) : families[a];
            }
        }
        return (int) Arrays.stream(families).distinct().count();
    }

    int family(int tune) {
        return isNone(tune) || tune >= families.length ? NONE : families[tune];
    }

    int told(int what) {
        int notes = tunes.stream().mapToInt(List::size).sum();
        int[] all = {tunes.size(), notes, asked.size(), tape.length(), found.size()};
        return what < 0 || what > 4 ? BAD : all[what];
    }

    private boolean isNone(int tune) {
        return tune < 0 || tune >= tunes.size();
    }
}
