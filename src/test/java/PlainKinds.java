import java.util.ArrayList;
import java.util.Arrays;
import java.util.HashMap;
import java.util.List;
import java.util.Map;
import java.util.NoSuchElementException;
import java.util.regex.Matcher;
import java.util.regex.Pattern;

/**
 * The document's words taken one by one, with no thought of speed or room: what FuseKinds is compared with. It
 * searches by trying everything, takes back by snapshots and turns squares back by cofactors, so that a slip in
 * the class's shorter ways isn't made here again.
 */
public final class PlainKinds {
    private static final int NONE = -1;
    private static final Map<String, List<int[]>> CHARACTERS = new HashMap<>();
    private static final Map<String, List<int[]>> SOLVED = new HashMap<>();
    private static final Map<String, List<int[]>> TURNED = new HashMap<>();
    private static final Map<String, List<int[][][]>> LISTS = new HashMap<>();

    /** What is told, as a snapshot. */
    private static final class Told {
        private final Map<List<Integer>, Integer> f = new HashMap<>();
        private final Map<List<Integer>, Integer> r = new HashMap<>();
        private int[] t = {1, 1, 1, 1, 1};
        private final List<Integer> word = new ArrayList<>();

        Told copy() {
            Told other = new Told();
            other.f.putAll(f);
            other.r.putAll(r);
            other.t = t.clone();
            other.word.addAll(word);
            return other;
        }
    }

    private static final class Fault extends RuntimeException {
        private static final long serialVersionUID = 1L;
        private final int code;
        private final int place;

        Fault(int code, int place) {
            this.code = code;
            this.place = place;
        }
    }

    private int[][][] n = {{{1}}};
    private int p = 7;
    private Told now = new Told();
    private int badTexts;
    private int refused;
    private final List<Integer> tape = new ArrayList<>();
    private int faultPlace = NONE;
    private int[][][] kept;
    private List<int[][][]> list = new ArrayList<>();
    private List<Told> undo = new ArrayList<>();
    private List<Told> redo = new ArrayList<>();
    private int[][][] imageTable;
    private Told imageTold;
    private int[] imageNumbers;

    public int feed(int a, int b, int c, int d, int e) {
        if (tape.size() + 20 > 400) {
            return NONE;
        }
        for (int x : new int[] {a, b, c, d, e}) {
            tape.add((x >> 24) & 255);
            tape.add((x >> 16) & 255);
            tape.add((x >> 8) & 255);
            tape.add(x & 255);
        }
        return tape.size();
    }

    public int table(int count) {
        if (count < 0 || count > tape.size()) {
            throw new IllegalArgumentException();
        }
        StringBuilder text = new StringBuilder();
        for (int x : tape.subList(0, count)) {
            text.append((char) x);
        }
        tape.clear();
        try {
            int[][][] read = parse(text.toString());
            faultPlace = NONE;
            newTable(read);
            return 0;
        } catch (Fault fault) {
            badTexts++;
            faultPlace = fault.place;
            return fault.code;
        }
    }

    private static int[][][] blank(int r) {
        int[][][] made = new int[r][r][r];
        for (int j = 0; j < r; j++) {
            made[0][j][j] = 1;
            made[j][0][j] = 1;
        }
        return made;
    }

    /** TOKENS with their places; the last one is the empty text at the text's length. */
    private static int[][][] parse(String text) {
        Matcher matcher = Pattern.compile("[a-z]+|[0-9]+|[^ \\n]", Pattern.DOTALL).matcher(text);
        List<String> words = new ArrayList<>();
        List<Integer> places = new ArrayList<>();
        while (matcher.find()) {
            words.add(matcher.group());
            places.add(matcher.start());
        }
        words.add("");
        places.add(text.length());
        int[] at = {0};
        need(words, places, at, "rank");
        int r = number(words, places, at, 1, 5, 2);
        need(words, places, at, ";");
        int[][][] made = blank(r);
        boolean[][] told = new boolean[r][r];
        while (!words.get(at[0]).isEmpty()) {
            int i = number(words, places, at, 1, r - 1, 3);
            int place = places.get(at[0]);
            int j = number(words, places, at, 1, r - 1, 3);
            if (told[i][j]) {
                throw new Fault(4, place);
            }
            told[i][j] = true;
            told[j][i] = true;
            need(words, places, at, "=");
            int[] sum = new int[r];
            if (words.get(at[0]).equals("none")) {
                at[0]++;
            } else {
                boolean more = true;
                while (more) {
                    place = places.get(at[0]);
                    int k = number(words, places, at, 0, r - 1, 3);
                    if (++sum[k] == 10) {
                        throw new Fault(2, place);
                    }
                    more = words.get(at[0]).equals("+");
                    at[0] += more ? 1 : 0;
                }
            }
            need(words, places, at, ";");
            made[i][j] = sum;
            made[j][i] = sum;
        }
        return made;
    }

    private static void need(List<String> words, List<Integer> places, int[] at, String word) {
        if (!words.get(at[0]).equals(word)) {
            throw new Fault(1, places.get(at[0]));
        }
        at[0]++;
    }

    private static int number(List<String> words, List<Integer> places, int[] at, int low, int high, int code) {
        String word = words.get(at[0]);
        int place = places.get(at[0]);
        if (!word.matches("[0-9]+")) {
            throw new Fault(1, place);
        }
        if (word.length() > 3) {
            throw new Fault(2, place);
        }
        int value = Integer.parseInt(word);
        if (value < low || value > high) {
            throw new Fault(code, place);
        }
        at[0]++;
        return value;
    }

    private void newTable(int[][][] table) {
        n = table;
        forget();
    }

    private void forget() {
        now = new Told();
        undo.clear();
        redo.clear();
    }

    public int fault() {
        return faultPlace;
    }

    public int make(int which, int size, int m) {
        if (which == 0 && size >= 1 && size <= 5) {
            int[][][] made = new int[size][size][size];
            for (int i = 0; i < size; i++) {
                for (int j = 0; j < size; j++) {
                    made[i][j][(i + j) % size] = 1;
                }
            }
            newTable(made);
        } else if (which == 1 && size >= 0 && size <= 4) {
            int[][][] made = new int[size + 1][size + 1][size + 1];
            for (int i = 0; i <= size; i++) {
                for (int j = 0; j <= size; j++) {
                    for (int k = 0; k <= size; k++) {
                        boolean in = (i + j + k) % 2 == 0 && k >= i - j && k >= j - i && k <= i + j
                                && i + j + k <= 2 * size;
                        made[i][j][k] = in ? 1 : 0;
                    }
                }
            }
            newTable(made);
        } else if (which == 2 && size >= 1 && size <= 4 && m >= 0 && m <= 9) {
            int[][][] made = new int[size + 1][size + 1][size + 1];
            for (int i = 0; i < size; i++) {
                for (int j = 0; j < size; j++) {
                    made[i][j][(i + j) % size] = 1;
                }
                made[i][size][size] = 1;
                made[size][i][size] = 1;
                made[size][size][i] = 1;
            }
            made[size][size][size] = m;
            newTable(made);
        } else {
            throw new IllegalArgumentException();
        }
        return n.length;
    }

    public void keep() {
        kept = n;
    }

    public int product() {
        if (kept == null || n.length * kept.length > 5) {
            return NONE;
        }
        int q = kept.length;
        int r = n.length * q;
        int[][][] made = new int[r][r][r];
        for (int i = 0; i < r; i++) {
            for (int j = 0; j < r; j++) {
                for (int k = 0; k < r; k++) {
                    made[i][j][k] = n[i / q][j / q][k / q] * kept[i % q][j % q][k % q];
                    if (made[i][j][k] > 9) {
                        return NONE;
                    }
                }
            }
        }
        newTable(made);
        return r;
    }

    private boolean free() {
        return Arrays.stream(n).flatMap(Arrays::stream).flatMapToInt(Arrays::stream).allMatch(x -> x <= 1);
    }

    private boolean hasTrees() {
        return n.length <= 3 && free();
    }

    public int count(int what) {
        int[] all = {n.length, free() ? 1 : 0, p, tape.size(), badTexts, refused, list.size(), now.word.size(),
            undo.size(), redo.size()};
        if (what < 0 || what >= all.length) {
            throw new NoSuchElementException();
        }
        return all[what];
    }

    private void kinds(int... all) {
        for (int i : all) {
            if (i < 0 || i >= n.length) {
                throw new NoSuchElementException();
            }
        }
    }

    public int fuses(int i, int j, int k) {
        kinds(i, j, k);
        return n[i][j][k];
    }

    /** Null if LAW 0 is broken. */
    private static int[] duals(int[][][] n) {
        int[] found = new int[n.length];
        for (int i = 0; i < n.length; i++) {
            if (!hasDual(n, i)) {
                return null;
            }
            for (int j = 0; j < n.length; j++) {
                found[i] = n[i][j][0] == 1 ? j : found[i];
            }
        }
        return found;
    }

    private static int sumOfUnits(int[][][] n, int i) {
        int sum = 0;
        for (int j = 0; j < n.length; j++) {
            sum += n[i][j][0];
        }
        return sum;
    }

    private static boolean hasDual(int[][][] n, int i) {
        if (sumOfUnits(n, i) != 1) {
            return false;
        }
        for (int j = 0; j < n.length; j++) {
            if (n[i][j][0] == 1) {
                return sumOfUnits(n, j) == 1 && n[j][i][0] == 1;
            }
        }
        return false;
    }

    private static int brokenLaw(int[][][] n, int law) {
        int r = n.length;
        int[] duals = duals(n);
        for (int code = 0; code < 625; code++) {
            int i = code / 125;
            int j = code / 25 % 5;
            int k = code / 5 % 5;
            int l = code % 5;
            if (i >= r || j >= r || k >= r || l >= r) {
                continue;
            }
            boolean holds;
            if (law == 0) {
                holds = hasDual(n, i);
            } else if (law == 1) {
                int left = 0;
                int right = 0;
                for (int e = 0; e < r; e++) {
                    left += n[i][j][e] * n[e][k][l];
                    right += n[j][k][e] * n[i][e][l];
                }
                holds = left == right;
            } else if (law == 2) {
                holds = n[i][j][k] == n[j][i][k];
            } else {
                holds = duals == null || n[i][j][k] == n[duals[i]][k][j];
            }
            if (!holds) {
                return code;
            }
        }
        return NONE;
    }

    public int law(int law) {
        if (law < 0 || law > 3) {
            throw new NoSuchElementException();
        }
        return brokenLaw(n, law);
    }

    public int dual(int i) {
        kinds(i);
        int[] duals = duals(n);
        return duals == null ? NONE : duals[i];
    }

    public int size(int kind) {
        kinds(kind);
        int r = n.length;
        long[] row = new long[r];
        Arrays.fill(row, 1000000);
        for (int time = 0; time < 100; time++) {
            long[] next = new long[r];
            for (int i = 0; i < r; i++) {
                for (int j = 0; j < r; j++) {
                    for (int k = 0; k < r; k++) {
                        next[k] += n[i][j][k] * row[j];
                    }
                }
            }
            for (int k = 0; k < r; k++) {
                row[k] = next[0] == 0 ? 0 : Math.min(1000000000L, next[k] * 1000000L / next[0]);
            }
        }
        return (int) row[kind];
    }

    public int ways(int i, int j, int times) {
        kinds(i, j);
        if (times < 0 || times > 1000) {
            throw new NoSuchElementException();
        }
        long[] row = new long[n.length];
        row[0] = 1;
        for (int time = 0; time < times; time++) {
            long[] next = new long[n.length];
            for (int l = 0; l < n.length; l++) {
                for (int k = 0; k < n.length; k++) {
                    next[k] = (next[k] + row[l] * n[l][i][k]) % 1000000007L;
                }
            }
            row = next;
        }
        return (int) row[j];
    }

    public int list(int rank, int bound) {
        if (rank < 2 || rank > 4 || bound < 1 || bound > 5 || (rank == 4 && bound > 2)) {
            throw new IllegalArgumentException();
        }
        list = LISTS.computeIfAbsent(rank + " " + bound, key -> everyTable(rank, bound));
        return list.size();
    }

    private static List<int[][][]> everyTable(int rank, int bound) {
        List<int[][][]> found = new ArrayList<>();
        int[] duals = new int[rank];
        for (int i = 0; i < rank; i++) {
            duals[i] = i;
        }
        addTables(rank, bound, duals, found);
        if (rank > 2) {
            duals[rank - 2] = rank - 1;
            duals[rank - 1] = rank - 2;
            addTables(rank, bound, duals, found);
        }
        return found;
    }

    private static int[] sorted(int i, int j, int k) {
        int[] set = {i, j, k};
        Arrays.sort(set);
        return set;
    }

    /** Each GROUP's first set. */
    private static List<int[]> groups(int rank, int[] duals) {
        List<int[]> sets = new ArrayList<>();
        for (int i = 1; i < rank; i++) {
            for (int j = i; j < rank; j++) {
                for (int k = j; k < rank; k++) {
                    int[] set = {i, j, k};
                    int[] other = sorted(duals[i], duals[j], duals[k]);
                    if (Arrays.compare(set, other) <= 0) {
                        sets.add(set);
                    }
                }
            }
        }
        return sets;
    }

    private static void addTables(int rank, int bound, int[] duals, List<int[][][]> found) {
        List<int[]> sets = groups(rank, duals);
        int[] row = new int[sets.size()];
        boolean more = true;
        while (more) {
            int[][][] n = ofRow(rank, duals, sets, row);
            boolean keeps = true;
            for (int law = 0; law < 4 && keeps; law++) {
                keeps = brokenLaw(n, law) == NONE;
            }
            if (keeps && isLeast(n, duals, sets, row)) {
                found.add(n);
            }
            more = step(row, 0, bound);
        }
    }

    /** The next row of numbers low to high; false behind the last. */
    private static boolean step(int[] row, int low, int high) {
        for (int at = row.length - 1; at >= 0; at--) {
            if (row[at] < high) {
                row[at]++;
                return true;
            }
            row[at] = low;
        }
        return false;
    }

    private static int[][][] ofRow(int rank, int[] duals, List<int[]> sets, int[] row) {
        int[][][] n = blank(rank);
        for (int i = 1; i < rank; i++) {
            for (int j = 1; j < rank; j++) {
                n[i][j][0] = duals[i] == j ? 1 : 0;
                for (int k = 1; k < rank; k++) {
                    int[] set = sorted(i, j, duals[k]);
                    int[] other = sorted(duals[i], duals[j], k);
                    for (int g = 0; g < row.length; g++) {
                        if (Arrays.equals(sets.get(g), set) || Arrays.equals(sets.get(g), other)) {
                            n[i][j][k] = row[g];
                        }
                    }
                }
            }
        }
        return n;
    }

    private static boolean isLeast(int[][][] n, int[] duals, List<int[]> sets, int[] row) {
        int r = n.length;
        int[] name = new int[r];
        int[] rest = new int[r - 1];
        Arrays.fill(rest, 1);
        boolean more = true;
        while (more) {
            System.arraycopy(rest, 0, name, 1, r - 1);
            boolean renames = Arrays.stream(rest).distinct().count() == r - 1;
            for (int i = 0; i < r; i++) {
                renames = renames && name[duals[i]] == duals[name[i]];
            }
            if (renames) {
                int[][][] renamed = new int[r][r][r];
                for (int i = 0; i < r; i++) {
                    for (int j = 0; j < r; j++) {
                        for (int k = 0; k < r; k++) {
                            renamed[name[i]][name[j]][name[k]] = n[i][j][k];
                        }
                    }
                }
                int[] other = new int[row.length];
                for (int g = 0; g < row.length; g++) {
                    int[] set = sets.get(g);
                    other[g] = renamed[set[0]][set[1]][duals[set[2]]];
                }
                if (Arrays.compare(other, row) < 0) {
                    return false;
                }
            }
            more = step(rest, 1, r - 1);
        }
        return true;
    }

    public int take(int i) {
        if (i < 0 || i >= list.size()) {
            throw new NoSuchElementException();
        }
        newTable(list.get(i));
        return n.length;
    }

    public void field(int prime) {
        if (!List.of(2, 3, 5, 7, 11, 13, 17, 19, 23, 29, 31).contains(prime)) {
            throw new IllegalArgumentException();
        }
        p = prime;
        forget();
    }

    private String key() {
        return Arrays.deepToString(n) + p;
    }

    private List<int[]> characters() {
        return CHARACTERS.computeIfAbsent(key(), key -> everyCharacter());
    }

    private List<int[]> everyCharacter() {
        List<int[]> found = new ArrayList<>();
        int[] rest = new int[n.length - 1];
        boolean more = true;
        while (more) {
            int[] d = new int[n.length];
            d[0] = 1;
            System.arraycopy(rest, 0, d, 1, rest.length);
            if (isCharacter(d)) {
                found.add(d);
            }
            more = step(rest, 0, p - 1);
        }
        return found;
    }

    private boolean isCharacter(int[] d) {
        for (int i = 0; i < n.length; i++) {
            for (int j = 0; j < n.length; j++) {
                int sum = 0;
                for (int k = 0; k < n.length; k++) {
                    sum += n[i][j][k] * d[k];
                }
                if ((sum - d[i] * d[j]) % p != 0) {
                    return false;
                }
            }
        }
        return true;
    }

    private int[] theCharacter(int i) {
        if (i < 0 || i >= characters().size()) {
            throw new NoSuchElementException();
        }
        return characters().get(i);
    }

    public int character(int i, int k) {
        if (i == NONE) {
            return characters().size();
        }
        int[] d = theCharacter(i);
        kinds(k);
        return d[k];
    }

    private void remember() {
        undo.add(now.copy());
        if (undo.size() > 100) {
            undo.remove(0);
        }
        redo.clear();
    }

    private boolean there(int a, int b, int c, int d, int e, int g) {
        return n[a][b][e] == 1 && n[e][c][d] == 1 && n[b][c][g] == 1 && n[a][g][d] == 1;
    }

    public boolean tell(int a, int b, int c, int d, int e, int g, int v) {
        kinds(a, b, c, d, e, g);
        if (!hasTrees() || !there(a, b, c, d, e, g) || a * b * c == 0 || v < 0 || v > p - 1) {
            refused++;
            return false;
        }
        remember();
        now.f.put(List.of(a, b, c, d, e, g), v);
        return true;
    }

    public boolean swap(int a, int b, int c, int v) {
        kinds(a, b, c);
        if (!hasTrees() || n[a][b][c] != 1 || a * b == 0 || v < 0 || v > p - 1) {
            refused++;
            return false;
        }
        remember();
        now.r.put(List.of(a, b, c), v);
        return true;
    }

    public boolean twist(int i, int v) {
        kinds(i);
        if (i == 0 || v < 1 || v > p - 1) {
            refused++;
            return false;
        }
        remember();
        now.t[i] = v;
        return true;
    }

    private int f(int a, int b, int c, int d, int e, int g) {
        if (!there(a, b, c, d, e, g)) {
            return 0;
        }
        return a * b * c == 0 ? 1 : now.f.getOrDefault(List.of(a, b, c, d, e, g), 0);
    }

    private int r(int a, int b, int c) {
        if (n[a][b][c] != 1) {
            return 0;
        }
        return a * b == 0 ? 1 : now.r.getOrDefault(List.of(a, b, c), 0);
    }

    public int told(int what, int a, int b, int c, int d, int e, int g) {
        if (what == 2) {
            kinds(a);
            return now.t[a];
        }
        if ((what != 0 && what != 1) || !hasTrees()) {
            throw new NoSuchElementException();
        }
        kinds(a, b, c);
        if (what == 1) {
            return r(a, b, c);
        }
        kinds(d, e, g);
        return f(a, b, c, d, e, g);
    }

    private List<int[]> pentagons() {
        List<int[]> found = new ArrayList<>();
        int[] x = new int[9];
        boolean more = true;
        while (more) {
            if (n[x[0]][x[1]][x[5]] * n[x[5]][x[2]][x[6]] * n[x[6]][x[3]][x[4]] * n[x[2]][x[3]][x[8]]
                    * n[x[1]][x[8]][x[7]] * n[x[0]][x[7]][x[4]] == 1) {
                found.add(x.clone());
            }
            more = step(x, 0, n.length - 1);
        }
        return found;
    }

    private boolean pentagonHolds(int[] x) {
        int a = x[0];
        int b = x[1];
        int c = x[2];
        int d = x[3];
        int e = x[4];
        int f = x[5];
        int g = x[6];
        int k = x[7];
        int l = x[8];
        int sum = 0;
        for (int h = 0; h < n.length; h++) {
            sum += f(a, b, c, g, f, h) * f(a, h, d, e, g, k) * f(b, c, d, k, h, l);
        }
        return (f(f, c, d, e, g, l) * f(a, b, l, e, f, k) - sum) % p == 0;
    }

    private List<int[]> hexagons() {
        List<int[]> found = new ArrayList<>();
        int[] x = new int[6];
        boolean more = true;
        while (more) {
            if (n[x[0]][x[2]][x[4]] * n[x[4]][x[1]][x[3]] * n[x[1]][x[2]][x[5]] * n[x[0]][x[5]][x[3]] == 1) {
                found.add(x.clone());
            }
            more = step(x, 0, n.length - 1);
        }
        return found;
    }

    private boolean hexagonHolds(int[] x) {
        int a = x[0];
        int b = x[1];
        int c = x[2];
        int d = x[3];
        int e = x[4];
        int g = x[5];
        int sum = 0;
        for (int f = 0; f < n.length; f++) {
            sum += f(c, a, b, d, e, f) * r(f, c, d) * f(a, b, c, d, f, g);
        }
        return (r(a, c, e) * f(a, c, b, d, e, g) * r(b, c, g) - sum) % p == 0;
    }

    public int check(int what) {
        if (what < 0 || what > 3) {
            throw new NoSuchElementException();
        }
        if (!hasTrees()) {
            return NONE;
        }
        switch (what) {
            case 0: return pentagons().size();
            case 1: return (int) pentagons().stream().filter(x -> !pentagonHolds(x)).count();
            case 2: return hexagons().size();
            default: return (int) hexagons().stream().filter(x -> !hexagonHolds(x)).count();
        }
    }

    public int broken(int i) {
        if (i < 0 || i > 8 || !hasTrees()) {
            throw new NoSuchElementException();
        }
        for (int[] x : pentagons()) {
            if (!pentagonHolds(x)) {
                return x[i];
            }
        }
        return NONE;
    }

    public int solve(int i) {
        boolean can = n.length <= 2 && free() && p <= 13;
        if (i == NONE && !can) {
            return NONE;
        }
        List<int[]> found = can ? SOLVED.computeIfAbsent(key(), key -> everySolution()) : List.of();
        if (i == NONE) {
            return found.size();
        }
        if (found.isEmpty() || i < 0 || i >= found.get(0).length) {
            throw new NoSuchElementException();
        }
        return found.get(0)[i];
    }

    private List<int[]> everySolution() {
        Told held = now;
        now = new Told();
        List<List<Integer>> unknown = new ArrayList<>();
        int[] x = new int[6];
        boolean more = true;
        while (more) {
            if (there(x[0], x[1], x[2], x[3], x[4], x[5]) && x[0] * x[1] * x[2] != 0) {
                unknown.add(List.of(x[0], x[1], x[2], x[3], x[4], x[5]));
            }
            more = step(x, 0, n.length - 1);
        }
        List<int[]> found = new ArrayList<>();
        List<int[]> pentagons = pentagons();
        int[] row = new int[unknown.size()];
        more = true;
        while (more) {
            for (int u = 0; u < row.length; u++) {
                now.f.put(unknown.get(u), row[u]);
            }
            if (pentagons.stream().allMatch(this::pentagonHolds) && squaresTurnBack()) {
                found.add(row.clone());
            }
            more = step(row, 0, p - 1);
        }
        now = held;
        return found;
    }

    private boolean squaresTurnBack() {
        int[] x = new int[4];
        boolean more = true;
        while (more) {
            int[][] square = square(x[0], x[1], x[2], x[3]);
            if (square == null || determinant(square) == 0) {
                return false;
            }
            more = step(x, 0, n.length - 1);
        }
        return true;
    }

    /** F of one a, b, c, d by e and g; null if it isn't square. */
    private int[][] square(int a, int b, int c, int d) {
        List<Integer> rows = new ArrayList<>();
        List<Integer> columns = new ArrayList<>();
        for (int x = 0; x < n.length; x++) {
            if (n[a][b][x] == 1 && n[x][c][d] == 1) {
                rows.add(x);
            }
            if (n[b][c][x] == 1 && n[a][x][d] == 1) {
                columns.add(x);
            }
        }
        if (rows.size() != columns.size()) {
            return null;
        }
        int[][] square = new int[rows.size()][rows.size()];
        for (int i = 0; i < square.length; i++) {
            for (int j = 0; j < square.length; j++) {
                square[i][j] = f(a, b, c, d, rows.get(i), columns.get(j));
            }
        }
        return square;
    }

    private int mod(int x) {
        return Math.floorMod(x, p);
    }

    private int inverse(int x) {
        for (int y = 1; y < p; y++) {
            if (x * y % p == 1) {
                return y;
            }
        }
        throw new IllegalStateException("nothing turns it back");
    }

    private static int[][] without(int[][] square, int row, int column) {
        int[][] less = new int[square.length - 1][square.length - 1];
        for (int i = 0; i < less.length; i++) {
            for (int j = 0; j < less.length; j++) {
                less[i][j] = square[i < row ? i : i + 1][j < column ? j : j + 1];
            }
        }
        return less;
    }

    private int determinant(int[][] square) {
        if (square.length == 0) {
            return 1 % p;
        }
        int sum = 0;
        for (int j = 0; j < square.length; j++) {
            sum += (j % 2 == 0 ? 1 : -1) * square[0][j] * determinant(without(square, 0, j));
        }
        return mod(sum);
    }

    /** By cofactors; null if it can't be turned back. */
    private int[][] turnBack(int[][] square) {
        int whole = determinant(square);
        if (whole == 0) {
            return null;
        }
        int[][] back = new int[square.length][square.length];
        for (int i = 0; i < square.length; i++) {
            for (int j = 0; j < square.length; j++) {
                int sign = (i + j) % 2 == 0 ? 1 : -1;
                back[j][i] = mod(sign * determinant(without(square, i, j)) * inverse(whole));
            }
        }
        return back;
    }

    private int[][] times(int[][] one, int[][] other) {
        int size = one.length;
        int[][] made = new int[size][size];
        for (int i = 0; i < size; i++) {
            for (int j = 0; j < size; j++) {
                for (int k = 0; k < size; k++) {
                    made[i][j] = mod(made[i][j] + one[i][k] * other[k][j]);
                }
            }
        }
        return made;
    }

    private int[][] diagonal(int[] row) {
        int[][] made = new int[row.length][row.length];
        for (int i = 0; i < row.length; i++) {
            made[i][i] = row[i];
        }
        return made;
    }

    private int[][] sSquare(int[] d, int[] t) {
        int[][] s = new int[n.length][n.length];
        for (int i = 0; i < n.length; i++) {
            for (int j = 0; j < n.length; j++) {
                int sum = 0;
                for (int k = 0; k < n.length; k++) {
                    sum += n[i][j][k] * t[k] * d[k];
                }
                s[i][j] = mod(mod(sum) * inverse(t[i]) * inverse(t[j]));
            }
        }
        return s;
    }

    private int bits(int[] d, int[] t) {
        int r = n.length;
        int[] duals = duals(n);
        int[][] s = sSquare(d, t);
        int big = 0;
        int sum = 0;
        for (int i = 0; i < r; i++) {
            big = mod(big + d[i] * d[i]);
            sum = mod(sum + t[i] * d[i] * d[i]);
        }
        int[][] ss = times(s, s);
        int[][] st = times(s, diagonal(Arrays.copyOf(t, r)));
        int[][] third = times(times(st, st), st);
        boolean two = true;
        boolean four = true;
        boolean eight = true;
        for (int i = 0; i < r; i++) {
            eight = eight && s[0][i] != 0;
            for (int j = 0; j < r; j++) {
                two = two && ss[i][j] == (duals[i] == j ? big : 0);
                four = four && third[i][j] == mod(sum * ss[i][j]);
            }
        }
        for (int i = 0; i < r && eight; i++) {
            for (int j = 0; j < r; j++) {
                for (int k = 0; k < r; k++) {
                    int total = 0;
                    for (int l = 0; l < r; l++) {
                        total += mod(s[i][l] * s[j][l] * s[duals[k]][l]) * inverse(s[0][l]);
                    }
                    eight = eight && mod(total) == mod(big * n[i][j][k]);
                }
            }
        }
        return (determinant(s) != 0 ? 1 : 0) + (two ? 2 : 0) + (four ? 4 : 0) + (eight ? 8 : 0);
    }

    public int s(int character, int i, int j) {
        int[] d = theCharacter(character);
        kinds(i, j);
        return sSquare(d, now.t)[i][j];
    }

    public int holds(int character) {
        int[] d = theCharacter(character);
        return duals(n) == null ? NONE : bits(d, now.t);
    }

    public int turned(int character, int i, int k) {
        int[] d = theCharacter(character);
        boolean can = n.length <= 4 && duals(n) != null;
        if (i == NONE && !can) {
            return NONE;
        }
        List<int[]> found = List.of();
        if (can) {
            found = TURNED.computeIfAbsent(key() + Arrays.toString(d), key -> everyTurn(d));
        }
        if (i == NONE) {
            return found.size();
        }
        if (i < 0 || i >= found.size()) {
            throw new NoSuchElementException();
        }
        kinds(k);
        return found.get(i)[k];
    }

    private List<int[]> everyTurn(int[] d) {
        List<int[]> found = new ArrayList<>();
        int[] rest = new int[n.length - 1];
        Arrays.fill(rest, 1);
        boolean more = true;
        while (more) {
            int[] t = new int[n.length];
            t[0] = 1;
            System.arraycopy(rest, 0, t, 1, rest.length);
            if (bits(d, t) == 15) {
                found.add(t);
            }
            more = step(rest, 1, p - 1);
        }
        return found;
    }

    public int letter(int letter) {
        if (now.word.size() == 12 || !List.of(1, 2, -1, -2).contains(letter)) {
            refused++;
            return NONE;
        }
        remember();
        now.word.add(letter);
        return now.word.size();
    }

    /** The letters 1, 2, -1, -2 to c; null if it can't be. */
    private int[][][] letters(int a, int c) {
        int[][] square = square(a, a, a, c);
        int[][] back = square == null ? null : turnBack(square);
        if (back == null) {
            return null;
        }
        int[] rows = new int[square.length];
        int[] rowsBack = new int[square.length];
        int at = 0;
        for (int e = 0; e < n.length; e++) {
            if (n[a][a][e] == 1 && n[e][a][c] == 1) {
                rows[at] = r(a, a, e);
                if (rows[at] == 0) {
                    return null;
                }
                rowsBack[at] = inverse(rows[at]);
                at++;
            }
        }
        int[][] one = diagonal(rows);
        int[][] oneBack = diagonal(rowsBack);
        return new int[][][] {one, times(times(square, one), back), oneBack, times(times(square, oneBack), back)};
    }

    public int braid(int a, int c, int what) {
        kinds(a);
        if (what == 0) {
            kinds(c);
        } else if (what == 1) {
            theCharacter(c);
        } else if (what != 2) {
            throw new NoSuchElementException();
        }
        if (!hasTrees()) {
            return NONE;
        }
        int[] traces = new int[n.length];
        boolean related = true;
        for (int x = 0; x < n.length; x++) {
            int[][][] letters = letters(a, x);
            if (letters == null) {
                return NONE;
            }
            int[] ones = new int[letters[0].length];
            Arrays.fill(ones, 1);
            int[][] whole = diagonal(ones);
            for (int letter : now.word) {
                whole = times(whole, letters[letter > 0 ? letter - 1 : 1 - letter]);
            }
            for (int i = 0; i < whole.length; i++) {
                traces[x] = mod(traces[x] + whole[i][i]);
            }
            int[][] left = times(times(letters[0], letters[1]), letters[0]);
            int[][] right = times(times(letters[1], letters[0]), letters[1]);
            related = related && Arrays.deepEquals(left, right);
        }
        if (what == 2) {
            return related ? 1 : 0;
        }
        if (what == 0) {
            return traces[c];
        }
        int sum = 0;
        for (int x = 0; x < n.length; x++) {
            sum += theCharacter(c)[x] * traces[x];
        }
        return mod(sum);
    }

    public boolean back() {
        if (undo.isEmpty()) {
            return false;
        }
        redo.add(now.copy());
        now = undo.remove(undo.size() - 1);
        return true;
    }

    public boolean again() {
        if (redo.isEmpty()) {
            return false;
        }
        undo.add(now.copy());
        now = redo.remove(redo.size() - 1);
        return true;
    }

    public void image() {
        imageTable = n;
        imageTold = now.copy();
        imageNumbers = new int[] {p, badTexts, refused};
    }

    public boolean restore() {
        if (imageTable == null) {
            return false;
        }
        forget();
        n = imageTable;
        now = imageTold.copy();
        p = imageNumbers[0];
        badTexts = imageNumbers[1];
        refused = imageNumbers[2];
        return true;
    }
}
