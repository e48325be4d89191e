import java.util.Arrays;
import java.util.NoSuchElementException;

/** Tables of kinds that fuse, with their laws, trees, turns and braids over a small field. */
public final class FuseKinds {
    public static final int NONE = -1;

    private static final int MOST_KINDS = 5;
    private static final int MOST_FUSED = 9;
    private static final int MOST_TREE_KINDS = 3;
    private static final int MOST_TURN_KINDS = 4;
    private static final int MOST_SOLVED_KINDS = 2;
    private static final int MOST_SOLVED_FIELD = 13;
    private static final int MOST_BYTES = 400;
    private static final int FED_BYTES = 20;
    private static final int MOST_WAYS = 1000;

    private final State now;
    private final State image;
    private boolean hasImage;
    private final Table kept;
    private boolean hasKept;
    private final Table spare;
    private final int[] tape;
    private int tapeLength;
    private int faultPlace;
    private final Reader reader;
    private final Lister lister;
    private final Story story;
    private final Numbers numbers;
    private final Characters characters;
    private final Turns turns;
    private final Solver solver;
    private final Braids braids;

    public FuseKinds() {
        now = new State();
        image = new State();
        kept = new Table();
        spare = new Table();
        tape = new int[MOST_BYTES];
        faultPlace = NONE;
        reader = new Reader();
        lister = new Lister();
        story = new Story();
        numbers = new Numbers();
        characters = new Characters();
        turns = new Turns();
        solver = new Solver();
        braids = new Braids();
    }

    // ---- tables told, made and multiplied

    public int feed(int a, int b, int c, int d, int e) {
        if (tapeLength > MOST_BYTES - FED_BYTES) {
            return NONE;
        }
        feedNumber(a);
        feedNumber(b);
        feedNumber(c);
        feedNumber(d);
        feedNumber(e);
        return tapeLength;
    }

    private void feedNumber(int number) {
        for (int shift = 24; shift >= 0 && tapeLength < tape.length; shift -= 8) {
            tape[tapeLength] = (number >>> shift) & 255;
            tapeLength++;
        }
    }

    public int table(int n) throws IllegalArgumentException {
        if (n < 0 || n > tapeLength) {
            throw new IllegalArgumentException("the tape has not so many bytes");
        }
        int fault = reader.read(tape, n, spare);
        tapeLength = 0;
        faultPlace = reader.place;
        if (fault != 0) {
            now.refusedTexts++;
            return fault;
        }
        now.table.copy(spare);
        beginAgain();
        return 0;
    }

    public int fault() {
        return faultPlace;
    }

    public int make(int which, int n, int m) throws IllegalArgumentException {
        if (!canMake(which, n, m)) {
            throw new IllegalArgumentException("no such table is made");
        }
        if (which == 0) {
            now.table.beGroup(n);
        } else if (which == 1) {
            now.table.beLevel(n);
        } else {
            now.table.beNearGroup(n, m);
        }
        beginAgain();
        return now.table.kinds;
    }

    private static boolean canMake(int which, int n, int m) {
        if (which == 0) {
            return n >= 1 && n <= MOST_KINDS;
        }
        if (which == 1) {
            return n >= 0 && n < MOST_KINDS;
        }
        return which == 2 && n >= 1 && n < MOST_KINDS && m >= 0 && m <= MOST_FUSED;
    }

    public void keep() {
        kept.copy(now.table);
        hasKept = true;
    }

    public int product() {
        if (!hasKept || !spare.beProduct(now.table, kept)) {
            return NONE;
        }
        now.table.copy(spare);
        beginAgain();
        return now.table.kinds;
    }

    /** What is told and what was found belong to one TABLE and one FIELD. */
    private void beginAgain() {
        now.forgetTold();
        forgetFound();
    }

    private void forgetFound() {
        story.forget();
        characters.known = false;
        turns.forget();
        solver.known = false;
    }

    public int count(int what) throws NoSuchElementException {
        switch (what) {
            case 0: return now.table.kinds;
            case 1: return now.table.isFree() ? 1 : 0;
            case 2: return numbers.p;
            case 3: return tapeLength;
            case 4: return now.refusedTexts;
            case 5: return now.refusedTold;
            case 6: return lister.amount;
            case 7: return now.letters;
            case 8: return story.done;
            case 9: return story.undone;
            default: throw new NoSuchElementException("nothing such is counted");
        }
    }

    // ---- fusing, laws, sizes and ways

    private boolean isKind(int i) {
        return i >= 0 && i < now.table.kinds;
    }

    private void needKinds(int i, int j, int k) {
        if (!isKind(i) || !isKind(j) || !isKind(k)) {
            throw new NoSuchElementException("no such kind");
        }
    }

    private void needKind(int i) {
        needKinds(i, i, i);
    }

    public int fuses(int i, int j, int k) throws NoSuchElementException {
        needKinds(i, j, k);
        return now.table.at(i, j, k);
    }

    public int law(int law) throws NoSuchElementException {
        switch (law) {
            case 0: {
                int i = now.table.firstWithoutDual();
                return i == NONE ? NONE : 25 * MOST_KINDS * i;
            }
            case 1: return now.table.firstNotAssociative();
            case 2: return now.table.firstNotCommutative();
            case 3: return now.table.firstNotTurnable();
            default: throw new NoSuchElementException("no such law");
        }
    }

    public int dual(int i) throws NoSuchElementException {
        needKind(i);
        return now.table.firstWithoutDual() == NONE ? now.table.duals[i] : NONE;
    }

    public int size(int i) throws NoSuchElementException {
        needKind(i);
        return now.table.sizeOf(i);
    }

    public int ways(int i, int j, int n) throws NoSuchElementException {
        needKinds(i, j, j);
        if (n < 0 || n > MOST_WAYS) {
            throw new NoSuchElementException("not so many times");
        }
        return now.table.waysOf(i, j, n);
    }

    public int list(int rank, int bound) throws IllegalArgumentException {
        int most = rank == 4 ? 2 : 5;
        if (rank < 2 || rank > 4 || bound < 1 || bound > most) {
            throw new IllegalArgumentException("no such list");
        }
        lister.find(rank, bound);
        return lister.amount;
    }

    public int take(int i) throws NoSuchElementException {
        if (i < 0 || i >= lister.amount) {
            throw new NoSuchElementException("no such table in the list");
        }
        lister.fill(i, now.table);
        beginAgain();
        return now.table.kinds;
    }

    // ---- the field and what is told in it

    public void field(int p) throws IllegalArgumentException {
        if (!Numbers.isPrime(p)) {
            throw new IllegalArgumentException("no prime from 2 to 31");
        }
        now.p = p;
        numbers.begin(p);
        beginAgain();
    }

    private void needCharacter(int character) {
        characters.find(now.table, numbers);
        if (character < 0 || character >= characters.amount) {
            throw new NoSuchElementException("no such character");
        }
    }

    public int character(int i, int k) throws NoSuchElementException {
        if (i == NONE) {
            characters.find(now.table, numbers);
            return characters.amount;
        }
        needCharacter(i);
        needKind(k);
        return characters.at(i, k);
    }

    /** All that is told goes through here, so that it can be taken back. */
    private boolean remember(int place, int value) {
        story.add(place, now.valueAt(place), value);
        now.put(place, value);
        return true;
    }

    private boolean refuse() {
        now.refusedTold++;
        return false;
    }

    private boolean isNumber(int v) {
        return v >= 0 && v < numbers.p;
    }

    public boolean tell(int a, int b, int c, int d, int e, int g, int v) throws NoSuchElementException {
        needKinds(a, b, c);
        needKinds(d, e, g);
        if (!now.hasTrees() || !isNumber(v) || a == 0 || b == 0 || c == 0
                || !now.trees.isThere(a, b, c, d, e, g)) {
            return refuse();
        }
        return remember(Trees.place(a, b, c, d, e, g), v);
    }

    public boolean swap(int a, int b, int c, int v) throws NoSuchElementException {
        needKinds(a, b, c);
        if (!now.hasTrees() || !isNumber(v) || a == 0 || b == 0 || now.table.at(a, b, c) != 1) {
            return refuse();
        }
        return remember(State.FIRST_SWAP + Trees.swapPlace(a, b, c), v);
    }

    public boolean twist(int i, int v) throws NoSuchElementException {
        needKind(i);
        if (i == 0 || v == 0 || !isNumber(v)) {
            return refuse();
        }
        return remember(State.FIRST_TURN + i, v);
    }

    public int told(int what, int a, int b, int c, int d, int e, int g) throws NoSuchElementException {
        if (what < 0 || what > 2 || (what != 2 && !now.hasTrees())) {
            throw new NoSuchElementException("nothing such is told");
        }
        needKind(a);
        if (what == 2) {
            return now.valueAt(State.FIRST_TURN + a);
        }
        needKinds(a, b, c);
        if (what == 1) {
            return now.valueAt(State.FIRST_SWAP + Trees.swapPlace(a, b, c));
        }
        needKinds(d, e, g);
        return now.valueAt(Trees.place(a, b, c, d, e, g));
    }

    public int check(int what) throws NoSuchElementException {
        if (what < 0 || what > 3) {
            throw new NoSuchElementException("nothing such is checked");
        }
        if (!now.hasTrees()) {
            return NONE;
        }
        if (what < 2) {
            now.trees.checkPentagons(numbers);
        } else {
            now.trees.checkHexagons(numbers);
        }
        return what == 0 || what == 2 ? now.trees.shapes : now.trees.brokenShapes;
    }

    public int broken(int i) throws NoSuchElementException {
        if (i < 0 || i > 8 || !now.hasTrees()) {
            throw new NoSuchElementException("no such kind of a pentagon");
        }
        now.trees.checkPentagons(numbers);
        return now.trees.brokenShapes == 0 ? NONE : now.trees.firstBroken[i];
    }

    public int solve(int i) throws NoSuchElementException {
        boolean tiny = now.table.kinds <= MOST_SOLVED_KINDS && now.table.isFree()
                && numbers.p <= MOST_SOLVED_FIELD;
        if (tiny && !solver.known) {
            solver.find(now.table, numbers);
        }
        if (i == NONE) {
            return tiny ? solver.amount : NONE;
        }
        if (!tiny || i < 0 || solver.amount == 0 || i >= solver.unknowns) {
            throw new NoSuchElementException("no such number");
        }
        return solver.first[i];
    }

    // ---- turns

    public int s(int character, int i, int j) throws NoSuchElementException {
        needCharacter(character);
        needKinds(i, j, j);
        turns.begin(now.table, numbers, characters, character);
        turns.fill(now.turns);
        return turns.s[5 * i + j];
    }

    public int holds(int character) throws NoSuchElementException {
        needCharacter(character);
        if (now.table.firstWithoutDual() != NONE) {
            return NONE;
        }
        turns.begin(now.table, numbers, characters, character);
        turns.fill(now.turns);
        return turns.lawBits();
    }

    public int turned(int character, int i, int k) throws NoSuchElementException {
        needCharacter(character);
        boolean can = now.table.kinds <= MOST_TURN_KINDS && now.table.firstWithoutDual() == NONE;
        if (can && turns.amounts[character] == NONE) {
            turns.begin(now.table, numbers, characters, character);
            turns.findAll(character);
        }
        if (i == NONE) {
            return can ? turns.amounts[character] : NONE;
        }
        if (!can || i < 0 || i >= turns.amounts[character]) {
            throw new NoSuchElementException("no such turns");
        }
        needKind(k);
        return turns.foundAt(character, i, k);
    }

    // ---- braids

    public int letter(int letter) {
        boolean known = letter == 1 || letter == 2 || letter == -1 || letter == -2;
        if (!known || now.letters >= State.MOST_LETTERS) {
            refuse();
            return NONE;
        }
        remember(State.LETTERS, letter);
        return now.letters;
    }

    public int braid(int a, int c, int what) throws NoSuchElementException {
        needKind(a);
        if (what == 0) {
            needKind(c);
        } else if (what == 1) {
            needCharacter(c);
        } else if (what != 2) {
            throw new NoSuchElementException("nothing such of a braid");
        }
        if (!now.hasTrees() || !braids.run(now, numbers, a)) {
            return NONE;
        }
        if (what == 0) {
            return braids.traces[c];
        }
        return what == 1 ? braidNumber(c) : braids.related ? 1 : 0;
    }

    private int braidNumber(int character) {
        int sum = 0;
        for (int c = 0; c < now.table.kinds; c++) {
            sum += characters.at(character, c) * braids.traces[c];
        }
        return numbers.reduce(sum);
    }

    // ---- taken back and told again

    public boolean back() {
        if (story.done <= 0) {
            return false;
        }
        story.stepBack();
        now.takeBack(story.place[story.done], story.before[story.done]);
        return true;
    }

    public boolean again() {
        if (story.undone <= 0) {
            return false;
        }
        now.put(story.place[story.done], story.after[story.done]);
        story.stepOn();
        return true;
    }

    public void image() {
        image.copy(now);
        hasImage = true;
    }

    public boolean restore() {
        if (!hasImage) {
            return false;
        }
        now.copy(image);
        numbers.begin(now.p);
        forgetFound();
        return true;
    }

    /** A TABLE: N(i, j, k) of its KINDS, its LAWS, SIZES and WAYS. */
    private static final class Table {
        private static final long MILLION = 1000000L;
        private static final long MOST_SIZE = 1000000000L;
        private static final long WAYS_MOD = 1000000007L;

        private int kinds;
        private final int[] n = new int[125];
        private final int[] duals = new int[MOST_KINDS];
        private final long[] row = new long[MOST_KINDS];
        private final long[] next = new long[MOST_KINDS];
        private final int[] weights = new int[25];

        Table() {
            kinds = 1;
            n[0] = 1;
        }

        int at(int i, int j, int k) {
            return n[25 * i + 5 * j + k];
        }

        void put(int i, int j, int k, int many) {
            n[25 * i + 5 * j + k] = many;
        }

        void copy(Table other) {
            kinds = other.kinds;
            System.arraycopy(other.n, 0, n, 0, n.length);
        }

        /** KIND 0 fuses as it does in every TABLE, all others to none. */
        void begin(int rank) {
            kinds = rank;
            Arrays.fill(n, 0);
            for (int j = 0; j < rank; j++) {
                put(0, j, j, 1);
                put(j, 0, j, 1);
            }
        }

        private void fillGroup(int size) {
            for (int i = 0; i < size; i++) {
                for (int j = 0; j < size; j++) {
                    int sum = i + j;
                    put(i, j, sum < size ? sum : sum - size, 1);
                }
            }
        }

        void beGroup(int size) {
            begin(size);
            fillGroup(size);
        }

        void beLevel(int level) {
            begin(level + 1);
            for (int i = 0; i <= level; i++) {
                for (int j = 0; j <= level; j++) {
                    for (int k = Math.abs(i - j); k <= i + j && k <= level; k += 2) {
                        put(i, j, k, i + j + k <= 2 * level ? 1 : 0);
                    }
                }
            }
        }

        void beNearGroup(int size, int many) {
            begin(size + 1);
            fillGroup(size);
            for (int g = 0; g < size; g++) {
                put(g, size, size, 1);
                put(size, g, size, 1);
                put(size, size, g, 1);
            }
            put(size, size, size, many);
        }

        /** False, and nothing that counts is in it, if THE PRODUCT is too much. */
        boolean beProduct(Table one, Table other) {
            int rank = one.kinds * other.kinds;
            if (rank > MOST_KINDS) {
                return false;
            }
            begin(rank);
            for (int i = 0; i < one.kinds; i++) {
                for (int j = 0; j < one.kinds; j++) {
                    for (int k = 0; k < one.kinds; k++) {
                        if (!spread(one.at(i, j, k), other, i, j, k)) {
                            return false;
                        }
                    }
                }
            }
            return true;
        }

        private boolean spread(int many, Table other, int i, int j, int k) {
            int step = other.kinds;
            for (int x = 0; x < step; x++) {
                for (int y = 0; y < step; y++) {
                    for (int z = 0; z < step; z++) {
                        int fused = many * other.at(x, y, z);
                        if (fused > MOST_FUSED) {
                            return false;
                        }
                        put(i * step + x, j * step + y, k * step + z, fused);
                    }
                }
            }
            return true;
        }

        boolean isFree() {
            for (int i = 0; i < kinds; i++) {
                for (int j = 0; j < kinds; j++) {
                    for (int k = 0; k < kinds; k++) {
                        if (at(i, j, k) > 1) {
                            return false;
                        }
                    }
                }
            }
            return true;
        }

        /** The one KIND that fuses with i to KIND 0, once; NONE if it isn't just one. */
        private int partner(int i) {
            int found = NONE;
            for (int j = 0; j < kinds; j++) {
                int many = at(i, j, 0);
                if (many > 1 || (many == 1 && found != NONE)) {
                    return NONE;
                }
                if (many == 1) {
                    found = j;
                }
            }
            return found;
        }

        /** Where LAW 0 is broken first; the duals are known only if it is NONE. */
        int firstWithoutDual() {
            for (int i = 0; i < kinds; i++) {
                int j = partner(i);
                if (j == NONE || partner(j) != i) {
                    return i;
                }
                duals[i] = j;
            }
            return NONE;
        }

        int firstNotAssociative() {
            for (int i = 0; i < kinds; i++) {
                for (int j = 0; j < kinds; j++) {
                    for (int k = 0; k < kinds; k++) {
                        for (int l = 0; l < kinds; l++) {
                            if (!isAssociative(i, j, k, l)) {
                                return 125 * i + 25 * j + 5 * k + l;
                            }
                        }
                    }
                }
            }
            return NONE;
        }

        private boolean isAssociative(int i, int j, int k, int l) {
            int difference = 0;
            for (int e = 0; e < kinds; e++) {
                difference += at(i, j, e) * at(e, k, l) - at(j, k, e) * at(i, e, l);
            }
            return difference == 0;
        }

        int firstNotCommutative() {
            for (int i = 0; i < kinds; i++) {
                for (int j = 0; j < kinds; j++) {
                    for (int k = 0; k < kinds; k++) {
                        if (at(i, j, k) != at(j, i, k)) {
                            return 125 * i + 25 * j + 5 * k;
                        }
                    }
                }
            }
            return NONE;
        }

        int firstNotTurnable() {
            if (firstWithoutDual() != NONE) {
                return NONE;
            }
            for (int i = 0; i < kinds; i++) {
                for (int j = 0; j < kinds; j++) {
                    for (int k = 0; k < kinds; k++) {
                        if (at(i, j, k) != at(duals[i], k, j)) {
                            return 125 * i + 25 * j + 5 * k;
                        }
                    }
                }
            }
            return NONE;
        }

        int sizeOf(int kind) {
            weighSums();
            Arrays.fill(row, MILLION);
            for (int time = 0; time < 100; time++) {
                for (int k = 0; k < kinds; k++) {
                    long sum = 0;
                    for (int j = 0; j < kinds; j++) {
                        sum += weights[5 * j + k] * row[j];
                    }
                    next[k] = sum;
                }
                shrinkSizes();
            }
            return (int) row[kind];
        }

        /** The sum by i of N(i, j, k) is the same in each of the 100 times. */
        private void weighSums() {
            for (int j = 0; j < kinds; j++) {
                for (int k = 0; k < kinds; k++) {
                    int sum = 0;
                    for (int i = 0; i < kinds; i++) {
                        sum += at(i, j, k);
                    }
                    weights[5 * j + k] = sum;
                }
            }
        }

        private void shrinkSizes() {
            long unit = next[0];
            for (int k = 0; k < kinds; k++) {
                long size = unit <= 0 ? 0 : next[k] * MILLION / unit;
                row[k] = Math.min(size, MOST_SIZE);
            }
        }

        int waysOf(int kind, int to, int times) {
            Arrays.fill(row, 0);
            row[0] = 1;
            for (int time = 0; time < times; time++) {
                for (int k = 0; k < kinds; k++) {
                    long sum = 0;
                    for (int l = 0; l < kinds; l++) {
                        sum += row[l] * at(l, kind, k);
                    }
                    next[k] = sum % WAYS_MOD;
                }
                System.arraycopy(next, 0, row, 0, kinds);
            }
            return (int) row[to];
        }
    }

    /** Reads a TABLE from bytes, TOKEN by TOKEN, to its end or its first FAULT. */
    private static final class Reader {
        private static final int END = 0;
        private static final int RANK = 1;
        private static final int EMPTY = 2;
        private static final int NUMBER = 3;
        private static final int LONG_NUMBER = 4;
        private static final int SIGN = 5;
        private static final int WRONG = 6;

        private static final int AT_RANK = 0;
        private static final int AT_RANK_NUMBER = 1;
        private static final int AT_RANK_END = 2;
        private static final int AT_FIRST = 3;
        private static final int AT_SECOND = 4;
        private static final int AT_EQUALS = 5;
        private static final int AT_SUM = 6;
        private static final int AT_EMPTY_END = 7;
        private static final int AT_MORE = 8;
        private static final int AT_PART = 9;

        private int[] text;
        private int length;
        private int at;
        private int start;
        private int token;
        private int value;
        private int expected;
        private boolean ended;
        private int fault;
        private int place;
        private Table table;
        private int first;
        private int second;
        private int toldPairs;

        /** The FAULT, its place in place; 0 and NONE without. */
        int read(int[] bytes, int n, Table into) {
            text = bytes;
            length = n;
            at = 0;
            expected = AT_RANK;
            ended = false;
            fault = 0;
            place = NONE;
            table = into;
            toldPairs = 0;
            for (int step = 0; step <= n && !ended; step++) {
                readToken();
                useToken();
                if (fault != 0) {
                    place = start;
                    ended = true;
                }
            }
            return fault;
        }

        private static boolean isBlank(int sign) {
            return sign == 32 || sign == 10;
        }

        private static boolean isLetter(int sign) {
            return sign >= 'a' && sign <= 'z';
        }

        private static boolean isDigit(int sign) {
            return sign >= '0' && sign <= '9';
        }

        private void readToken() {
            while (at < length && isBlank(text[at])) {
                at++;
            }
            start = at;
            if (at >= length) {
                token = END;
                return;
            }
            int sign = text[at];
            if (isLetter(sign)) {
                readWord();
            } else if (isDigit(sign)) {
                readNumber();
            } else {
                token = sign == '=' || sign == '+' || sign == ';' ? SIGN : WRONG;
                value = sign;
                at++;
            }
        }

        private void readWord() {
            while (at < length && isLetter(text[at])) {
                at++;
            }
            token = isWord("rank") ? RANK : isWord("none") ? EMPTY : WRONG;
        }

        private boolean isWord(String word) {
            if (at - start != word.length()) {
                return false;
            }
            for (int i = 0; i < word.length(); i++) {
                if (text[start + i] != word.charAt(i)) {
                    return false;
                }
            }
            return true;
        }

        private void readNumber() {
            value = 0;
            while (at < length && isDigit(text[at])) {
                if (at - start < 3) {
                    value = 10 * value + text[at] - '0';
                }
                at++;
            }
            token = at - start <= 3 ? NUMBER : LONG_NUMBER;
        }

        private void useToken() {
            switch (expected) {
                case AT_RANK:
                    go(token == RANK, AT_RANK_NUMBER);
                    break;
                case AT_RANK_NUMBER:
                    useRank();
                    break;
                case AT_RANK_END:
                case AT_EMPTY_END:
                    go(isSign(';'), AT_FIRST);
                    break;
                case AT_FIRST:
                    useFirst();
                    break;
                case AT_SECOND:
                    useSecond();
                    break;
                case AT_EQUALS:
                    go(isSign('='), AT_SUM);
                    break;
                case AT_SUM:
                    if (token == EMPTY) {
                        expected = AT_EMPTY_END;
                    } else {
                        usePart();
                    }
                    break;
                case AT_MORE:
                    go(isSign('+') || isSign(';'), isSign('+') ? AT_PART : AT_FIRST);
                    break;
                default:
                    usePart();
                    break;
            }
        }

        private boolean isSign(int sign) {
            return token == SIGN && value == sign;
        }

        private void go(boolean can, int to) {
            if (can) {
                expected = to;
            } else {
                fault = 1;
            }
        }

        private int numberFault() {
            return token == NUMBER ? 0 : token == LONG_NUMBER ? 2 : 1;
        }

        private void useRank() {
            fault = numberFault();
            if (fault == 0 && (value < 1 || value > MOST_KINDS)) {
                fault = 2;
            }
            if (fault == 0) {
                table.begin(value);
                expected = AT_RANK_END;
            }
        }

        private int kindFault(int least) {
            int found = numberFault();
            return found == 0 && (value < least || value >= table.kinds) ? 3 : found;
        }

        private void useFirst() {
            if (token == END) {
                ended = true;
                return;
            }
            fault = kindFault(1);
            first = value;
            expected = AT_SECOND;
        }

        private void useSecond() {
            fault = kindFault(1);
            if (fault != 0) {
                return;
            }
            second = value;
            int pair = 1 << (5 * Math.min(first, second) + Math.max(first, second));
            if ((toldPairs & pair) != 0) {
                fault = 4;
            }
            toldPairs |= pair;
            expected = AT_EQUALS;
        }

        private void usePart() {
            fault = kindFault(0);
            if (fault != 0) {
                return;
            }
            int many = table.at(first, second, value) + 1;
            if (many > MOST_FUSED) {
                fault = 2;
                return;
            }
            table.put(first, second, value, many);
            table.put(second, first, value, many);
            expected = AT_MORE;
        }
    }

    /** THE LIST: its TABLES are kept as rows of their GROUPS' numbers, each in one number. */
    private static final class Lister {
        private static final int MOST_GROUPS = 10;
        private static final int MOST_EQUATIONS = 27;
        private static final int MOST_STEPS = 1000000;
        private static final int[] RENAMINGS = {1, 2, 3, 1, 3, 2, 2, 1, 3, 2, 3, 1, 3, 1, 2, 3, 2, 1};

        private int rank;
        private int most = 1;
        private int amount;
        private int ownDuals;
        private int[] codes = new int[64];
        private final int[] dual = new int[4];
        private final int[] groupOf = new int[64];
        private final int[] firstSets = new int[MOST_GROUPS];
        private int groups;
        private final int[] row = new int[MOST_GROUPS];
        private final int[] equations = new int[MOST_EQUATIONS];
        private final int[] equationsUpTo = new int[MOST_GROUPS + 1];

        void find(int kinds, int bound) {
            rank = kinds;
            most = bound;
            amount = 0;
            arrange(false);
            search();
            ownDuals = amount;
            if (rank > 2) {
                arrange(true);
                search();
            }
        }

        void fill(int index, Table table) {
            arrange(index >= ownDuals);
            int code = codes[index];
            for (int g = groups - 1; g >= 0; g--) {
                row[g] = code % (most + 1);
                code /= most + 1;
            }
            table.begin(rank);
            for (int i = 1; i < rank; i++) {
                for (int j = 1; j < rank; j++) {
                    for (int k = 0; k < rank; k++) {
                        table.put(i, j, k, fused(i, j, k));
                    }
                }
            }
        }

        private static int set(int i, int j, int k) {
            return 16 * i + 4 * j + k;
        }

        /** Duals, GROUPS and the equations of LAW 1 for one of the list's two halves. */
        private void arrange(boolean paired) {
            for (int i = 0; i < rank; i++) {
                dual[i] = i;
            }
            if (paired) {
                dual[rank - 2] = rank - 1;
                dual[rank - 1] = rank - 2;
            }
            groups = 0;
            Arrays.fill(groupOf, NONE);
            for (int i = 1; i < rank; i++) {
                for (int j = i; j < rank; j++) {
                    for (int k = j; k < rank; k++) {
                        if (groupOf[set(i, j, k)] == NONE && groups < MOST_GROUPS) {
                            firstSets[groups] = set(i, j, k);
                            mark(i, j, k);
                            mark(dual[i], dual[j], dual[k]);
                            groups++;
                        }
                    }
                }
            }
        }

        private void mark(int i, int j, int k) {
            groupOf[set(i, j, k)] = groups;
            groupOf[set(i, k, j)] = groups;
            groupOf[set(j, i, k)] = groups;
            groupOf[set(j, k, i)] = groups;
            groupOf[set(k, i, j)] = groups;
            groupOf[set(k, j, i)] = groups;
        }

        private int fused(int i, int j, int k) {
            if (i == 0) {
                return j == k ? 1 : 0;
            }
            if (j == 0) {
                return i == k ? 1 : 0;
            }
            return k == 0 ? (dual[i] == j ? 1 : 0) : row[groupOf[set(i, j, dual[k])]];
        }

        /**
         * LAWS 0, 2 and 3 hold by how N comes from the GROUPS, and LAW 1 where one of the four is 0 or i is k;
         * i and k may be exchanged. Each other equation is looked at as soon as its last number is put.
         */
        private void sortEquations() {
            int many = 0;
            for (int group = 0; group < groups; group++) {
                equationsUpTo[group] = many;
                for (int i = 1; i < rank; i++) {
                    for (int k = i + 1; k < rank; k++) {
                        many = addEquations(i, k, group, many);
                    }
                }
            }
            equationsUpTo[groups] = many;
        }

        private int addEquations(int i, int k, int group, int from) {
            int many = from;
            for (int j = 1; j < rank; j++) {
                for (int l = 1; l < rank; l++) {
                    if (lastGroup(i, j, k, l) == group && many < MOST_EQUATIONS) {
                        equations[many] = 64 * i + set(j, k, l);
                        many++;
                    }
                }
            }
            return many;
        }

        private int lastGroup(int i, int j, int k, int l) {
            int last = 0;
            for (int e = 1; e < rank; e++) {
                last = Math.max(last, groupOf[set(i, j, dual[e])]);
                last = Math.max(last, groupOf[set(e, k, dual[l])]);
                last = Math.max(last, groupOf[set(j, k, dual[e])]);
                last = Math.max(last, groupOf[set(i, e, dual[l])]);
            }
            return last;
        }

        private boolean fitsAt(int group) {
            for (int q = equationsUpTo[group]; q < equationsUpTo[group + 1]; q++) {
                int code = equations[q];
                int i = code >> 6;
                int j = (code >> 4) & 3;
                int k = (code >> 2) & 3;
                int l = code & 3;
                int difference = 0;
                for (int e = 0; e < rank; e++) {
                    difference += fused(i, j, e) * fused(e, k, l) - fused(j, k, e) * fused(i, e, l);
                }
                if (difference != 0) {
                    return false;
                }
            }
            return true;
        }

        private void search() {
            sortEquations();
            int group = 0;
            row[0] = -1;
            for (int step = 0; step < MOST_STEPS && group >= 0; step++) {
                row[group]++;
                if (row[group] > most) {
                    group--;
                } else if (fitsAt(group)) {
                    if (group < groups - 1) {
                        group++;
                        row[group] = -1;
                    } else if (isLeast()) {
                        addRow();
                    }
                }
            }
        }

        private boolean isLeast() {
            for (int from = 0; from < RENAMINGS.length; from += 3) {
                if (keepsDuals(from) && comesBelow(from)) {
                    return false;
                }
            }
            return true;
        }

        private boolean keepsDuals(int from) {
            for (int i = 1; i < rank; i++) {
                int renamed = RENAMINGS[from + i - 1];
                if (renamed >= rank || dual[renamed] != RENAMINGS[from + dual[i] - 1]) {
                    return false;
                }
            }
            return true;
        }

        private boolean comesBelow(int from) {
            for (int g = 0; g < groups; g++) {
                int i = RENAMINGS[from + (firstSets[g] >> 4) - 1];
                int j = RENAMINGS[from + ((firstSets[g] >> 2) & 3) - 1];
                int k = RENAMINGS[from + (firstSets[g] & 3) - 1];
                int renamed = row[groupOf[set(i, j, k)]];
                if (renamed != row[g]) {
                    return renamed < row[g];
                }
            }
            return false;
        }

        private void addRow() {
            int code = 0;
            for (int g = 0; g < groups; g++) {
                code = (most + 1) * code + row[g];
            }
            if (amount >= codes.length) {
                codes = Arrays.copyOf(codes, 2 * codes.length);
            }
            codes[amount] = code;
            amount++;
        }
    }

    /** The FIELD, and squares of its numbers (a row each 5 places on). */
    private static final class Numbers {
        private int p;
        private final int[] inverse = new int[32];
        private final int[] work = new int[25];

        Numbers() {
            begin(7);
        }

        static boolean isPrime(int p) {
            if (p < 2 || p > 31) {
                return false;
            }
            for (int q = 2; q * q <= p; q++) {
                if (p % q == 0) {
                    return false;
                }
            }
            return true;
        }

        void begin(int prime) {
            p = prime;
            inverse[1] = 1;
            for (int x = 2; x < prime && x < inverse.length; x++) {
                inverse[x] = reduce((prime - prime / x) * inverse[prime % x]);
            }
        }

        /** Of a number that is not below 0. */
        int reduce(int x) {
            return p < 2 ? 0 : x % p;
        }

        void multiply(int[] one, int[] other, int n, int[] into) {
            for (int i = 0; i < n; i++) {
                for (int j = 0; j < n; j++) {
                    int sum = 0;
                    for (int k = 0; k < n; k++) {
                        sum += one[5 * i + k] * other[5 * k + j];
                    }
                    into[5 * i + j] = reduce(sum);
                }
            }
        }

        static void beUnit(int[] square, int n) {
            for (int i = 0; i < n; i++) {
                for (int j = 0; j < n; j++) {
                    square[5 * i + j] = i == j ? 1 : 0;
                }
            }
        }

        /** False if it can't be turned back. */
        boolean turnBack(int[] from, int n, int[] into) {
            System.arraycopy(from, 0, work, 0, work.length);
            beUnit(into, n);
            for (int column = 0; column < n; column++) {
                int pivot = column;
                while (pivot < n && work[5 * pivot + column] == 0) {
                    pivot++;
                }
                if (pivot >= n) {
                    return false;
                }
                exchangeRows(work, pivot, column, n);
                exchangeRows(into, pivot, column, n);
                int by = inverse[work[5 * column + column]];
                scaleRow(work, column, by, n);
                scaleRow(into, column, by, n);
                clearColumn(into, column, n);
            }
            return true;
        }

        private static void exchangeRows(int[] square, int one, int other, int n) {
            for (int j = 0; j < n; j++) {
                int held = square[5 * one + j];
                square[5 * one + j] = square[5 * other + j];
                square[5 * other + j] = held;
            }
        }

        private void scaleRow(int[] square, int row, int by, int n) {
            for (int j = 0; j < n; j++) {
                square[5 * row + j] = reduce(square[5 * row + j] * by);
            }
        }

        private void clearColumn(int[] into, int column, int n) {
            for (int i = 0; i < n; i++) {
                int by = work[5 * i + column];
                if (i != column && by != 0) {
                    for (int j = 0; j < n; j++) {
                        work[5 * i + j] = reduce(work[5 * i + j] + (p - by) * work[5 * column + j]);
                        into[5 * i + j] = reduce(into[5 * i + j] + (p - by) * into[5 * column + j]);
                    }
                }
            }
        }
    }

    /** The CHARACTERS of a TABLE; there are never more than KINDS, since they don't depend on one another. */
    private static final class Characters {
        private boolean known;
        private int amount;
        private final int[] rows = new int[25];
        private final int[] values = new int[25];
        private final int[] valueAmounts = new int[MOST_KINDS];
        private final int[] d = new int[MOST_KINDS];
        private final int[] square = new int[25];
        private final int[] unused = new int[25];

        int at(int character, int kind) {
            return rows[5 * character + kind];
        }

        /**
         * A CHARACTER is a row that i's square N(i, j, k) turns to d(i) times itself, so d(i) is one of the few
         * numbers that, taken from the square's diagonal, make it one that can't be turned back.
         */
        void find(Table table, Numbers numbers) {
            if (known) {
                return;
            }
            int tries = 1;
            for (int i = 1; i < table.kinds; i++) {
                findValues(i, table, numbers);
                tries *= valueAmounts[i];
            }
            amount = 0;
            d[0] = 1;
            for (int code = 0; code < tries; code++) {
                int left = code;
                for (int i = table.kinds - 1; i > 0; i--) {
                    d[i] = values[5 * i + left % valueAmounts[i]];
                    left /= valueAmounts[i];
                }
                if (amount < MOST_KINDS && isCharacter(table, numbers)) {
                    System.arraycopy(d, 0, rows, 5 * amount, MOST_KINDS);
                    amount++;
                }
            }
            known = true;
        }

        private void findValues(int i, Table table, Numbers numbers) {
            int many = 0;
            for (int x = 0; x < numbers.p; x++) {
                for (int j = 0; j < table.kinds; j++) {
                    for (int k = 0; k < table.kinds; k++) {
                        int less = j == k ? numbers.p - x : 0;
                        square[5 * j + k] = numbers.reduce(table.at(i, j, k) + less);
                    }
                }
                if (many < MOST_KINDS && !numbers.turnBack(square, table.kinds, unused)) {
                    values[5 * i + many] = x;
                    many++;
                }
            }
            valueAmounts[i] = many;
        }

        private boolean isCharacter(Table table, Numbers numbers) {
            for (int i = 1; i < table.kinds; i++) {
                for (int j = 1; j < table.kinds; j++) {
                    int sum = 0;
                    for (int k = 0; k < table.kinds; k++) {
                        sum += table.at(i, j, k) * d[k];
                    }
                    if (numbers.reduce(sum) != numbers.reduce(d[i] * d[j])) {
                        return false;
                    }
                }
            }
            return true;
        }
    }

    /** F and R of a TABLE of at most three KINDS, with all that are 1 by themselves put in. */
    private static final class Trees {
        private final Table table = new Table();
        private final int[] f = new int[729];
        private final int[] r = new int[27];
        private final int[] nine = new int[9];
        private final int[] five = new int[5];
        private final int[] firstBroken = new int[9];
        private int shapes;
        private int brokenShapes;

        void copy(Trees other) {
            System.arraycopy(other.f, 0, f, 0, f.length);
            System.arraycopy(other.r, 0, r, 0, r.length);
        }

        static int place(int a, int b, int c, int d, int e, int g) {
            return 243 * a + 81 * b + 27 * c + 9 * d + 3 * e + g;
        }

        static int swapPlace(int a, int b, int c) {
            return 9 * a + 3 * b + c;
        }

        boolean isThere(int a, int b, int c, int d, int e, int g) {
            return table.at(a, b, e) == 1 && table.at(e, c, d) == 1
                    && table.at(b, c, g) == 1 && table.at(a, g, d) == 1;
        }

        /** A TABLE of more KINDS has no TREES. */
        void begin() {
            Arrays.fill(f, 0);
            Arrays.fill(r, 0);
            int kinds = table.kinds <= MOST_TREE_KINDS ? table.kinds : 0;
            for (int a = 0; a < kinds; a++) {
                for (int b = 0; b < kinds; b++) {
                    for (int c = 0; c < kinds; c++) {
                        if (a == 0 || b == 0 || c == 0) {
                            putOnes(a, b, c);
                        }
                        if (a == 0 || b == 0) {
                            r[swapPlace(a, b, c)] = table.at(a, b, c);
                        }
                    }
                }
            }
        }

        private void putOnes(int a, int b, int c) {
            for (int d = 0; d < table.kinds; d++) {
                for (int e = 0; e < table.kinds; e++) {
                    for (int g = 0; g < table.kinds; g++) {
                        if (isThere(a, b, c, d, e, g)) {
                            f[place(a, b, c, d, e, g)] = 1;
                        }
                    }
                }
            }
        }

        void checkPentagons(Numbers numbers) {
            shapes = 0;
            brokenShapes = 0;
            for (int a = 0; a < table.kinds; a++) {
                for (int b = 0; b < table.kinds; b++) {
                    for (int c = 0; c < table.kinds; c++) {
                        for (int d = 0; d < table.kinds; d++) {
                            nine[0] = a;
                            nine[1] = b;
                            nine[2] = c;
                            nine[3] = d;
                            checkPentagonsOf(a, b, c, d, numbers);
                        }
                    }
                }
            }
        }

        private void checkPentagonsOf(int a, int b, int c, int d, Numbers numbers) {
            for (int e = 0; e < table.kinds; e++) {
                for (int f = 0; f < table.kinds; f++) {
                    if (table.at(a, b, f) == 1) {
                        for (int g = 0; g < table.kinds; g++) {
                            if (table.at(f, c, g) == 1 && table.at(g, d, e) == 1) {
                                nine[4] = e;
                                nine[5] = f;
                                nine[6] = g;
                                checkPentagonsWith(numbers);
                            }
                        }
                    }
                }
            }
        }

        private void checkPentagonsWith(Numbers numbers) {
            for (int k = 0; k < table.kinds; k++) {
                if (table.at(nine[0], k, nine[4]) == 1) {
                    for (int l = 0; l < table.kinds; l++) {
                        if (table.at(nine[2], nine[3], l) == 1 && table.at(nine[1], l, k) == 1) {
                            nine[7] = k;
                            nine[8] = l;
                            checkPentagon(numbers);
                        }
                    }
                }
            }
        }

        private void checkPentagon(Numbers numbers) {
            shapes++;
            placePentagon();
            if (!pentagonHolds(five, 0, numbers)) {
                if (brokenShapes == 0) {
                    System.arraycopy(nine, 0, firstBroken, 0, nine.length);
                }
                brokenShapes++;
            }
        }

        /** Where a PENTAGON's F stand: two to the left, and three to the right for h 0. */
        void placePentagon() {
            int a = nine[0];
            int b = nine[1];
            int c = nine[2];
            int d = nine[3];
            int e = nine[4];
            int g = nine[6];
            int k = nine[7];
            int l = nine[8];
            five[0] = place(nine[5], c, d, e, g, l);
            five[1] = place(a, b, l, e, nine[5], k);
            five[2] = place(a, b, c, g, nine[5], 0);
            five[3] = place(a, 0, d, e, g, k);
            five[4] = place(b, c, d, k, 0, l);
        }

        boolean pentagonHolds(int[] places, int from, Numbers numbers) {
            int right = 0;
            for (int h = 0; h < table.kinds; h++) {
                right += f[places[from + 2] + h] * f[places[from + 3] + 81 * h] * f[places[from + 4] + 3 * h];
            }
            return numbers.reduce(f[places[from]] * f[places[from + 1]]) == numbers.reduce(right);
        }

        void checkHexagons(Numbers numbers) {
            shapes = 0;
            brokenShapes = 0;
            for (int a = 0; a < table.kinds; a++) {
                for (int b = 0; b < table.kinds; b++) {
                    for (int c = 0; c < table.kinds; c++) {
                        for (int d = 0; d < table.kinds; d++) {
                            checkHexagonsOf(a, b, c, d, numbers);
                        }
                    }
                }
            }
        }

        private void checkHexagonsOf(int a, int b, int c, int d, Numbers numbers) {
            for (int e = 0; e < table.kinds; e++) {
                if (table.at(a, c, e) == 1 && table.at(e, b, d) == 1) {
                    for (int g = 0; g < table.kinds; g++) {
                        if (table.at(b, c, g) == 1 && table.at(a, g, d) == 1) {
                            shapes++;
                            int left = r[swapPlace(a, c, e)] * f[place(a, c, b, d, e, g)] * r[swapPlace(b, c, g)];
                            int before = place(c, a, b, d, e, 0);
                            int right = hexagonSum(before, swapPlace(0, c, d), place(a, b, c, d, 0, g));
                            brokenShapes += numbers.reduce(left) == numbers.reduce(right) ? 0 : 1;
                        }
                    }
                }
            }
        }

        private int hexagonSum(int before, int swapped, int behind) {
            int sum = 0;
            for (int x = 0; x < table.kinds; x++) {
                sum += f[before + x] * r[swapped + 9 * x] * f[behind + 3 * x];
            }
            return sum;
        }
    }

    /** What an IMAGE keeps; all that is told stands at a place of its own. */
    private static final class State {
        private static final int FIRST_SWAP = 729;
        private static final int FIRST_TURN = 756;
        private static final int LETTERS = 761;
        private static final int MOST_LETTERS = 12;

        private final Trees trees;
        private final Table table;
        private final int[] turns = new int[MOST_KINDS];
        private final int[] word = new int[MOST_LETTERS];
        private int letters;
        private int p;
        private int refusedTexts;
        private int refusedTold;

        State() {
            trees = new Trees();
            table = trees.table;
            p = 7;
            forgetTold();
        }

        private void forgetTold() {
            trees.begin();
            Arrays.fill(turns, 1);
            letters = 0;
        }

        void copy(State other) {
            table.copy(other.table);
            trees.copy(other.trees);
            System.arraycopy(other.turns, 0, turns, 0, turns.length);
            System.arraycopy(other.word, 0, word, 0, word.length);
            letters = other.letters;
            p = other.p;
            refusedTexts = other.refusedTexts;
            refusedTold = other.refusedTold;
        }

        boolean hasTrees() {
            return table.kinds <= MOST_TREE_KINDS && table.isFree();
        }

        int valueAt(int place) {
            if (place < FIRST_SWAP) {
                return trees.f[place];
            }
            if (place < FIRST_TURN) {
                return trees.r[place - FIRST_SWAP];
            }
            return place < LETTERS ? turns[place - FIRST_TURN] : 0;
        }

        void put(int place, int value) {
            if (place < FIRST_SWAP) {
                trees.f[place] = value;
            } else if (place < FIRST_TURN) {
                trees.r[place - FIRST_SWAP] = value;
            } else if (place < LETTERS) {
                turns[place - FIRST_TURN] = value;
            } else if (letters < MOST_LETTERS) {
                word[letters] = value;
                letters++;
            }
        }

        void takeBack(int place, int before) {
            if (place < LETTERS) {
                put(place, before);
            } else if (letters > 0) {
                letters--;
            }
        }
    }

    /** What was told last, and behind it what was taken back. */
    private static final class Story {
        private static final int MOST = 100;

        private final int[] place = new int[MOST];
        private final int[] before = new int[MOST];
        private final int[] after = new int[MOST];
        private int done;
        private int undone;

        void forget() {
            done = 0;
            undone = 0;
        }

        void add(int at, int from, int to) {
            if (done >= MOST) {
                System.arraycopy(place, 1, place, 0, MOST - 1);
                System.arraycopy(before, 1, before, 0, MOST - 1);
                System.arraycopy(after, 1, after, 0, MOST - 1);
                done = MOST - 1;
            }
            place[done] = at;
            before[done] = from;
            after[done] = to;
            done++;
            undone = 0;
        }

        void stepBack() {
            done--;
            undone++;
        }

        void stepOn() {
            done++;
            undone--;
        }
    }

    /** SOLVED: how many rows of F hold all PENTAGONS of a TABLE of at most two KINDS, and the first. */
    private static final class Solver {
        private static final int MOST_UNKNOWNS = 5;
        private static final int MOST_PENTAGONS = 32;
        private static final int MOST_STEPS = 1000000;

        private boolean known;
        private int amount;
        private int unknowns;
        private final int[] first = new int[MOST_UNKNOWNS];
        private final int[] unknown = new int[MOST_UNKNOWNS];
        private final int[] row = new int[MOST_UNKNOWNS];
        private final Trees trees = new Trees();
        private final Table table = trees.table;
        private final int[] pentagons = new int[5 * MOST_PENTAGONS];
        private final int[] last = new int[MOST_PENTAGONS];
        private int pentagonAmount;
        private final int[] square = new int[25];
        private final int[] unused = new int[25];

        void find(Table of, Numbers numbers) {
            table.copy(of);
            trees.begin();
            amount = 0;
            unknowns = 0;
            pentagonAmount = 0;
            if (table.kinds == MOST_SOLVED_KINDS) {
                gatherUnknowns();
                gatherPentagons();
            }
            if (unknowns == 0) {
                amount = 1;
            } else {
                search(numbers);
            }
            known = true;
        }

        private void gatherUnknowns() {
            for (int d = 0; d < 2; d++) {
                for (int e = 0; e < 2; e++) {
                    for (int g = 0; g < 2; g++) {
                        if (unknowns < MOST_UNKNOWNS && trees.isThere(1, 1, 1, d, e, g)) {
                            unknown[unknowns] = Trees.place(1, 1, 1, d, e, g);
                            unknowns++;
                        }
                    }
                }
            }
        }

        /** A PENTAGON with a KIND 0 among a, b, c, d only says that an F is itself. */
        private void gatherPentagons() {
            int[] nine = trees.nine;
            Arrays.fill(nine, 1);
            for (int code = 0; code < 32; code++) {
                int e = code >> 4;
                int f = (code >> 3) & 1;
                int g = (code >> 2) & 1;
                int k = (code >> 1) & 1;
                int l = code & 1;
                if (table.at(1, 1, f) == 1 && table.at(f, 1, g) == 1 && table.at(g, 1, e) == 1
                        && table.at(1, 1, l) == 1 && table.at(1, l, k) == 1 && table.at(1, k, e) == 1) {
                    nine[4] = e;
                    nine[5] = f;
                    nine[6] = g;
                    nine[7] = k;
                    nine[8] = l;
                    addPentagon();
                }
            }
        }

        private void addPentagon() {
            trees.placePentagon();
            int[] five = trees.five;
            int latest = Math.max(indexOf(five[0]), indexOf(five[1]));
            for (int h = 0; h < 2; h++) {
                latest = Math.max(latest, indexOf(five[2] + h));
                latest = Math.max(latest, indexOf(five[3] + 81 * h));
                latest = Math.max(latest, indexOf(five[4] + 3 * h));
            }
            System.arraycopy(five, 0, pentagons, 5 * pentagonAmount, 5);
            last[pentagonAmount] = latest;
            pentagonAmount++;
        }

        private int indexOf(int place) {
            for (int u = 0; u < unknowns; u++) {
                if (unknown[u] == place) {
                    return u;
                }
            }
            return NONE;
        }

        private void search(Numbers numbers) {
            int u = 0;
            row[0] = -1;
            for (int step = 0; step < MOST_STEPS && u >= 0; step++) {
                row[u]++;
                if (row[u] >= numbers.p) {
                    u--;
                } else {
                    trees.f[unknown[u]] = row[u];
                    if (pentagonsHold(u, numbers)) {
                        if (u < unknowns - 1) {
                            u++;
                            row[u] = -1;
                        } else if (squareTurnsBack(0, numbers) && squareTurnsBack(1, numbers)) {
                            addRow();
                        }
                    }
                }
            }
        }

        private void addRow() {
            if (amount == 0) {
                System.arraycopy(row, 0, first, 0, unknowns);
            }
            amount++;
        }

        private boolean pentagonsHold(int latest, Numbers numbers) {
            for (int q = 0; q < pentagonAmount; q++) {
                if (last[q] == latest && !trees.pentagonHolds(pentagons, 5 * q, numbers)) {
                    return false;
                }
            }
            return true;
        }

        /** Of a, b, c 1; where one is 0 the square is a single 1. It is square, since the TABLE commutes. */
        private boolean squareTurnsBack(int d, Numbers numbers) {
            int rows = 0;
            for (int e = 0; e < 2; e++) {
                int columns = 0;
                for (int g = 0; g < 2; g++) {
                    if (trees.isThere(1, 1, 1, d, e, g)) {
                        square[5 * rows + columns] = trees.f[Trees.place(1, 1, 1, d, e, g)];
                        columns++;
                    }
                }
                rows += columns > 0 ? 1 : 0;
            }
            return numbers.turnBack(square, rows, unused);
        }
    }

    /** S and T by one CHARACTER, their laws, and ALL TURNS; allSquares is D, turnedSquares P. */
    private static final class Turns {
        private final int[] amounts = new int[MOST_KINDS];
        private final int[] starts = new int[MOST_KINDS];
        private int foundInAll;
        private int[] found = new int[64];
        private Table table;
        private Numbers numbers;
        private int kinds;
        private int allSquares;
        private int turnedSquares;
        private final int[] d = new int[MOST_KINDS];
        private final int[] t = new int[MOST_KINDS];
        private final int[] trial = new int[MOST_KINDS];
        private final int[] weight = new int[MOST_KINDS];
        private final int[] s = new int[25];
        private final int[] twice = new int[25];
        private final int[] st = new int[25];
        private final int[] power = new int[25];
        private final int[] thrice = new int[25];

        Turns() {
            forget();
        }

        /** What was found by a CHARACTER serves until the TABLE or the FIELD is another. */
        void forget() {
            Arrays.fill(amounts, NONE);
            foundInAll = 0;
        }

        void begin(Table of, Numbers in, Characters characters, int character) {
            table = of;
            numbers = in;
            kinds = of.kinds;
            int squares = 0;
            for (int i = 0; i < kinds; i++) {
                d[i] = characters.at(character, i);
                squares += d[i] * d[i];
            }
            allSquares = numbers.reduce(squares);
        }

        /** S and P for these TURNS. */
        void fill(int[] turns) {
            int squares = 0;
            for (int k = 0; k < kinds; k++) {
                t[k] = turns[k];
                weight[k] = numbers.reduce(t[k] * d[k]);
                squares += weight[k] * d[k];
            }
            turnedSquares = numbers.reduce(squares);
            for (int i = 0; i < kinds; i++) {
                for (int j = 0; j < kinds; j++) {
                    int fused = 0;
                    for (int k = 0; k < kinds; k++) {
                        fused += table.at(i, j, k) * weight[k];
                    }
                    int by = numbers.inverse[t[i]] * numbers.inverse[t[j]];
                    s[5 * i + j] = numbers.reduce(numbers.reduce(fused) * by);
                }
            }
        }

        int lawBits() {
            numbers.multiply(s, s, kinds, twice);
            int bits = numbers.turnBack(s, kinds, power) ? 1 : 0;
            bits += twiceIsDuals() ? 2 : 0;
            bits += thriceIsTwice() ? 4 : 0;
            return bits + (winsBack() ? 8 : 0);
        }

        private boolean allHold() {
            numbers.multiply(s, s, kinds, twice);
            return twiceIsDuals() && thriceIsTwice() && winsBack() && numbers.turnBack(s, kinds, power);
        }

        private boolean twiceIsDuals() {
            for (int i = 0; i < kinds; i++) {
                for (int j = 0; j < kinds; j++) {
                    if (twice[5 * i + j] != (table.duals[i] == j ? allSquares : 0)) {
                        return false;
                    }
                }
            }
            return true;
        }

        private boolean thriceIsTwice() {
            for (int i = 0; i < kinds; i++) {
                for (int j = 0; j < kinds; j++) {
                    st[5 * i + j] = numbers.reduce(s[5 * i + j] * t[j]);
                }
            }
            numbers.multiply(st, st, kinds, power);
            numbers.multiply(power, st, kinds, thrice);
            for (int i = 0; i < kinds; i++) {
                for (int j = 0; j < kinds; j++) {
                    if (thrice[5 * i + j] != numbers.reduce(turnedSquares * twice[5 * i + j])) {
                        return false;
                    }
                }
            }
            return true;
        }

        private boolean winsBack() {
            for (int l = 0; l < kinds; l++) {
                if (s[l] == 0) {
                    return false;
                }
            }
            for (int i = 0; i < kinds; i++) {
                for (int j = 0; j < kinds; j++) {
                    for (int k = 0; k < kinds; k++) {
                        if (wonBack(i, j, table.duals[k]) != numbers.reduce(allSquares * table.at(i, j, k))) {
                            return false;
                        }
                    }
                }
            }
            return true;
        }

        private int wonBack(int i, int j, int dualOfK) {
            int total = 0;
            for (int l = 0; l < kinds; l++) {
                int pair = numbers.reduce(s[5 * i + l] * s[5 * j + l]);
                total += numbers.reduce(pair * s[5 * dualOfK + l] * numbers.inverse[s[l]]);
            }
            return numbers.reduce(total);
        }

        int foundAt(int character, int index, int kind) {
            return kind == 0 ? 1 : (found[starts[character] + index] >> (5 * (kind - 1))) & 31;
        }

        /** Begun by this CHARACTER, and with the duals known. */
        void findAll(int character) {
            starts[character] = foundInAll;
            Arrays.fill(trial, 1);
            int rows = canHold() ? rowsAheadOfLast() : 0;
            for (int row = 0; row < rows; row++) {
                tryLast();
                goOn();
            }
            amounts[character] = foundInAll - starts[character];
        }

        /** S(0, l) is d(l) for all TURNS, and S by S can be turned back only where D isn't 0. */
        private boolean canHold() {
            for (int l = 0; l < kinds; l++) {
                if (d[l] == 0) {
                    return false;
                }
            }
            return allSquares != 0;
        }

        private int rowsAheadOfLast() {
            int rows = 1;
            for (int k = 1; k < kinds - 1; k++) {
                rows *= numbers.p - 1;
            }
            return rows;
        }

        private void goOn() {
            for (int k = kinds - 2; k > 0; k--) {
                if (trial[k] < numbers.p - 1) {
                    trial[k]++;
                    return;
                }
                trial[k] = 1;
            }
        }

        /**
         * (S by S)(0, 1) must be 0. By the last turn x it is a sum of what has no x, what is by x and what x
         * divides, so few x are left to be looked at as a whole. A TABLE of one KIND has one row, which holds.
         */
        private void tryLast() {
            int last = kinds - 1;
            if (last == 0) {
                fill(trial);
                addFound();
                return;
            }
            int without = table.at(last, 1, last) * d[last] * d[last];
            int by = 0;
            int divided = 0;
            for (int l = 0; l < last; l++) {
                int part = numbers.reduce(d[l] * numbers.inverse[trial[l]]);
                for (int k = 0; k < last; k++) {
                    without += numbers.reduce(table.at(l, 1, k) * part * trial[k] * d[k]);
                }
                by += table.at(l, 1, last) * part * d[last];
                divided += table.at(last, 1, l) * d[last] * trial[l] * d[l];
            }
            without = numbers.reduce(without);
            by = numbers.reduce(by);
            divided = numbers.reduce(divided);
            for (int x = 1; x < numbers.p; x++) {
                if (numbers.reduce(without + by * x + divided * numbers.inverse[x]) == 0) {
                    trial[last] = x;
                    fill(trial);
                    if (allHold()) {
                        addFound();
                    }
                }
            }
        }

        private void addFound() {
            int code = 0;
            for (int k = kinds - 1; k > 0; k--) {
                code = 32 * code + t[k];
            }
            if (foundInAll >= found.length) {
                found = Arrays.copyOf(found, 2 * found.length);
            }
            found[foundInAll] = code;
            foundInAll++;
        }
    }

    /** BRAIDS of three strands of a KIND: TRACES of the WORD to each c, and the RELATION. */
    private static final class Braids {
        private final int[] traces = new int[MOST_TREE_KINDS];
        private boolean related;
        private int paths;
        private final int[] pathTo = new int[MOST_TREE_KINDS];
        private final int[] treeTo = new int[MOST_TREE_KINDS];
        private final int[] tree = new int[25];
        private final int[] treeBack = new int[25];
        private final int[] one = new int[25];
        private final int[] two = new int[25];
        private final int[] oneBack = new int[25];
        private final int[] twoBack = new int[25];
        private final int[] product = new int[25];
        private final int[] held = new int[25];

        /** False if it can't be. */
        boolean run(State state, Numbers numbers, int a) {
            related = true;
            for (int c = 0; c < state.table.kinds; c++) {
                if (!findPaths(state, a, c) || !layTrees(state.trees, numbers, a, c)) {
                    return false;
                }
                layLetters(state.trees, numbers, a);
                traces[c] = traceOf(state, numbers);
                related = related && isRelated(numbers);
            }
            return true;
        }

        private boolean findPaths(State state, int a, int c) {
            paths = 0;
            int trees = 0;
            for (int x = 0; x < state.table.kinds; x++) {
                boolean isPath = state.table.at(a, a, x) == 1 && state.table.at(x, a, c) == 1;
                boolean isTree = state.table.at(a, a, x) == 1 && state.table.at(a, x, c) == 1;
                if ((isPath || isTree) && state.trees.r[Trees.swapPlace(a, a, x)] == 0) {
                    return false;
                }
                if (isPath) {
                    pathTo[paths] = x;
                    paths++;
                }
                if (isTree) {
                    treeTo[trees] = x;
                    trees++;
                }
            }
            return paths == trees;
        }

        private boolean layTrees(Trees trees, Numbers numbers, int a, int c) {
            for (int i = 0; i < paths; i++) {
                for (int j = 0; j < paths; j++) {
                    tree[5 * i + j] = trees.f[Trees.place(a, a, a, c, pathTo[i], treeTo[j])];
                }
            }
            return numbers.turnBack(tree, paths, treeBack);
        }

        private void layLetters(Trees trees, Numbers numbers, int a) {
            for (int i = 0; i < paths; i++) {
                int swapped = trees.r[Trees.swapPlace(a, a, pathTo[i])];
                for (int j = 0; j < paths; j++) {
                    one[5 * i + j] = i == j ? swapped : 0;
                    oneBack[5 * i + j] = i == j ? numbers.inverse[swapped] : 0;
                }
            }
            for (int i = 0; i < paths; i++) {
                for (int j = 0; j < paths; j++) {
                    int swapped = trees.r[Trees.swapPlace(a, a, treeTo[j])];
                    product[5 * i + j] = numbers.reduce(tree[5 * i + j] * swapped);
                    held[5 * i + j] = numbers.reduce(tree[5 * i + j] * numbers.inverse[swapped]);
                }
            }
            numbers.multiply(product, treeBack, paths, two);
            numbers.multiply(held, treeBack, paths, twoBack);
        }

        private int[] squareOf(int letter) {
            if (letter == 1) {
                return one;
            }
            return letter == 2 ? two : letter == -1 ? oneBack : twoBack;
        }

        private int traceOf(State state, Numbers numbers) {
            Numbers.beUnit(product, paths);
            for (int w = 0; w < state.letters; w++) {
                numbers.multiply(product, squareOf(state.word[w]), paths, held);
                System.arraycopy(held, 0, product, 0, held.length);
            }
            int sum = 0;
            for (int i = 0; i < paths; i++) {
                sum += product[5 * i + i];
            }
            return numbers.reduce(sum);
        }

        private boolean isRelated(Numbers numbers) {
            numbers.multiply(one, two, paths, held);
            numbers.multiply(held, one, paths, product);
            numbers.multiply(two, held, paths, tree);
            for (int i = 0; i < paths; i++) {
                for (int j = 0; j < paths; j++) {
                    if (product[5 * i + j] != tree[5 * i + j]) {
                        return false;
                    }
                }
            }
            return true;
        }
    }
}
