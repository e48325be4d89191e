/** Promises 28 and 29: the word and its braid. */
public final class BraidsTest {
    private static final Due DUE = new Due("braids");

    public static void main(String[] args) {
        letters();
        groupBraids();
        goldenBraids();
        refusedBraids();
        DUE.end();
    }

    /** Promise 28. */
    private static void letters() {
        FuseKinds x = Due.made(0, 5, 0);
        int[] four = {1, 2, -1, -2};
        for (int n = 0; n < 12; n++) {
            DUE.same("letter " + n, x.letter(four[n % 4]), n + 1);
        }
        DUE.same("the thirteenth", x.letter(1), -1);
        DUE.same("letters", x.count(7), 12);
        x.back();
        int[] bad = {0, 3, -3, Integer.MIN_VALUE, Integer.MAX_VALUE};
        for (int letter : bad) {
            DUE.same("letter " + letter, x.letter(letter), -1);
        }
        DUE.same("refused", x.count(5), 6);
        DUE.same("a twelfth again", x.letter(2), 12);
    }

    /** Promise 29, where each square has but one number. */
    private static void groupBraids() {
        FuseKinds x = Due.made(0, 2, 0);
        DUE.same("F and R 0", x.braid(1, 1, 0), -1);
        x.tell(1, 1, 1, 1, 0, 0, 6);
        DUE.same("R 0", x.braid(1, 1, 2), -1);
        x.swap(1, 1, 0, 3);
        DUE.same("the empty word", x.braid(1, 1, 0), 1);
        DUE.same("no path", x.braid(1, 0, 0), 0);
        x.letter(1);
        x.letter(2);
        x.letter(2);
        DUE.same("3 by 3 by 3", x.braid(1, 1, 0), 6);
        x.letter(-2);
        DUE.same("and back", x.braid(1, 1, 0), 2);
        DUE.same("number by 1, 1", x.braid(1, 0, 1), 2);
        DUE.same("number by 1, -1", x.braid(1, 1, 1), 5);
        DUE.same("relation", x.braid(1, 99, 2), 1);
        DUE.same("of kind 0", x.braid(0, 0, 0), 1);
        DUE.noSuch("a", () -> x.braid(2, 0, 0));
        DUE.noSuch("a below 0", () -> x.braid(-1, 0, 2));
        DUE.noSuch("c", () -> x.braid(1, 2, 0));
        DUE.noSuch("c below 0", () -> x.braid(1, -1, 0));
        DUE.noSuch("character", () -> x.braid(1, 2, 1));
        DUE.noSuch("what 3", () -> x.braid(1, 0, 3));
        DUE.noSuch("what -1", () -> x.braid(1, 0, -1));
    }

    /** F of the golden TABLE in the FIELD of 11, with R that are looked for until all HEXAGONS hold. */
    private static void goldenBraids() {
        FuseKinds x = Due.made(2, 1, 1);
        x.field(11);
        int[] f = new int[5];
        for (int i = 0; i < 5; i++) {
            f[i] = x.solve(i);
        }
        x.tell(1, 1, 1, 0, 1, 1, f[0]);
        x.tell(1, 1, 1, 1, 0, 0, f[1]);
        x.tell(1, 1, 1, 1, 0, 1, f[2]);
        x.tell(1, 1, 1, 1, 1, 0, f[3]);
        x.tell(1, 1, 1, 1, 1, 1, f[4]);
        DUE.same("pentagons", x.check(1), 0);
        int held = 0;
        for (int zero = 1; zero < 11; zero++) {
            for (int one = 1; one < 11; one++) {
                x.swap(1, 1, 0, zero);
                x.swap(1, 1, 1, one);
                boolean holds = x.check(3) == 0;
                held += holds ? 1 : 0;
                if (holds) {
                    DUE.same("the relation by hexagons", x.braid(1, 0, 2), 1);
                    words(x, f, zero, one);
                }
            }
        }
        DUE.same("R that hold", held, 2);
        x.swap(1, 1, 0, 1);
        x.swap(1, 1, 1, 3);
        DUE.same("no hexagons, no relation", x.braid(1, 0, 2), 0);
        x.tell(1, 1, 1, 1, 0, 0, 0);
        x.tell(1, 1, 1, 1, 0, 1, 0);
        DUE.same("F can't be turned back", x.braid(1, 0, 0), -1);
        DUE.same("but of kind 0", x.braid(0, 0, 2), 1);
    }

    private static void words(FuseKinds x, int[] f, int zero, int one) {
        DUE.same("empty to 0", x.braid(1, 0, 0), 1);
        DUE.same("empty to 1", x.braid(1, 1, 0), 2);
        x.letter(1);
        DUE.same("1 to 1", x.braid(1, 1, 0), (zero + one) % 11);
        DUE.same("1 to 0", x.braid(1, 0, 0), one);
        x.back();
        x.letter(2);
        DUE.same("2 to 1", x.braid(1, 1, 0), (zero + one) % 11);
        x.letter(1);
        int inverse = 0;
        int whole = Math.floorMod(f[1] * f[4] - f[2] * f[3], 11);
        for (int i = 1; i < 11; i++) {
            inverse = i * whole % 11 == 1 ? i : inverse;
        }
        int first = (f[1] * zero * f[4] - f[2] * one * f[3]) * inverse;
        int second = (f[4] * one * f[1] - f[3] * zero * f[2]) * inverse;
        DUE.same("2 1 to 1", x.braid(1, 1, 0), Math.floorMod(first * zero + second * one, 11));
        x.letter(-1);
        x.letter(-2);
        DUE.same("all back", x.braid(1, 1, 0), 2);
        int d = x.character(1, 1);
        DUE.same("its number", x.braid(1, 1, 1), (1 + 2 * d) % 11);
        for (int n = 0; n < 4; n++) {
            x.back();
        }
    }

    private static void refusedBraids() {
        FuseKinds x = Due.made(2, 1, 2);
        DUE.same("not free", x.braid(1, 0, 0), -1);
        DUE.same("not free", x.braid(1, 7, 2), -1);
        DUE.noSuch("not free, no such kind", () -> x.braid(2, 0, 0));
        x.make(0, 4, 0);
        DUE.same("r 4", x.braid(0, 0, 0), -1);
        DUE.same("r 4", x.braid(0, 0, 1), -1);
        DUE.noSuch("r 4, no such character", () -> x.braid(0, 9, 1));
        DUE.noSuch("r 4, another what", () -> x.braid(0, 0, 9));
    }
}
