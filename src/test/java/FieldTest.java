/** Promises 16 to 24: the field, characters, trees told, pentagons, hexagons and what is solved. */
public final class FieldTest {
    private static final Due DUE = new Due("field");

    public static void main(String[] args) {
        fields();
        characters();
        trees();
        swaps();
        twists();
        toldOnes();
        eachInItsPlace();
        checks();
        brokenOnes();
        solutions();
        DUE.end();
    }

    /** The golden TABLE in the FIELD of 11 with an F that holds all PENTAGONS. */
    private static FuseKinds golden() {
        FuseKinds x = Due.made(2, 1, 1);
        x.field(11);
        x.tell(1, 1, 1, 1, 0, 0, 7);
        x.tell(1, 1, 1, 1, 0, 1, 1);
        x.tell(1, 1, 1, 1, 1, 0, 7);
        x.tell(1, 1, 1, 1, 1, 1, 4);
        x.tell(1, 1, 1, 0, 1, 1, 1);
        return x;
    }

    /** Promise 16. */
    private static void fields() {
        FuseKinds x = new FuseKinds();
        String primes = " 2 3 5 7 11 13 17 19 23 29 31 ";
        for (int p = -3; p < 60; p++) {
            int of = p;
            if (primes.contains(" " + p + " ")) {
                x.field(p);
                DUE.same("p", x.count(2), p);
            } else {
                DUE.badArgument("field " + p, () -> {
                    x.field(of);
                    return 0;
                });
            }
        }
        DUE.same("p stays", x.count(2), 31);
        FuseKinds y = golden();
        y.swap(1, 1, 0, 5);
        y.twist(1, 3);
        y.letter(1);
        y.back();
        y.field(11);
        DUE.same("F is 0", y.told(0, 1, 1, 1, 1, 0, 0), 0);
        DUE.same("F that is 1 by itself", y.told(0, 1, 0, 1, 0, 1, 1), 1);
        DUE.same("R is 0", y.told(1, 1, 1, 0, 0, 0, 0), 0);
        DUE.same("t is 1", y.told(2, 1, 0, 0, 0, 0, 0), 1);
        DUE.same("nothing back, nothing again, no word", y.count(7) + y.count(8) + y.count(9), 0);
        DUE.same("the table stays", y.fuses(1, 1, 1), 1);
    }

    /** Promise 17. */
    private static void characters() {
        FuseKinds x = Due.made(0, 5, 0);
        x.field(11);
        DUE.same("of the group of 5", x.character(-1, 0), 5);
        int[] roots = {1, 3, 4, 5, 9};
        for (int i = 0; i < 5; i++) {
            int power = 1;
            for (int k = 0; k < 5; k++) {
                DUE.same("d", x.character(i, k), power);
                power = power * roots[i] % 11;
            }
        }
        x.field(7);
        DUE.same("only one in the field of 7", x.character(-1, 0), 1);
        x.field(5);
        DUE.same("only one in the field of 5", x.character(-1, 0), 1);
        DUE.noSuch("character 1", () -> x.character(1, 0));
        DUE.noSuch("character -2", () -> x.character(-2, 0));
        DUE.noSuch("kind 5", () -> x.character(0, 5));
        DUE.noSuch("kind -1", () -> x.character(0, -1));
        FuseKinds y = Due.of("rank 2;");
        DUE.same("where nothing fuses d is 0", y.character(-1, 0) * 10 + y.character(0, 1), 10);
        y.make(2, 1, 1);
        DUE.same("none", y.character(-1, 0), 0);
        DUE.noSuch("of none", () -> y.character(0, 0));
        DUE.same("one kind has one", new FuseKinds().character(-1, 0), 1);
    }

    /** Promise 18. */
    private static void trees() {
        FuseKinds x = golden();
        DUE.same("told", x.told(0, 1, 1, 1, 1, 1, 1), 4);
        DUE.same("0", x.tell(1, 1, 1, 1, 1, 1, 0), true);
        DUE.same("p - 1", x.tell(1, 1, 1, 1, 1, 1, 10), true);
        DUE.same("now", x.told(0, 1, 1, 1, 1, 1, 1), 10);
        DUE.same("none is refused", x.count(5), 0);
        DUE.same("p", x.tell(1, 1, 1, 1, 1, 1, 11), false);
        DUE.same("-1", x.tell(1, 1, 1, 1, 1, 1, -1), false);
        DUE.same("it isn't there", x.tell(1, 1, 1, 0, 0, 0, 1), false);
        DUE.same("1 by itself: a", x.tell(0, 1, 1, 1, 1, 1, 1), false);
        DUE.same("1 by itself: b", x.tell(1, 0, 1, 1, 1, 1, 1), false);
        DUE.same("1 by itself: c", x.tell(1, 1, 0, 1, 1, 1, 1), false);
        DUE.same("refused", x.count(5), 6);
        DUE.same("nothing changed", x.told(0, 1, 1, 1, 1, 1, 1), 10);
        for (int at = 0; at < 6; at++) {
            int[] of = {1, 1, 1, 1, 1, 1};
            of[at] = 2;
            DUE.noSuch("kind 2 at " + at, () -> x.tell(of[0], of[1], of[2], of[3], of[4], of[5], 1));
            of[at] = -1;
            DUE.noSuch("kind -1 at " + at, () -> x.tell(of[0], of[1], of[2], of[3], of[4], of[5], 1));
        }
        DUE.same("what throws isn't refused", x.count(5), 6);
        x.make(0, 4, 0);
        DUE.same("r 4", x.tell(1, 1, 1, 3, 2, 2, 1), false);
        x.make(2, 1, 2);
        DUE.same("not free", x.tell(1, 1, 1, 1, 0, 0, 1), false);
        DUE.same("both refused", x.count(5), 8);
        DUE.noSuch("not free and no such kind", () -> x.tell(1, 1, 1, 1, 0, 2, 1));
        x.make(0, 3, 0);
        DUE.same("of three kinds", x.tell(2, 2, 2, 0, 1, 1, 5), true);
        DUE.same("it stands", x.told(0, 2, 2, 2, 0, 1, 1), 5);
    }

    /** Promise 19. */
    private static void swaps() {
        FuseKinds x = golden();
        DUE.same("told", x.swap(1, 1, 0, 10), true);
        DUE.same("0", x.swap(1, 1, 1, 0), true);
        DUE.same("R", x.told(1, 1, 1, 0, 0, 0, 0), 10);
        DUE.same("p", x.swap(1, 1, 0, 11), false);
        DUE.same("-1", x.swap(1, 1, 0, -1), false);
        DUE.same("1 by itself", x.swap(0, 1, 1, 1), false);
        DUE.same("1 by itself", x.swap(1, 0, 1, 1), false);
        DUE.same("refused", x.count(5), 4);
        DUE.noSuch("a", () -> x.swap(2, 1, 0, 1));
        DUE.noSuch("b", () -> x.swap(1, 2, 0, 1));
        DUE.noSuch("c", () -> x.swap(1, 1, -1, 1));
        x.make(0, 3, 0);
        DUE.same("it isn't there", x.swap(1, 1, 0, 1), false);
        x.make(0, 4, 0);
        DUE.same("r 4", x.swap(1, 1, 2, 1), false);
        x.make(2, 2, 2);
        DUE.same("not free", x.swap(1, 1, 0, 1), false);
        DUE.same("all refused", x.count(5), 7);
    }

    /** Promise 20. */
    private static void twists() {
        FuseKinds x = Due.made(2, 4, 9);
        DUE.same("any table", x.twist(4, 6), true);
        DUE.same("t", x.told(2, 4, 0, 0, 0, 0, 0), 6);
        DUE.same("1", x.twist(4, 1), true);
        DUE.same("0", x.twist(4, 0), false);
        DUE.same("p", x.twist(4, 7), false);
        DUE.same("of kind 0", x.twist(0, 1), false);
        DUE.same("refused", x.count(5), 3);
        DUE.noSuch("kind 5", () -> x.twist(5, 1));
        DUE.noSuch("kind -1", () -> x.twist(-1, 1));
        DUE.same("of kind 0 it is 1", x.told(2, 0, 0, 0, 0, 0, 0), 1);
    }

    /** Promise 21. */
    private static void toldOnes() {
        FuseKinds x = golden();
        DUE.same("F", x.told(0, 1, 1, 1, 1, 1, 0), 7);
        DUE.same("1 by itself", x.told(0, 1, 0, 1, 1, 1, 1), 1);
        DUE.same("isn't there", x.told(0, 1, 1, 1, 0, 0, 0), 0);
        DUE.same("isn't there", x.told(0, 0, 1, 1, 1, 0, 0), 0);
        DUE.same("R by itself", x.told(1, 0, 1, 1, 9, 9, 9), 1);
        DUE.same("R that isn't there", x.told(1, 0, 1, 0, 9, 9, 9), 0);
        DUE.same("R at first", x.told(1, 1, 1, 1, 9, 9, 9), 0);
        DUE.same("t, of a alone", x.told(2, 1, 9, 9, 9, 9, 9), 1);
        DUE.noSuch("what 3", () -> x.told(3, 1, 1, 1, 1, 1, 1));
        DUE.noSuch("what -1", () -> x.told(-1, 1, 1, 1, 1, 1, 1));
        DUE.noSuch("t of 2", () -> x.told(2, 2, 0, 0, 0, 0, 0));
        DUE.noSuch("R of c 2", () -> x.told(1, 1, 1, 2, 0, 0, 0));
        DUE.noSuch("F of d 2", () -> x.told(0, 1, 1, 1, 2, 0, 0));
        DUE.noSuch("F of e 2", () -> x.told(0, 1, 1, 1, 0, 2, 0));
        DUE.noSuch("F of g -1", () -> x.told(0, 1, 1, 1, 0, 0, -1));
        x.make(2, 1, 2);
        DUE.noSuch("F, not free", () -> x.told(0, 0, 0, 0, 0, 0, 0));
        DUE.noSuch("R, not free", () -> x.told(1, 0, 0, 0, 0, 0, 0));
        DUE.same("t, not free", x.told(2, 1, 0, 0, 0, 0, 0), 1);
        x.make(0, 4, 0);
        DUE.noSuch("F, r 4", () -> x.told(0, 0, 0, 0, 0, 0, 0));
        DUE.noSuch("R, r 4", () -> x.told(1, 0, 0, 0, 0, 0, 0));
    }

    /** Promise 21, all F and R: none stands where another one does, or where none is there. */
    private static void eachInItsPlace() {
        for (int a = 0; a < 3; a++) {
            FuseKinds x = Due.of("rank 3;1 1=0+1+2;1 2=0+1+2;2 2=0+1+2;");
            x.field(31);
            int tells = 0;
            for (int code = 0; code < 729; code++) {
                int[] k = kindsOf(code);
                boolean isNew = k[0] * k[1] * k[2] > 0 && isThere(k);
                if (isNew && x.tell(k[0], k[1], k[2], k[3], k[4], k[5], 2 + code % 29)) {
                    tells++;
                }
                if (code < 27 && k[3] * k[4] > 0 && x.swap(k[3], k[4], k[5], 2 + code)) {
                    tells++;
                }
            }
            DUE.same("told, of F and of R", tells, 132 + 12);
            for (int code = 243 * a; code < 243 * a + 243; code++) {
                int[] k = kindsOf(code);
                int due = !isThere(k) ? 0 : k[0] * k[1] * k[2] == 0 ? 1 : 2 + code % 29;
                DUE.same("F at " + code, x.told(0, k[0], k[1], k[2], k[3], k[4], k[5]), due);
            }
            for (int code = 0; code < 27; code++) {
                int[] k = kindsOf(code);
                int due = !fuses(k[3], k[4], k[5]) ? 0 : k[3] * k[4] == 0 ? 1 : 2 + code;
                DUE.same("R at " + code, x.told(1, k[3], k[4], k[5], 0, 0, 0), due);
            }
        }
    }

    private static int[] kindsOf(int code) {
        return new int[] {code / 243, code / 81 % 3, code / 27 % 3, code / 9 % 3, code / 3 % 3, code % 3};
    }

    /** In the TABLE in which all but KIND 0 fuse to all. */
    private static boolean fuses(int i, int j, int k) {
        return i * j > 0 || i + j == k;
    }

    private static boolean isThere(int[] k) {
        return fuses(k[0], k[1], k[4]) && fuses(k[4], k[2], k[3]) && fuses(k[1], k[2], k[5])
            && fuses(k[0], k[5], k[3]);
    }

    /** Promise 22. */
    private static void checks() {
        FuseKinds x = Due.made(0, 3, 0);
        DUE.same("pentagons of a group of 3", x.check(0), 81);
        DUE.same("hexagons of a group of 3", x.check(2), 27);
        for (int code = 0; code < 8; code++) {
            int a = 1 + (code >> 2);
            int b = 1 + (code >> 1 & 1);
            int c = 1 + (code & 1);
            x.tell(a, b, c, (a + b + c) % 3, (a + b) % 3, (b + c) % 3, 1);
            x.swap(a, b, (a + b) % 3, a == b ? 2 : 4);
        }
        DUE.same("F 1 holds", x.check(1), 0);
        DUE.same("R of a cube's root holds", x.check(3), 0);
        x.swap(1, 1, 2, 3);
        DUE.same("another doesn't", x.check(3) > 0, true);
        DUE.same("which is no pentagon's fault", x.check(1), 0);
        FuseKinds y = golden();
        DUE.same("golden pentagons hold", y.check(1), 0);
        y.tell(1, 1, 1, 1, 1, 1, 5);
        DUE.same("or are broken", y.check(1) > 0, true);
        DUE.noSuch("check 4", () -> y.check(4));
        DUE.noSuch("check -1", () -> y.check(-1));
        y.make(2, 1, 2);
        DUE.same("not free", y.check(0) + y.check(1) + y.check(2) + y.check(3), -4);
        DUE.noSuch("check 4, not free", () -> y.check(4));
        y.make(0, 4, 0);
        DUE.same("r 4", y.check(0), -1);
        DUE.same("of one kind", new FuseKinds().check(0) * 10 + new FuseKinds().check(1), 10);
    }

    /** Promise 23. */
    private static void brokenOnes() {
        FuseKinds x = Due.made(0, 2, 0);
        int[] first = {1, 1, 1, 1, 0, 0, 1, 1, 0};
        for (int i = 0; i < 9; i++) {
            DUE.same("first broken " + i, x.broken(i), first[i]);
        }
        x.tell(1, 1, 1, 1, 0, 0, 6);
        DUE.same("none is", x.broken(8), -1);
        DUE.noSuch("broken 9", () -> x.broken(9));
        DUE.noSuch("broken -1", () -> x.broken(-1));
        x.make(0, 4, 0);
        DUE.noSuch("r 4", () -> x.broken(0));
        x.make(2, 1, 2);
        DUE.noSuch("not free", () -> x.broken(0));
    }

    /** Promise 24. */
    private static void solutions() {
        FuseKinds x = golden();
        DUE.same("golden, 11", x.solve(-1), 20);
        int[] first = {1, 3, 1, 3, 8};
        for (int i = 0; i < 5; i++) {
            DUE.same("first " + i, x.solve(i), first[i]);
        }
        DUE.same("F stays", x.told(0, 1, 1, 1, 1, 0, 0), 7);
        DUE.noSuch("solve 5", () -> x.solve(5));
        DUE.noSuch("solve -2", () -> x.solve(-2));
        x.field(13);
        DUE.same("golden, 13", x.solve(-1), 0);
        DUE.noSuch("no first", () -> x.solve(0));
        x.field(17);
        DUE.same("p above 13", x.solve(-1), -1);
        DUE.noSuch("p above 13", () -> x.solve(0));
        x.field(5);
        DUE.same("golden, 5", x.solve(-1), 4);
        x.make(0, 3, 0);
        DUE.same("r 3", x.solve(-1), -1);
        x.make(2, 1, 2);
        DUE.same("not free", x.solve(-1), -1);
        Due.read(x, "rank 2;1 1=1;");
        DUE.same("1 by 1 is 1", x.solve(-1) * 10 + x.solve(0), 11);
        Due.read(x, "rank 2;");
        DUE.same("no F to be solved", x.solve(-1), 1);
        DUE.noSuch("no number", () -> x.solve(0));
        FuseKinds y = Due.made(0, 2, 0);
        DUE.same("1 and -1", y.solve(-1) * 10 + y.solve(0), 21);
        y.field(2);
        DUE.same("which are one", y.solve(-1), 1);
    }
}
