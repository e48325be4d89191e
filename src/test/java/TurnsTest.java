/** Promises 25 to 27: S, what holds of S and T, and all turns there are. */
public final class TurnsTest {
    private static final Due DUE = new Due("turns");

    public static void main(String[] args) {
        squares();
        holding();
        allTurns();
        DUE.end();
    }

    /** Promise 25. */
    private static void squares() {
        FuseKinds x = Due.made(2, 1, 1);
        x.field(11);
        x.twist(1, 5);
        for (int c = 0; c < 2; c++) {
            int d = x.character(c, 1);
            DUE.same("S(0, 0)", x.s(c, 0, 0), 1);
            DUE.same("S(0, 1)", x.s(c, 0, 1), d);
            DUE.same("S(1, 0)", x.s(c, 1, 0), d);
            DUE.same("S(1, 1) by t twice", x.s(c, 1, 1) * 25 % 11, (1 + 5 * d) % 11);
        }
        DUE.noSuch("character 2", () -> x.s(2, 0, 0));
        DUE.noSuch("character -1", () -> x.s(-1, 0, 0));
        DUE.noSuch("i", () -> x.s(0, 2, 0));
        DUE.noSuch("j", () -> x.s(0, 0, -1));
        FuseKinds y = Due.of("rank 2;1 1=1;");
        DUE.same("law 0 isn't needed", y.s(1, 1, 1), 1);
    }

    /** Promise 26. */
    private static void holding() {
        FuseKinds x = Due.made(0, 2, 0);
        DUE.same("turns 1", x.holds(0), 4);
        x.field(5);
        x.twist(1, 2);
        DUE.same("all four", x.holds(0), 15);
        x.twist(1, 4);
        DUE.same("t -1: P is 0, and so is S T twice", x.holds(0), 4);
        x.field(3);
        x.twist(1, 2);
        DUE.same("t -1, 3", x.holds(1) < 15, true);
        x.field(2);
        DUE.same("D is 0, all but turning back holds", x.holds(0), 14);
        DUE.noSuch("character 9", () -> x.holds(9));
        DUE.noSuch("character -1", () -> x.holds(-1));
        FuseKinds y = Due.of("rank 2;1 1=1;");
        DUE.same("law 0 is broken", y.holds(0), -1);
        DUE.noSuch("no such character all the same", () -> y.holds(2));
        DUE.same("of one kind", new FuseKinds().holds(0), 15);
        FuseKinds z = Due.made(2, 4, 0);
        DUE.same("five kinds", z.holds(0) >= 0, true);
    }

    /** Two groups of two, multiplied, in the FIELD of 5. */
    private static FuseKinds fours() {
        FuseKinds x = Due.made(0, 2, 0);
        x.keep();
        x.product();
        x.field(5);
        return x;
    }

    /** Promise 27. */
    private static void allTurns() {
        FuseKinds x = fours();
        int many = x.turned(0, -1, 0);
        int at = 0;
        for (int code = 0; code < 64; code++) {
            FuseKinds y = fours();
            int[] t = {1, 1 + code / 16, 1 + code / 4 % 4, 1 + code % 4};
            for (int k = 1; k < 4; k++) {
                y.twist(k, t[k]);
            }
            if (y.holds(0) == 15) {
                for (int k = 0; k < 4; k++) {
                    DUE.same("turn " + at + " of " + k, at < many ? x.turned(0, at, k) : 0, t[k]);
                }
                at++;
            }
        }
        DUE.same("how many", many, at);
        DUE.same("more than none", many > 0, true);
        DUE.same("told turns stay", x.told(2, 3, 0, 0, 0, 0, 0), 1);
        DUE.noSuch("beyond", () -> x.turned(0, many, 0));
        DUE.noSuch("-2", () -> x.turned(0, -2, 0));
        DUE.noSuch("kind 4", () -> x.turned(0, 0, 4));
        DUE.noSuch("kind -1", () -> x.turned(0, 0, -1));
        DUE.noSuch("character 4", () -> x.turned(4, -1, 0));
        DUE.noSuch("character -1", () -> x.turned(-1, -1, 0));
        x.make(0, 5, 0);
        DUE.same("r 5", x.turned(0, -1, 0), -1);
        DUE.noSuch("r 5", () -> x.turned(0, 0, 0));
        Due.read(x, "rank 2;1 1=1;");
        DUE.same("law 0 is broken", x.turned(0, -1, 0), -1);
        DUE.noSuch("law 0 is broken", () -> x.turned(0, 0, 0));
        FuseKinds y = new FuseKinds();
        DUE.same("of one kind", y.turned(0, -1, 0) * 10 + y.turned(0, 0, 0), 11);
        levelTurns(y);
    }

    /** Of level 2 t of 2 is -1 and t of 1 whatever it likes, by both CHARACTERS without a 0. */
    private static void levelTurns(FuseKinds x) {
        x.make(1, 2, 0);
        x.field(17);
        DUE.same("characters of level 2", x.character(-1, 0), 3);
        for (int c = 2; c >= 0; c--) {
            boolean none = x.character(c, 1) == 0;
            DUE.same("turns of level 2", x.turned(c, -1, 0), none ? 0 : 16);
            for (int i = 0; i < 16 && !none; i++) {
                DUE.same("t of 1", x.turned(c, i, 1), i + 1);
                DUE.same("t of 2", x.turned(c, i, 2), 16);
            }
        }
        x.field(7);
        DUE.same("in another field", x.turned(0, -1, 0), x.character(0, 1) == 0 ? 0 : 6);
        x.make(0, 4, 0);
        x.field(17);
        DUE.same("the third law's S by S has no duals in it, so kinds with other duals have none", x.turned(0, -1, 0), 0);
    }
}
