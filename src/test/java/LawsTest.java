/** Promises 10 to 15: laws, duals, sizes, ways, and the list of all tables. */
public final class LawsTest {
    private static final Due DUE = new Due("laws");

    public static void main(String[] args) {
        laws();
        duals();
        sizes();
        ways();
        lists();
        taking();
        DUE.end();
    }

    private static void law(String text, int... due) {
        FuseKinds x = Due.of(text);
        for (int law = 0; law < 4; law++) {
            DUE.same("law " + law + " of " + text, x.law(law), due[law]);
        }
    }

    /** Promise 10. */
    private static void laws() {
        law("rank 1;", -1, -1, -1, -1);
        law("rank 2;", 125, -1, -1, -1);
        law("rank 2;1 1=0+1;", -1, -1, -1, -1);
        law("rank 2;1 1=0+0;", 125, -1, -1, -1);
        law("rank 3;1 1=0+2;2 2=0;1 2=none;", -1, 160, -1, 160);
        law("rank 3;1 1=0;1 2=0;2 2=0;", 125, 161, -1, -1);
        law("rank 3;1 2=0;2 2=0;", 125, 161, -1, -1);
        law("rank 3;1 1=0;", 250, 162, -1, -1);
        law("rank 3;1 2=0;1 1=2;2 2=1;", -1, -1, -1, -1);
        law("rank 4;1 1=0;2 3=0;", -1, 162, -1, -1);
        FuseKinds x = new FuseKinds();
        DUE.noSuch("law 4", () -> x.law(4));
        DUE.noSuch("law -1", () -> x.law(-1));
    }

    /** Promise 11. */
    private static void duals() {
        FuseKinds x = Due.made(0, 5, 0);
        for (int i = 0; i < 5; i++) {
            DUE.same("dual in the group", x.dual(i), (5 - i) % 5);
        }
        DUE.noSuch("dual 5", () -> x.dual(5));
        DUE.noSuch("dual -1", () -> x.dual(-1));
        FuseKinds y = Due.of("rank 3;1 1=0;");
        DUE.same("law 0 is broken by 2, so 1 has none", y.dual(1), -1);
        DUE.same("nor 0", y.dual(0), -1);
        DUE.noSuch("no such kind all the same", () -> y.dual(3));
    }

    /** Promise 12. */
    private static void sizes() {
        FuseKinds x = Due.made(2, 1, 1);
        DUE.same("golden", x.size(1), 1618033);
        DUE.same("of 0", x.size(0), 1000000);
        x.make(1, 4, 0);
        DUE.same("of level 4", x.size(1), 1732050);
        DUE.same("of level 4", x.size(2), 1999999);
        DUE.noSuch("size 5", () -> x.size(5));
        DUE.noSuch("size -1", () -> x.size(-1));
        FuseKinds y = Due.of("rank 2;1 1=1+1+1+1+1+1+1+1+1;");
        DUE.same("at most", y.size(1), 1000000000);
        DUE.same("0 ahead of it", y.size(0), 1000000);
        FuseKinds z = Due.of("rank 2;");
        DUE.same("no product", z.size(1), 101000000);
    }

    /** Promise 13. */
    private static void ways() {
        FuseKinds x = Due.made(2, 1, 1);
        int[] fibonacci = {1, 0, 1, 1, 2, 3, 5, 8};
        for (int n = 0; n < fibonacci.length; n++) {
            DUE.same("ways to 0 of " + n, x.ways(1, 0, n), fibonacci[n]);
        }
        DUE.same("of kind 0", x.ways(0, 0, 1000), 1);
        DUE.same("of kind 0 to 1", x.ways(0, 1, 7), 0);
        long before = 1;
        long now = 0;
        for (int n = 1; n < 1000; n++) {
            long next = (before + now) % 1000000007L;
            before = now;
            now = next;
        }
        DUE.same("mod 1000000007", x.ways(1, 0, 1000), (int) now);
        DUE.noSuch("n 1001", () -> x.ways(1, 1, 1001));
        DUE.noSuch("n -1", () -> x.ways(1, 1, -1));
        DUE.noSuch("i 2", () -> x.ways(2, 1, 1));
        DUE.noSuch("j 2", () -> x.ways(1, 2, 1));
    }

    /** Promise 14. */
    private static void lists() {
        FuseKinds x = new FuseKinds();
        int[][] due = {{2, 3, 4, 5, 6}, {4, 7, 11, 17, 22}, {10, 27}};
        for (int rank = 2; rank <= 4; rank++) {
            for (int bound = 1; bound <= due[rank - 2].length; bound++) {
                DUE.same("list " + rank + " " + bound, x.list(rank, bound), due[rank - 2][bound - 1]);
                DUE.same("count of list " + rank + " " + bound, x.count(6), due[rank - 2][bound - 1]);
            }
        }
        int[][] bad = {{1, 1}, {5, 1}, {0, 0}, {2, 0}, {2, 6}, {3, 6}, {4, 3}, {4, 0}, {-3, 2}, {3, Integer.MIN_VALUE}};
        for (int[] of : bad) {
            DUE.badArgument("list", () -> x.list(of[0], of[1]));
        }
        DUE.same("the list stays", x.count(6), 27);
        DUE.same("and the table", x.count(0), 1);
    }

    /** Promise 15, and the order of the list. */
    private static void taking() {
        FuseKinds x = new FuseKinds();
        x.list(3, 2);
        int own = 0;
        String last = "";
        for (int i = 0; i < x.count(6); i++) {
            DUE.same("r", x.take(i), 3);
            DUE.same("all laws", x.law(0) + x.law(1) + x.law(2) + x.law(3), -4);
            String row = "" + x.dual(1) + x.fuses(1, 1, x.dual(1)) + x.fuses(1, 1, x.dual(2)) + x.fuses(1, 2, x.dual(2))
                + x.fuses(2, 2, x.dual(2));
            DUE.same("in order " + last + " " + row, last.compareTo(row) < 0, true);
            last = row;
            own += x.dual(1) == 1 ? 1 : 0;
        }
        DUE.same("own duals", own < x.count(6) && own > 0, true);
        x.list(3, 1);
        for (int i = 0; i < 4; i++) {
            x.take(i);
            DUE.same("dual of 1 in " + i, x.dual(1), i < 3 ? 1 : 2);
        }
        DUE.same("the group of 3", x.fuses(1, 1, 2) * 10 + x.fuses(1, 2, 0), 11);
        DUE.noSuch("take 4", () -> x.take(4));
        DUE.noSuch("take -1", () -> x.take(-1));
        x.list(2, 5);
        x.take(5);
        DUE.same("the last of rank 2", x.fuses(1, 1, 1), 5);
    }
}
