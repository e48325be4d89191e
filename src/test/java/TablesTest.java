/** Promises 2 to 9: tables told, made, kept and multiplied, and what is counted of them. */
public final class TablesTest {
    private static final Due DUE = new Due("tables");

    public static void main(String[] args) {
        feeding();
        reading();
        readingFaults();
        readingEdges();
        making();
        multiplying();
        counting();
        fusing();
        DUE.end();
    }

    /** Promise 2. */
    private static void feeding() {
        FuseKinds x = new FuseKinds();
        for (int n = 1; n <= 20; n++) {
            DUE.same("feed " + n, x.feed(n, -n, 0, Integer.MIN_VALUE, Integer.MAX_VALUE), 20 * n);
        }
        DUE.same("feed beyond 400", x.feed(0, 0, 0, 0, 0), -1);
        DUE.same("tape stays at 400", x.count(3), 400);
        DUE.same("a full tape is read", x.table(400), 1);
        DUE.same("its first byte is 0", x.fault(), 0);
        DUE.same("feed again", x.feed(0x72616e6b, 0x20313b20, 0x20202020, 0x20202020, 0x20202020), 20);
        DUE.same("highest byte first", x.table(20), 0);
    }

    /** Promise 3, without FAULTS. */
    private static void reading() {
        FuseKinds x = Due.of("rank 3;1 1=0+2;2 1=1;2 2=0;");
        DUE.same("r", x.count(0), 3);
        DUE.same("1 by 1 has 0", x.fuses(1, 1, 0), 1);
        DUE.same("1 by 1 has 2", x.fuses(1, 1, 2), 1);
        DUE.same("1 by 2 is told by 2 by 1", x.fuses(1, 2, 1), 1);
        DUE.same("2 by 1", x.fuses(2, 1, 1), 1);
        DUE.same("0 by 2", x.fuses(0, 2, 2), 1);
        DUE.same("2 by 0", x.fuses(2, 0, 0), 0);
        DUE.same("what no line tells", Due.of("rank 2;").fuses(1, 1, 0), 0);
        DUE.same("as often as told", Due.of("rank 2;1 1=1+0+1+1;").fuses(1, 1, 1), 3);
        DUE.same("nine times", Due.of("rank 2;1 1=1+1+1+1+1+1+1+1+1;").fuses(1, 1, 1), 9);
        DUE.same("blanks count for nothing", Due.read(x, "\n rank\n02 ;1  1\n=0 + 1 ; "), 0);
        DUE.same("2 kinds then", x.count(0), 2);
        DUE.same("no blanks where none are needed", Due.read(x, "rank2;1 1=none;"), 0);
        DUE.same("none", x.fuses(1, 1, 0) + x.fuses(1, 1, 1), 0);
        Due.feed(x, "rank 4;rank 5;");
        DUE.same("only the first bytes", x.table(7), 0);
        DUE.same("their table", x.count(0), 4);
        DUE.same("the tape is empty then", x.count(3), 0);
        forgetting(x);
        DUE.badArgument("table(1) of an empty tape", () -> x.table(1));
        DUE.badArgument("table(-1)", () -> x.table(-1));
        Due.feed(x, "rank 1;");
        DUE.badArgument("table(21) of 20", () -> x.table(21));
        DUE.same("the tape stays where it throws", x.count(3), 20);
        DUE.same("no text with a fault in it", x.count(4), 0);
    }

    /** What is told goes with each new TABLE; p, the kept TABLE, the LIST and the image stay. */
    private static void forgetting(FuseKinds x) {
        x.field(11);
        x.make(2, 1, 1);
        x.keep();
        x.list(2, 2);
        x.image();
        for (int way = 0; way < 4; way++) {
            x.make(2, 1, 1);
            x.tell(1, 1, 1, 1, 0, 0, 5);
            x.swap(1, 1, 0, 5);
            x.twist(1, 5);
            x.letter(1);
            x.back();
            if (way == 0) {
                Due.read(x, "rank 2;1 1=0+1;");
            } else if (way == 1) {
                x.take(1);
            } else if (way == 2) {
                x.make(2, 1, 1);
            } else {
                Due.read(x, "rank 1;");
                DUE.same("product of one kind and a kept one", x.product(), 2);
            }
            DUE.same("F is 0", x.told(0, 1, 1, 1, 1, 0, 0), 0);
            DUE.same("R is 0", x.told(1, 1, 1, 0, 0, 0, 0), 0);
            DUE.same("t is 1", x.told(2, 1, 0, 0, 0, 0, 0), 1);
            DUE.same("the word is empty", x.count(7), 0);
            DUE.same("nothing is taken back", x.count(8) + x.count(9), 0);
            DUE.same("p stays", x.count(2), 11);
            DUE.same("the list stays", x.count(6), 3);
        }
        DUE.same("the image stays", x.restore(), true);
    }

    private static void fault(String text, int code, int place) {
        FuseKinds x = Due.made(0, 3, 0);
        x.twist(1, 3);
        DUE.same("text " + text, Due.read(x, text), code);
        DUE.same("place in " + text, x.fault(), code == 0 ? -1 : place);
        DUE.same("status of " + text, x.count(4), code == 0 ? 0 : 1);
        if (code != 0) {
            DUE.same("the table stays at " + text, x.count(0), 3);
            DUE.same("what is told stays at " + text, x.told(2, 1, 0, 0, 0, 0, 0), 3);
            DUE.same("and can be taken back at " + text, x.back(), true);
        }
        DUE.same("the tape is empty behind " + text, x.count(3), 0);
    }

    /** Promises 3 and 4. */
    private static void readingFaults() {
        fault("", 1, 0);
        fault("  ", 1, 2);
        fault("rang 2;", 1, 0);
        fault("rankk 2;", 1, 0);
        fault(" Rank 2;", 1, 1);
        fault("rank", 1, 4);
        fault("rank;", 1, 4);
        fault("rank rank", 1, 5);
        fault("rank 2", 1, 6);
        fault("rank 2 1;", 1, 7);
        fault("rank 0;", 2, 5);
        fault("rank 6;", 2, 5);
        fault("rank 999;", 2, 5);
        fault("rank 0002;", 2, 5);
        fault("0002", 1, 0);
        fault("rank 2;;", 1, 7);
        fault("rank 2;none", 1, 7);
        fault("rank 2;1", 1, 8);
        fault("rank 2;1 ", 1, 9);
        fault("rank 2;1=", 1, 8);
        fault("rank 2;1 1", 1, 10);
        fault("rank 2;1 1 1", 1, 11);
        fault("rank 2;1 1 1111", 1, 11);
        fault("rank 2;1 1=", 1, 11);
        fault("rank 2;1 1=;", 1, 11);
        fault("rank 2;1 1=+1;", 1, 11);
        fault("rank 2;1 1=nones;", 1, 11);
        fault("rank 2;1 1=none", 1, 15);
        fault("rank 2;1 1=none+1;", 1, 15);
        fault("rank 2;1 1=none1;", 1, 15);
        fault("rank 2;1 1=1+none;", 1, 13);
        fault("rank 2;1 1=1+;", 1, 13);
        fault("rank 2;1 1=1=;", 1, 12);
        fault("rank 2;1 1=1 1;", 1, 13);
        fault("rank 2;1 1=1", 1, 12);
        fault("rank 2;1 1=1-", 1, 12);
        fault("rank 2;\t1 1=1;", 1, 7);
        fault("rank 2;1\u00e91=1;", 1, 8);
    }

    private static void readingEdges() {
        fault("rank 2;2 1=1;", 3, 7);
        fault("rank 2;0 1=1;", 3, 7);
        fault("rank 2;1 0=1;", 3, 9);
        fault("rank 2;1 2=1;", 3, 9);
        fault("rank 2;1 1=2;", 3, 11);
        fault("rank 2;1 1=0+2;", 3, 13);
        fault("rank 2;1111 1=0;", 2, 7);
        fault("rank 2;1 1111=0;", 2, 9);
        fault("rank 2;1 1=0+0000;", 2, 13);
        fault("rank 1;1 1=0;", 3, 7);
        fault("rank 1;", 0, -1);
        fault("rank 5;4 4=4;", 0, -1);
        fault("rank 2;1 1=1+1+1+1+1+1+1+1+1;", 0, -1);
        fault("rank 2;1 1=1+1+1+1+1+1+1+1+1+1;", 2, 29);
        fault("rank 2;1 1=0+1+1+1+1+1+1+1+1+1+0+1;", 2, 33);
        fault("rank 3;1 2=1+1+1+1+1+1+1+1+1;2 2=1+1+1+1+1+1+1+1+1;", 0, -1);
        fault("rank 2;1 1=0;1 1=0;", 4, 15);
        fault("rank 3;1 2=0;2 1=0;", 4, 15);
        fault("rank 3;1 2=0;1 1=0;2 2=0;", 0, -1);
        fault("rank 3;1 2=0;2 1", 4, 15);
        fault("rank 3;1 2=0;2 1x=3;", 4, 15);
        FuseKinds x = Due.made(0, 2, 0);
        Due.read(x, "oops");
        Due.read(x, "rank oops");
        DUE.same("latest place", x.fault(), 5);
        DUE.same("texts with a fault", x.count(4), 2);
        x.make(0, 1, 0);
        DUE.same("make leaves it", x.fault(), 5);
        Due.read(x, "rank 1;");
        DUE.same("no fault then", x.fault(), -1);
        DUE.same("status stays", x.count(4), 2);
    }

    /** Promise 5. */
    private static void making() {
        FuseKinds x = new FuseKinds();
        for (int n = 1; n <= 5; n++) {
            DUE.same("group", x.make(0, n, 99), n);
            for (int code = 0; code < n * n * n; code++) {
                int i = code / n / n;
                int j = code / n % n;
                DUE.same("of group " + n, x.fuses(i, j, code % n), (i + j) % n == code % n ? 1 : 0);
            }
        }
        for (int n = 0; n <= 4; n++) {
            DUE.same("level", x.make(1, n, -7), n + 1);
            DUE.same("all laws of level " + n, x.law(0) + x.law(1) + x.law(2) + x.law(3), -4);
        }
        DUE.same("level 4: 2 by 2", x.fuses(2, 2, 0) + x.fuses(2, 2, 2) * 2 + x.fuses(2, 2, 4) * 4, 7);
        DUE.same("level 4: odd", x.fuses(2, 2, 1) + x.fuses(2, 2, 3), 0);
        DUE.same("level 4: 4 by 4", x.fuses(4, 4, 0) * 2 + x.fuses(4, 4, 2) + x.fuses(4, 4, 4), 2);
        for (int n = 1; n <= 4; n++) {
            DUE.same("near", x.make(2, n, 9), n + 1);
            DUE.same("it by itself", x.fuses(n, n, n), 9);
            DUE.same("it by the group", x.fuses(n, n - 1, n), 1);
            DUE.same("the group by it", x.fuses(n - 1, n, n), 1);
            DUE.same("all of the group", x.fuses(n, n, n - 1), 1);
            DUE.same("the group is kept", x.fuses(n - 1, n - 1, (2 * n - 2) % n), 1);
        }
        int[][] bad = {{0, 0, 0}, {0, 6, 0}, {1, -1, 0}, {1, 5, 0}, {2, 0, 0}, {2, 5, 0}, {2, 1, -1}, {2, 1, 10},
            {3, 1, 1}, {-1, 1, 1}, {0, Integer.MAX_VALUE, 0}, {1, Integer.MIN_VALUE, 0}};
        x.twist(1, 2);
        for (int[] of : bad) {
            DUE.badArgument("make", () -> x.make(of[0], of[1], of[2]));
        }
        DUE.same("nothing changed", x.count(0) + x.told(2, 1, 0, 0, 0, 0, 0), 7);
    }

    /** Promises 6 and 7. */
    private static void multiplying() {
        FuseKinds x = Due.made(2, 1, 3);
        DUE.same("none is kept", x.product(), -1);
        x.keep();
        DUE.same("2 by 2", x.product(), 4);
        DUE.same("(1, 1) by itself to itself", x.fuses(3, 3, 3), 9);
        DUE.same("(1, 0) by (0, 1)", x.fuses(2, 1, 3), 1);
        DUE.same("(0, 1) by itself", x.fuses(1, 1, 1) * 10 + x.fuses(1, 1, 0), 31);
        DUE.same("4 by 2 is too much", x.product(), -1);
        DUE.same("it stays", x.count(0), 4);
        x.make(2, 1, 4);
        x.twist(1, 3);
        DUE.same("12 is too much", x.product(), -1);
        DUE.same("all stays", x.told(2, 1, 0, 0, 0, 0, 0) * 10 + x.fuses(1, 1, 1), 34);
        x.keep();
        x.make(0, 1, 0);
        DUE.same("1 by 2, the latest kept", x.product(), 2);
        DUE.same("its N", x.fuses(1, 1, 1), 4);
        x.make(0, 5, 0);
        x.keep();
        x.make(0, 1, 0);
        DUE.same("1 by 5", x.product(), 5);
        x.make(0, 2, 0);
        DUE.same("2 by 5", x.product(), -1);
        FuseKinds y = Due.made(0, 2, 0);
        y.keep();
        y.make(2, 1, 2);
        y.product();
        DUE.same("(1, 1) by (1, 0)", y.fuses(3, 2, 3) * 10 + y.fuses(3, 2, 1), 21);
    }

    /** Promise 8. */
    private static void counting() {
        FuseKinds x = Due.made(2, 1, 2);
        DUE.same("not free", x.count(1), 0);
        x.make(1, 4, 0);
        DUE.same("free", x.count(1), 1);
        x.field(13);
        DUE.same("p", x.count(2), 13);
        Due.feed(x, "1234567890123456789012345");
        DUE.same("tape", x.count(3), 40);
        x.table(3);
        DUE.same("faults", x.count(4), 1);
        x.letter(9);
        x.twist(0, 1);
        DUE.same("refused", x.count(5), 2);
        x.list(3, 2);
        DUE.same("list", x.count(6), 7);
        x.letter(1);
        x.letter(-2);
        x.back();
        DUE.same("letters, back, again", x.count(7) * 100 + x.count(8) * 10 + x.count(9), 111);
        DUE.noSuch("count(10)", () -> x.count(10));
        DUE.noSuch("count(-1)", () -> x.count(-1));
    }

    /** Promise 9. */
    private static void fusing() {
        FuseKinds x = Due.made(2, 2, 7);
        DUE.same("N", x.fuses(2, 2, 2), 7);
        DUE.noSuch("i", () -> x.fuses(3, 0, 0));
        DUE.noSuch("j", () -> x.fuses(0, 3, 0));
        DUE.noSuch("k", () -> x.fuses(0, 0, 3));
        DUE.noSuch("below 0", () -> x.fuses(0, -1, 0));
        DUE.noSuch("far off", () -> x.fuses(0, 0, Integer.MAX_VALUE));
    }
}
