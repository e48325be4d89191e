/** Promises 30 to 33: what is taken back, told again, kept as an image and restored. */
public final class StoryTest {
    private static final Due DUE = new Due("story");

    public static void main(String[] args) {
        backAndAgain();
        atMostHundred();
        images();
        DUE.end();
    }

    private static String all(FuseKinds x) {
        return x.told(0, 1, 1, 1, 1, 0, 0) + " " + x.told(1, 1, 1, 0, 0, 0, 0) + " " + x.told(2, 1, 0, 0, 0, 0, 0) + " "
            + x.count(7) + " " + x.count(8) + " " + x.count(9);
    }

    /** Promises 30 and 31. */
    private static void backAndAgain() {
        FuseKinds x = Due.made(0, 2, 0);
        x.tell(1, 1, 1, 1, 0, 0, 2);
        x.tell(1, 1, 1, 1, 0, 0, 2);
        x.swap(1, 1, 0, 3);
        x.twist(1, 4);
        x.letter(-2);
        String[] due = {"0 0 1 0 0 5", "2 0 1 0 1 4", "2 0 1 0 2 3", "2 3 1 0 3 2", "2 3 4 0 4 1", "2 3 4 1 5 0"};
        for (int n = 5; n > 0; n--) {
            DUE.same("story", all(x), due[n]);
            DUE.same("back", x.back(), true);
        }
        DUE.same("nothing back", x.back(), false);
        for (int n = 0; n < 5; n++) {
            DUE.same("story", all(x), due[n]);
            DUE.same("again", x.again(), true);
        }
        DUE.same("nothing again", x.again(), false);
        DUE.same("story", all(x), due[5]);
        DUE.same("the letter is the same again", x.braid(0, 0, 0), 1);
        x.back();
        x.back();
        DUE.same("refused", x.twist(1, 0), false);
        DUE.same("refused", x.letter(7), -1);
        DUE.same("what is refused forgets nothing", all(x), "2 3 1 0 3 2");
        DUE.same("status stays where it is taken back", x.count(5), 2);
        x.back();
        x.swap(1, 1, 0, 5);
        DUE.same("a new one forgets", all(x), "2 5 1 0 3 0");
        DUE.same("nothing again", x.again(), false);
    }

    private static void atMostHundred() {
        FuseKinds x = Due.made(0, 2, 0);
        x.field(31);
        x.letter(1);
        for (int n = 0; n < 120; n++) {
            x.twist(1, 1 + n % 30);
        }
        DUE.same("at most 100", x.count(8), 100);
        for (int n = 0; n < 100; n++) {
            DUE.same("back " + n, x.back(), true);
        }
        DUE.same("the 101st", x.back(), false);
        DUE.same("what was told 20th", x.told(2, 1, 0, 0, 0, 0, 0), 20);
        DUE.same("all can be told again", x.count(9), 100);
        DUE.same("the letter can't be taken back", x.count(7), 1);
        for (int n = 0; n < 100; n++) {
            x.again();
        }
        DUE.same("the last again", x.told(2, 1, 0, 0, 0, 0, 0), 30);
        x.letter(2);
        DUE.same("still 100", x.count(8), 100);
        x.back();
        DUE.same("the letter first", x.count(7), 1);
    }

    /** Promises 32 and 33. */
    private static void images() {
        FuseKinds x = Due.made(0, 2, 0);
        DUE.same("none", x.restore(), false);
        x.field(5);
        x.tell(1, 1, 1, 1, 0, 0, 4);
        x.swap(1, 1, 0, 3);
        x.twist(1, 2);
        x.letter(2);
        x.letter(1);
        x.twist(0, 1);
        Due.read(x, "oops");
        x.back();
        x.image();
        DUE.same("an image takes nothing from what can be taken back", all(x), "4 3 2 1 4 1");
        DUE.same("holds then", x.holds(0), 15);
        x.letter(9);
        Due.read(x, "oops more of it");
        Due.read(x, "rank 1; oops");
        x.make(2, 2, 1);
        x.field(13);
        x.twist(1, 12);
        x.keep();
        x.list(2, 1);
        Due.feed(x, "rank");
        DUE.same("restore", x.restore(), true);
        DUE.same("all told", all(x), "4 3 2 1 0 0");
        DUE.same("p", x.count(2), 5);
        DUE.same("r", x.count(0), 2);
        DUE.same("status", x.count(4) * 10 + x.count(5), 11);
        DUE.same("the field serves again", x.holds(0), 15);
        DUE.same("the list stays", x.count(6), 2);
        DUE.same("the tape stays", x.count(3), 20);
        DUE.same("the latest fault stays", x.fault(), 8);
        DUE.same("nothing back", x.back(), false);
        DUE.same("nothing again", x.again(), false);
        x.tell(1, 1, 1, 1, 0, 0, 1);
        DUE.same("restore again", x.restore(), true);
        DUE.same("the image wasn't changed", all(x), "4 3 2 1 0 0");
        x.make(0, 1, 0);
        DUE.same("the kept table stays", x.product(), 3);
        x.image();
        x.make(0, 5, 0);
        x.restore();
        DUE.same("in place of another one", x.count(0), 3);
    }
}
