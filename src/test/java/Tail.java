import java.util.ArrayList;
import java.util.List;

/**
 * All that the face shows of an object, and then what comes out of what it has in store: what can be told again and
 * taken back, the kept TABLE, the LIST, the tape and the image. Two objects in the same state answer the same.
 */
final class Tail {
    private static final int MOST_TAKEN = 3;

    private final FuseKinds x;
    private final int texts;
    private final int told;
    private final List<String> answers = new ArrayList<>();
    private int kinds;
    private boolean hasTrees;
    private int[][][] n;

    /** STATUS is counted without so many texts and so much that is told. */
    private Tail(FuseKinds x, int texts, int told) {
        this.x = x;
        this.texts = texts;
        this.told = told;
    }

    /** The latest FAULT's place stands first. */
    static List<String> of(FuseKinds x, int texts, int told) {
        Tail tail = new Tail(x, texts, told);
        tail.ask("fault");
        tail.show();
        tail.unwind();
        tail.openStores();
        return tail.answers;
    }

    /** What an IMAGE that is kept now brings back. */
    static List<String> ofImage(FuseKinds x, int texts, int told) {
        Tail tail = new Tail(x, texts, told);
        tail.ask("image");
        tail.ask("make", 0, 1, 0);
        tail.ask("field", 2);
        tail.ask("restore");
        tail.show();
        return tail.answers;
    }

    private void show() {
        showCounts(texts, told);
        showTable();
        showTold();
        askFound();
    }

    private String ask(String name, int... numbers) {
        Call call = new Call(name, numbers);
        String answer = call.on(x);
        answers.add(call + " -> " + answer);
        return answer;
    }

    private int number(String name, int... numbers) {
        String answer = ask(name, numbers);
        return answer.matches("-?[0-9]+") ? Integer.parseInt(answer) : FuseKinds.NONE;
    }

    private void showCounts(int lessTexts, int lessTold) {
        for (int what = 0; what < 10; what++) {
            if (what != 4 && what != 5) {
                ask("count", what);
            }
        }
        answers.add("texts refused: " + (x.count(4) - lessTexts));
        answers.add("told refused: " + (x.count(5) - lessTold));
    }

    private void showTable() {
        kinds = number("count", 0);
        hasTrees = number("count", 1) == 1 && kinds <= 3;
        n = new int[kinds][kinds][kinds];
        for (int i = 0; i < kinds; i++) {
            for (int j = 0; j < kinds; j++) {
                for (int k = 0; k < kinds; k++) {
                    n[i][j][k] = number("fuses", i, j, k);
                }
            }
        }
    }

    private void showTold() {
        for (int i = 1; i < kinds; i++) {
            ask("told", 2, i, 0, 0, 0, 0, 0);
        }
        for (int a = 1; hasTrees && a < kinds; a++) {
            for (int b = 1; b < kinds; b++) {
                for (int c = 0; c < kinds; c++) {
                    ask("told", 1, a, b, c, 0, 0, 0);
                    if (c > 0) {
                        showTrees(a, b, c);
                    }
                }
            }
        }
    }

    private void showTrees(int a, int b, int c) {
        for (int code = 0; code < kinds * kinds * kinds; code++) {
            int d = code / kinds / kinds;
            int e = code / kinds % kinds;
            int g = code % kinds;
            if (n[a][b][e] * n[e][c][d] * n[b][c][g] * n[a][g][d] == 1) {
                ask("told", 0, a, b, c, d, e, g);
            }
        }
    }

    private void askFound() {
        int last = kinds - 1;
        ask("law", 0);
        ask("size", last);
        ask("check", 1);
        ask("check", 3);
        ask("character", -1, 0);
        ask("character", 0, last);
        ask("s", 0, last, last);
        ask("holds", 0);
        ask("turned", 0, -1, 0);
        ask("solve", -1);
        ask("braid", last, last, 0);
    }

    private void unwind() {
        int again = number("count", 9);
        for (int step = 0; step <= again; step++) {
            ask("again");
        }
        int back = number("count", 8);
        for (int step = 0; step <= back; step++) {
            ask("back");
            if (kinds < 3) {
                showTold();
            }
        }
        ask("count", 7);
        showTold();
    }

    private void openStores() {
        ask("make", 0, 1, 0);
        if (number("product") > 0) {
            showTable();
        }
        int list = Math.min(number("count", 6), MOST_TAKEN);
        for (int i = 0; i < list; i++) {
            ask("take", i);
            showTable();
        }
        ask("table", number("count", 3));
        ask("fault");
        showTable();
        if (ask("restore").equals("true")) {
            showCounts(0, 0);
            showTable();
            showTold();
            ask("back");
            ask("again");
        }
    }
}
