import java.util.ArrayList;
import java.util.Arrays;
import java.util.HashMap;
import java.util.List;
import java.util.Map;
import java.util.Random;

/** Runs of calls by chance (the same each time), each answer compared with what PlainKinds answers. */
public final class RandomRunsTest {
    private static final int RUNS = 600;
    private static final int CALLS = 200;
    private static final int[] PRIMES = {2, 3, 5, 7, 11, 13, 17, 19, 23, 29, 31};
    private static final int[] WILD = {Integer.MIN_VALUE, Integer.MIN_VALUE + 1, -1000, -31, 31, 125, 400, 729, 1000,
        65536, 1 << 30, Integer.MAX_VALUE - 1, Integer.MAX_VALUE};
    private static final String[] PIECES = {"rank", "none", "rnk", "nonee", "0", "1", "2", "3", "4", "5", "6", "01", "002",
        "0001", "1234", "=", "+", ";", " ", "\n", "\t", "-", "=", ";", "A", "\u00e9", "\u0000"};

    private final Face ours = new Face(FuseKinds.class);
    private final Face plain = new Face(PlainKinds.class);
    private final List<String> story = new ArrayList<>();
    private final Random random;
    private FuseKinds x;
    private PlainKinds y;
    private int wrong;
    private long calls;
    private final Map<String, Integer> seen = new HashMap<>();

    private RandomRunsTest(long seed) {
        random = new Random(seed);
    }

    public static void main(String[] args) {
        int runs = args.length > 0 ? Integer.parseInt(args[0]) : RUNS;
        RandomRunsTest test = new RandomRunsTest(args.length > 1 ? Long.parseLong(args[1]) : 20261118L);
        for (int run = 0; run < runs && test.wrong < 5; run++) {
            test.run(run % 3);
        }
        System.out.println("random runs: " + test.calls + " calls, " + test.wrong + " wrong");
        if (args.length > 2) {
            test.seen.entrySet().stream().sorted(Map.Entry.comparingByKey())
                .forEach(entry -> System.out.println(entry.getKey() + " " + entry.getValue()));
        }
        System.exit(test.wrong == 0 ? 0 : 1);
    }

    private String call(String name, int... numbers) {
        String got = ours.answer(x, name, numbers);
        String due = plain.answer(y, name, numbers);
        calls++;
        story.add(name + Arrays.toString(numbers) + " -> " + got);
        String kind = due.startsWith("throws") ? due : due.equals("-1") || due.equals("false") ? due : "answer";
        seen.merge(name + " " + kind, 1, Integer::sum);
        if (!got.equals(due)) {
            wrong++;
            System.out.println("due is " + due + " at the end of:");
            story.forEach(row -> System.out.println("  " + row));
        }
        return due;
    }

    private void run(int style) {
        x = new FuseKinds();
        y = new PlainKinds();
        story.clear();
        int before = wrong;
        for (int n = 0; n < CALLS && wrong == before; n++) {
            int pick = random.nextInt(100);
            if (pick < (style == 0 ? 25 : 6)) {
                newTable(style);
            } else if (pick < 45) {
                askTable();
            } else if (pick < 70) {
                tellIt();
            } else if (pick < 95) {
                askTold();
            } else {
                rare(style);
            }
        }
    }

    private int wild() {
        return WILD[random.nextInt(WILD.length)];
    }

    private int kind() {
        int r = y.count(0);
        if (random.nextInt(300) == 0) {
            return wild();
        }
        return random.nextInt(60) == 0 ? random.nextInt(9) - 2 : random.nextInt(r);
    }

    private int number() {
        int p = y.count(2);
        if (random.nextInt(100) == 0) {
            return wild();
        }
        return random.nextInt(15) == 0 ? random.nextInt(50) - 10 : random.nextInt(p);
    }

    private void feedText(String text) {
        StringBuilder bytes = new StringBuilder(text);
        while (bytes.length() % 20 != 0) {
            bytes.append((char) random.nextInt(256));
        }
        for (int at = 0; at < bytes.length(); at += 20) {
            int[] five = new int[5];
            for (int i = 0; i < 20; i++) {
                five[i / 4] = five[i / 4] << 8 | bytes.charAt(at + i);
            }
            call("feed", five);
        }
    }

    private String line(int r) {
        StringBuilder text = new StringBuilder();
        text.append(1 + random.nextInt(r - 1)).append(' ').append(1 + random.nextInt(r - 1)).append('=');
        int parts = random.nextInt(12) == 0 ? 20 : random.nextInt(5);
        if (parts == 0) {
            text.append("none");
        }
        for (int i = 0; i < parts; i++) {
            text.append(i == 0 ? "" : "+").append(random.nextInt(3) > 0 ? random.nextInt(2) : random.nextInt(r));
        }
        return text.append(';').append(random.nextInt(4) == 0 ? " \n" : "").toString();
    }

    private void tellText() {
        int r = 1 + random.nextInt(5);
        StringBuilder text = new StringBuilder("rank ").append(r).append(';');
        int lines = r == 1 ? 0 : random.nextInt(1 + r * (r - 1) / 2);
        for (int i = 0; i < lines; i++) {
            text.append(line(r));
        }
        for (int i = random.nextInt(3) == 0 ? random.nextInt(3) : 0; i > 0; i--) {
            int at = random.nextInt(text.length());
            text.replace(at, Math.min(text.length(), at + random.nextInt(3)), PIECES[random.nextInt(PIECES.length)]);
        }
        if (text.length() > 400) {
            text.setLength(400);
        }
        int left = y.count(3);
        if (left > 0) {
            call("table", random.nextInt(left + 1));
            call("fault");
        }
        feedText(text.toString());
        int cut = random.nextInt(8) == 0 ? random.nextInt(30) - 10 : 0;
        call("table", text.length() - cut);
        call("fault");
    }

    /** A free TABLE of few KINDS, since most that is asked needs one. */
    private void tellFree() {
        int r = 2 + random.nextInt(2);
        StringBuilder text = new StringBuilder("rank ").append(r).append(';');
        for (int i = 1; i < r; i++) {
            for (int j = i; j < r; j++) {
                text.append(i).append(' ').append(j).append('=');
                StringBuilder sum = new StringBuilder();
                for (int k = 0; k < r; k++) {
                    if (random.nextBoolean()) {
                        sum.append(sum.length() == 0 ? "" : "+").append(k);
                    }
                }
                text.append(sum.length() == 0 ? "none" : sum).append(';');
            }
        }
        if (y.count(3) > 0) {
            call("table", 0);
        }
        feedText(text.toString());
        call("table", text.length());
    }

    private void newTable(int style) {
        int pick = random.nextInt(10);
        if (pick < 3) {
            tellText();
        } else if (pick < 4 || (style == 1 && pick < 7)) {
            tellFree();
        } else if (pick < 7) {
            int which = random.nextInt(20) == 0 ? random.nextInt(9) - 3 : random.nextInt(3);
            int few = style == 2 ? 4 : 3;
            call("make", which, random.nextInt(12) == 0 ? random.nextInt(12) - 3 : random.nextInt(few + 1),
                random.nextInt(12) == 0 ? random.nextInt(14) - 2 : random.nextInt(3));
        } else if (pick < 8) {
            call(random.nextBoolean() ? "keep" : "product");
            call("product");
        } else if (pick < 9) {
            call("list", random.nextInt(6) == 0 ? random.nextInt(7) : 2 + random.nextInt(3), 1 + random.nextInt(6));
            call("count", 6);
        } else {
            int size = y.count(6);
            call("take", random.nextInt(8) == 0 ? random.nextInt(40) - 5 : size == 0 ? 0 : random.nextInt(size));
        }
    }

    private void askTable() {
        switch (random.nextInt(7)) {
            case 0:
                call("count", random.nextInt(14) - 2);
                break;
            case 1:
                call("fuses", kind(), kind(), kind());
                break;
            case 2:
                call("law", random.nextInt(10) == 0 ? random.nextInt(9) - 2 : random.nextInt(4));
                break;
            case 3:
                call("dual", kind());
                break;
            case 4:
                call("size", kind());
                break;
            case 5:
                call("ways", kind(), kind(), random.nextInt(6) == 0 ? random.nextInt(1200) - 100 : random.nextInt(9));
                break;
            default:
                call("character", random.nextInt(8) - 2, kind());
                break;
        }
    }

    private void tellIt() {
        int pick = random.nextInt(10);
        if (pick < 4) {
            tellTree();
        } else if (pick < 6) {
            call("swap", kind(), kind(), kind(), number());
        } else if (pick < 7) {
            call("twist", kind(), number());
        } else if (pick < 8) {
            call("letter", random.nextInt(10) == 0 ? random.nextInt(9) - 4 : new int[] {1, 2, -1, -2}[random.nextInt(4)]);
        } else {
            for (int i = random.nextInt(3); i >= 0; i--) {
                call(random.nextInt(3) > 0 ? "back" : "again");
            }
        }
    }

    /** Mostly one that is there. */
    private void tellTree() {
        int[] seven = new int[7];
        for (int trial = 0; trial < 40; trial++) {
            for (int i = 0; i < 6; i++) {
                seven[i] = kind();
            }
            seven[6] = number();
            boolean there = Arrays.stream(seven, 0, 6).allMatch(i -> i >= 0 && i < y.count(0))
                && y.fuses(seven[0], seven[1], seven[4]) == 1 && y.fuses(seven[4], seven[2], seven[3]) == 1
                && y.fuses(seven[1], seven[2], seven[5]) == 1 && y.fuses(seven[0], seven[5], seven[3]) == 1;
            if (there && (seven[0] * seven[1] * seven[2] > 0 || random.nextInt(30) == 0)) {
                break;
            }
        }
        call("tell", seven);
    }

    private void askTold() {
        switch (random.nextInt(8)) {
            case 0:
                call("told", random.nextInt(12) == 0 ? random.nextInt(6) - 2 : random.nextInt(3), kind(), kind(), kind(),
                    kind(), kind(), kind());
                break;
            case 1:
                call("check", random.nextInt(12) == 0 ? random.nextInt(8) - 2 : random.nextInt(4));
                break;
            case 2:
                call("broken", random.nextInt(12) - 2);
                break;
            case 3:
                call("solve", random.nextInt(8) - 2);
                break;
            case 4:
                call("s", random.nextInt(4), kind(), kind());
                break;
            case 5:
                call("holds", random.nextInt(4) - (random.nextInt(10) == 0 ? 1 : 0));
                break;
            case 6:
                call("turned", random.nextInt(3), random.nextInt(5) - 2, kind());
                break;
            default:
                call("braid", kind(), kind(), random.nextInt(10) == 0 ? random.nextInt(6) - 2 : random.nextInt(3));
                break;
        }
    }

    /** Any call with any numbers. */
    private void anything() {
        List<String> names = new ArrayList<>(ours.methods().keySet());
        String name = names.get(random.nextInt(names.size()));
        int[] numbers = new int[ours.methods().get(name).getParameterCount()];
        for (int i = 0; i < numbers.length; i++) {
            numbers[i] = random.nextInt(3) == 0 ? wild() : random.nextInt(6) - 2;
        }
        call(name, numbers);
    }

    private void rare(int style) {
        switch (random.nextInt(6)) {
            case 4:
            case 5:
                anything();
                break;
            case 0:
                call("field", random.nextInt(8) == 0 ? random.nextInt(40) - 3
                    : PRIMES[random.nextInt(style == 0 ? PRIMES.length : style == 1 ? 4 : 6)]);
                break;
            case 1:
                call("image");
                break;
            case 2:
                call("restore");
                break;
            default:
                for (int i = random.nextInt(12); i >= 0; i--) {
                    fixGood();
                }
                break;
        }
    }

    /** Tells all F and R, so that some BRAIDS can be. */
    private void fixGood() {
        int r = y.count(0);
        if (r > 3 || y.count(1) == 0) {
            return;
        }
        for (int code = 0; code < r * r * r; code++) {
            int a = code / r / r;
            int b = code / r % r;
            int c = code % r;
            if (a == b && y.fuses(a, b, c) == 1) {
                call("swap", a, b, c, 1 + random.nextInt(y.count(2) - 1));
            }
        }
        int a = random.nextInt(r);
        for (int code = 0; code < r * r * r; code++) {
            int d = code / r / r;
            int e = code / r % r;
            int g = code % r;
            if (y.fuses(a, a, e) == 1 && y.fuses(e, a, d) == 1 && y.fuses(a, g, d) == 1 && y.fuses(a, a, g) == 1) {
                call("tell", a, a, a, d, e, g, number());
            }
        }
    }
}
