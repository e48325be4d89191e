import java.util.ArrayList;
import java.util.List;
import java.util.Map;
import java.util.Set;
import java.util.regex.Matcher;
import java.util.regex.Pattern;

/** One run of src/test/edges on a new object; README.md there says how its rows are written. */
final class EdgeRun {
    private static final int MOST_CALLS = 512;
    private static final Pattern ROW = Pattern.compile("(refused )?(?:(\\d+) times )?(\\w+)(.*?) -> (.+)");
    private static final Pattern LONG_BLANK = Pattern.compile("\\{(\\d+):(.)\\}");
    private static final Map<String, String> SHORT = Map.of("noSuch", "throws.NoSuchElementException",
        "badArgument", "throws.IllegalArgumentException", "done", "void");

    private static final Set<String> TOLD = Set.of("tell", "swap", "twist", "letter");

    private final Due due;
    private final Map<String, List<String>> states;
    private final String title;
    private final FuseKinds x = new FuseKinds();
    private final List<Call> made = new ArrayList<>();

    EdgeRun(Due due, Map<String, List<String>> states, String title) {
        this.due = due;
        this.states = states;
        this.title = title;
    }

    void play(List<String> rows) {
        for (String row : rows) {
            if (row.startsWith("use ")) {
                play(states.get(row.substring(4)));
            } else {
                playRow(row);
            }
        }
        due.same(title + ": calls of one object are too many", made.size() > MOST_CALLS, false);
    }

    private void playRow(String row) {
        Matcher matcher = ROW.matcher(row);
        if (!matcher.matches()) {
            throw new IllegalStateException("no row of a run: " + row);
        }
        int times = matcher.group(2) == null ? 1 : Integer.parseInt(matcher.group(2));
        for (int time = 0; time < times; time++) {
            boolean refused = matcher.group(1) != null;
            playCall(row, refused, matcher.group(3), matcher.group(4).trim(), matcher.group(5).split(" "));
        }
    }

    private void playCall(String row, boolean refused, String name, String rest, String[] answers) {
        List<Call> before = List.copyOf(made);
        int texts = x.count(4);
        int told = x.count(5);
        if (rest.startsWith("\"")) {
            playText(row, name, textOf(rest), answers);
        } else {
            String[] numbers = rest.isEmpty() ? new String[0] : rest.split(" ");
            for (int i = 0; i < answers.length; i++) {
                check(row, call(name, numbersOf(numbers, i)), answers[i]);
            }
        }
        if (refused) {
            boolean isText = name.equals("read");
            boolean isTold = TOLD.contains(name) && !answers[0].equals("noSuch");
            due.same(title + ": texts refused by " + row, x.count(4) - texts, isText ? 1 : 0);
            due.same(title + ": told ones refused by " + row, x.count(5) - told, isTold ? 1 : 0);
            staysAs(row, before, x.count(4) - texts, x.count(5) - told);
        }
    }

    /** A * is each number from 0 on, an answer each. */
    private static int[] numbersOf(String[] words, int star) {
        int[] numbers = new int[words.length];
        for (int i = 0; i < words.length; i++) {
            numbers[i] = words[i].equals("*") ? star : words[i].equals("MIN") ? Integer.MIN_VALUE
                : words[i].equals("MAX") ? Integer.MAX_VALUE : Integer.parseInt(words[i]);
        }
        return numbers;
    }

    private String call(String name, int... numbers) {
        Call call = new Call(name, numbers);
        made.add(call);
        return call.on(x);
    }

    private void check(String row, String got, String answer) {
        if (!answer.equals("?")) {
            due.same(title + ": " + row, got, SHORT.getOrDefault(answer, answer));
        }
    }

    private static String textOf(String quoted) {
        String text = quoted.substring(1, quoted.length() - 1).replace("\\n", "\n");
        Matcher matcher = Pattern.compile("\\\\x(..)").matcher(text);
        text = matcher.replaceAll(found -> "" + (char) Integer.parseInt(found.group(1), 16));
        return LONG_BLANK.matcher(text).replaceAll(found -> found.group(2).repeat(Integer.parseInt(found.group(1))));
    }

    /** feed: the tape has so many bytes then; read: table()'s answer for the whole text, and the FAULT's place. */
    private void playText(String row, String name, String text, String[] answers) {
        String has = "" + x.count(3);
        for (int at = 0; at < text.length(); at += 20) {
            has = call("feed", Due.fiveNumbers(text, at));
        }
        if (name.equals("feed")) {
            check(row, has, answers[0]);
        } else {
            check(row, call("table", text.length()), answers[0]);
            check(row + ", the place", call("fault"), answers.length > 1 ? answers[2] : "-1");
            check(row + ", the tape", call("count", 3), "0");
        }
    }

    /** What a call refuses changes nothing but STATUS, by so many, and the place of the latest FAULT. */
    private void staysAs(String row, List<Call> before, int texts, int told) {
        List<String> was = Tail.of(Call.replay(before), 0, 0);
        List<String> is = Tail.of(Call.replay(made), texts, told);
        int first = texts > 0 ? 1 : 0;
        same(row, is.subList(first, is.size()), was.subList(first, was.size()));
        same(row, Tail.ofImage(Call.replay(made), texts, told), Tail.ofImage(Call.replay(before), 0, 0));
        due.same(title + ": behind " + row + " too many calls", made.size() + is.size() > MOST_CALLS, false);
    }

    /** Only the first of the answers that differ is told. */
    private void same(String row, List<String> got, List<String> answers) {
        int at = 0;
        while (at < got.size() && at < answers.size() && got.get(at).equals(answers.get(at))) {
            at++;
        }
        String is = at < got.size() ? got.get(at) : "nothing";
        due.same(title + ": behind " + row, is, at < answers.size() ? answers.get(at) : "nothing");
    }
}
