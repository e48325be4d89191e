import java.util.Arrays;
import java.util.List;

/** One call of FuseKinds, to be made as often as wanted. */
final class Call {
    private static final Face FACE = new Face(FuseKinds.class);

    private final String name;
    private final int[] numbers;

    Call(String name, int... numbers) {
        this.name = name;
        this.numbers = numbers;
    }

    String on(FuseKinds x) {
        return FACE.answer(x, name, numbers);
    }

    static FuseKinds replay(List<Call> calls) {
        FuseKinds x = new FuseKinds();
        for (Call call : calls) {
            call.on(x);
        }
        return x;
    }

    @Override
    public String toString() {
        return name + Arrays.toString(numbers);
    }
}
