import java.util.function.Consumer;
import java.util.function.Function;

/** What a call answers, as a text: its value, "done" when it has none, or "throws." and the exception. */
final class Answer {
    private Answer() {
    }

    static String of(SegmentTrees x, Function<SegmentTrees, Object> call) {
        try {
            return String.valueOf(call.apply(x));
        } catch (RuntimeException e) {
            return "throws." + e.getClass().getSimpleName();
        }
    }

    static String ofDone(SegmentTrees x, Consumer<SegmentTrees> call) {
        return of(x, y -> {
            call.accept(y);
            return "done";
        });
    }
}
