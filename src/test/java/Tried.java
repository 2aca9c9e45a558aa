import java.util.ArrayList;
import java.util.List;
import java.util.function.Supplier;

/** Tries calls, each on a new office: what they answer, and whether they leave all as it was. */
final class Tried {
    /** A call on an office; a boolean answer counts 1 or 0. */
    interface Call {
        long on(CheckmarkOffice office);
    }

    private final Due due;
    private final List<Supplier<CheckmarkOffice>> makers = new ArrayList<>();
    private final List<String> before = new ArrayList<>();

    @SafeVarargs
    Tried(Due due, Supplier<CheckmarkOffice>... makers) {
        this.due = due;
        for (Supplier<CheckmarkOffice> maker : makers) {
            this.makers.add(maker);
            before.add(Witness.of(maker.get()));
        }
    }

    /** Nothing but the answer is looked at. */
    void is(long answer, Call call) {
        for (Supplier<CheckmarkOffice> maker : makers) {
            CheckmarkOffice office = maker.get();
            due.is(answer, () -> call.on(office));
        }
    }

    /** Behind a first call, whose own answer is not looked at, the answer of another one is this. */
    void behind(Call first, long answer, Call call) {
        for (Supplier<CheckmarkOffice> maker : makers) {
            CheckmarkOffice office = maker.get();
            first.on(office);
            due.is(answer, () -> call.on(office));
        }
    }

    /** The answer is this, also once more, and all is as it was. */
    void tells(long answer, Call call) {
        answersAndLeaves(Long.toString(answer), call);
    }

    void range(Call call) {
        answersAndLeaves("throws.IndexOutOfBoundsException", call);
    }

    void argument(Call call) {
        answersAndLeaves("throws.IllegalArgumentException", call);
    }

    void state(Call call) {
        answersAndLeaves("throws.IllegalStateException", call);
    }

    void missing(Call call) {
        answersAndLeaves("throws.NoSuchElementException", call);
    }

    void unsupported(Call call) {
        answersAndLeaves("throws.UnsupportedOperationException", call);
    }

    void arithmetic(Call call) {
        answersAndLeaves("throws.ArithmeticException", call);
    }

    private void answersAndLeaves(String answer, Call call) {
        for (int index = 0; index < makers.size(); index++) {
            CheckmarkOffice office = makers.get(index).get();
            due.compare(answer, Due.answerOf(() -> call.on(office)));
            due.compare(answer, Due.answerOf(() -> call.on(office)));
            due.compare(before.get(index), Witness.of(office));
        }
    }
}
