import java.util.ArrayList;
import java.util.List;

/** A run of calls on a new object; of a call that throws it checks that nothing has changed. */
final class Scene {
    static final Class<? extends RuntimeException> ARGUMENT = IllegalArgumentException.class;
    static final Class<? extends RuntimeException> STATE = IllegalStateException.class;
    static final Class<? extends RuntimeException> INDEX = IndexOutOfBoundsException.class;

    /** Numbers that are in no range of the document, but for one below and one above. */
    static final int[] FAR = {Integer.MIN_VALUE, -1000, 1000, Integer.MAX_VALUE};

    interface Call {
        long on(TrunkYards x);
    }

    private final List<Call> calls = new ArrayList<>();
    private final TrunkYards live = new TrunkYards();

    Scene due(long want, Call call) {
        calls.add(call);
        long got = call.on(live);
        if (got != want) {
            throw new AssertionError("call " + calls.size() + " answered " + got + ", due is " + want);
        }
        return this;
    }

    Scene mend(int one, int other, int trunk) {
        return due(0, mending(one, other, trunk));
    }

    Scene follow(int first, int next) {
        return due(1, x -> x.follow(first, next) ? 1 : 0);
    }

    static Call mending(int one, int other, int trunk) {
        return x -> {
            x.mend(one, other, trunk);
            return 0;
        };
    }

    Scene refused(Class<? extends RuntimeException> want, Call call) {
        Class<?> got = thrown(call, live);
        if (got != want) {
            throw new AssertionError("behind call " + calls.size() + " is thrown " + got + ", due is " + want);
        }
        String before = Observation.of(this::replayed);
        String after = Observation.of(() -> {
            TrunkYards x = replayed();
            thrown(call, x);
            return x;
        });
        if (!before.equals(after)) {
            throw new AssertionError("a call that threw changed\n" + before + "into\n" + after);
        }
        return this;
    }

    private TrunkYards replayed() {
        TrunkYards x = new TrunkYards();
        for (Call call : calls) {
            call.on(x);
        }
        return x;
    }

    private static Class<?> thrown(Call call, TrunkYards x) {
        try {
            call.on(x);
            return null;
        } catch (RuntimeException e) {
            return e.getClass();
        }
    }
}
