import java.util.ArrayList;
import java.util.List;

/** A run of calls on a new object; of a call that throws it checks that nothing has changed. */
final class Scene {
    static final Class<? extends RuntimeException> ARGUMENT = IllegalArgumentException.class;
    static final Class<? extends RuntimeException> STATE = IllegalStateException.class;
    static final Class<? extends RuntimeException> INDEX = IndexOutOfBoundsException.class;

    /** Numbers that are in no range of the document, but for one below and one above. */
    static final int[] FAR = {Integer.MIN_VALUE, -1000, 1000, Integer.MAX_VALUE};

    interface Call {
        long on(TrunkYards x);
    }

    interface CallWith {
        long on(TrunkYards x, int number);
    }

    private final List<Call> calls = new ArrayList<>();
    private final TrunkYards live = new TrunkYards();

    Scene due(long want, Call call) {
        calls.add(call);
        long got = call.on(live);
        if (got != want) {
            throw new AssertionError("call " + calls.size() + " answered " + got + ", due is " + want);
        }
        return this;
    }

    Scene mend(int one, int other, int trunk) {
        return due(0, mending(one, other, trunk));
    }

    Scene follow(int first, int next) {
        return due(1, x -> x.follow(first, next) ? 1 : 0);
    }

    static Call mending(int one, int other, int trunk) {
        return x -> {
            x.mend(one, other, trunk);
            return 0;
        };
    }

    /** A call on the way to what is tested, whose answer another test looks at. */
    Scene done(Call call) {
        calls.add(call);
        call.on(live);
        return this;
    }

    Scene done(int times, Call call) {
        for (int i = 0; i < times; i++) {
            done(call);
        }
        return this;
    }

    Scene wagons(int many, int yard, int track) {
        return done(many, x -> x.wagon(yard, track));
    }

    /** A customer who has no call calls the yard, asks for so many wagons, and goes on talking. */
    Scene asked(int many, int grain, int customer, int yard) {
        done(x -> x.call(customer, yard));
        for (int i = 0; i < many; i++) {
            done(x -> required(x.ask(x.callOf(customer), grain)));
        }
        return this;
    }

    /** As asked, and the booking is firm then, and the call over. */
    Scene firm(int many, int grain, int customer, int yard) {
        return asked(many, grain, customer, yard).done(x -> x.confirm(x.callOf(customer))).hungUp(customer);
    }

    /** As asked, over the trunk 0; it is cut then, and mended, and the booking half. */
    Scene half(int many, int grain, int customer, int yard) {
        int home = customer % 3;
        return asked(many, grain, customer, yard).done(x -> required(x.cut(home, yard, 0))).mend(home, yard, 0);
    }

    Scene hungUp(int customer) {
        return done(x -> x.hangUp(x.callOf(customer)));
    }

    /** A new wagon comes to a track of a yard by train; the yard before must have no wagons when it is placed. */
    Scene carrier(int grain, int yard, int track) {
        int before = (yard + 2) % 3;
        return wagons(1, before, 0).firm(1, grain, before, before)
            .done(x -> x.arrive(x.depart(before, 0, yard), track));
    }

    Scene refused(Class<? extends RuntimeException> want, Call call) {
        Class<?> got = thrown(call, live);
        if (got != want) {
            throw new AssertionError("behind call " + calls.size() + " is thrown " + got + ", due is " + want);
        }
        return requireUnchangedBy(call);
    }

    /** Refused with the number below the least, with the one above the greatest, and with those farthest off. */
    Scene outside(Class<? extends RuntimeException> want, int least, int greatest, CallWith call) {
        for (int number : new int[] {least - 1, greatest + 1, Integer.MIN_VALUE, Integer.MAX_VALUE}) {
            refused(want, x -> call.on(x, number));
        }
        return this;
    }

    /** The call answers so, and does nothing. */
    Scene idle(long want, Call call) {
        return requireUnchangedBy(call).due(want, call);
    }

    private Scene requireUnchangedBy(Call call) {
        String before = Observation.of(this::replayed);
        String after = Observation.of(() -> {
            TrunkYards x = replayed();
            thrown(call, x);
            return x;
        });
        if (!before.equals(after)) {
            throw new AssertionError("a call that may change nothing changed\n" + before + "into\n" + after);
        }
        return this;
    }

    private TrunkYards replayed() {
        TrunkYards x = new TrunkYards();
        for (Call call : calls) {
            call.on(x);
        }
        return x;
    }

    private static int required(int number) {
        if (number < 0) {
            throw new AssertionError("what the scene is built of is not there");
        }
        return number;
    }

    private static Class<?> thrown(Call call, TrunkYards x) {
        try {
            call.on(x);
            return null;
        } catch (RuntimeException e) {
            return e.getClass();
        }
    }
}
