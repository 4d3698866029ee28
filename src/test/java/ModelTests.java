import java.lang.reflect.InvocationTargetException;
import java.lang.reflect.Method;
import java.util.ArrayList;
import java.util.Arrays;
import java.util.List;
import java.util.Map;
import java.util.Random;
import java.util.Set;
import java.util.TreeMap;

/** Runs of 512 drawn calls each, answered by the class and by the model; the same runs each time. */
final class ModelTests {
    private static final int RUNS = 1500;
    private static final int CALLS = 512;

    /** A call's name, and for each parameter what it is drawn from. */
    private static final String[] FACE = {
        "wagon yard track", "shunt yard track track many", "wash yard", "follow grain grain", "on yard track",
        "at yard track place", "atByReplay yard track place", "where wagon", "carried wagon", "promised wagon",
        "call customer yard", "ask call grain", "confirm call", "resume call half", "cancel call firm",
        "hangUp call", "callOf customer", "way call", "busy", "cut yard yard trunk", "mend yard yard trunk",
        "trunk yard yard trunk", "setLines yard lines", "pass ticks", "bookings", "state booking",
        "wagons booking", "wagonOf booking place", "lapses half", "depart yard track yard", "arrive train track",
        "trains",
    };

    /** The calls by which bookings come about, are cut off, and go by train; without them a run has no story. */
    private static final Set<String> STORY = Set.of(
        "call", "ask", "confirm", "cut", "mend", "resume", "cancel", "depart", "arrive");

    private ModelTests() {
    }

    static void allDrawnRunsAreAnsweredAsByTheModel() throws IllegalAccessException {
        Map<String, Integer> answered = new TreeMap<>();
        for (int run = 0; run < RUNS; run++) {
            new Run(run).go(answered);
        }
        for (String row : FACE) {
            String name = row.split(" ")[0];
            if (answered.getOrDefault(name, 0) < RUNS / 10) {
                throw new AssertionError("the runs hardly reach " + name + ": " + answered);
            }
        }
    }

    private static final class Run {
        private final int number;
        private final Random random;
        private final TrunkYards x = new TrunkYards();
        private final Model model = new Model();
        private final int[] weights = new int[FACE.length];
        private final int tracks;
        private final int yards;
        private final int customers;
        private final int grains;
        private final List<String> calls = new ArrayList<>();
        private int weight;

        Run(int number) {
            this.number = number;
            random = new Random(number);
            // With few of them, calls come again, and bookings and trains come together; many show the rest.
            customers = 1 + random.nextInt(6);
            yards = 2 + random.nextInt(2);
            tracks = 1 + random.nextInt(5);
            grains = 1 + random.nextInt(4);
            for (int i = 0; i < weights.length; i++) {
                weights[i] = 1 + random.nextInt(10) * random.nextInt(2);
                weights[i] *= STORY.contains(FACE[i].split(" ")[0]) ? 6 : 1;
                weight += weights[i];
            }
        }

        void go(Map<String, Integer> answered) throws IllegalAccessException {
            for (int i = 0; i < CALLS; i++) {
                if (random.nextInt(12) == 0) {
                    makeTowards(random.nextBoolean() ? 1 : 2, answered);
                } else {
                    String[] row = FACE[drawnRow()].split(" ");
                    Integer[] drawn = new Integer[row.length - 1];
                    for (int p = 0; p < drawn.length; p++) {
                        drawn[p] = drawn(row[p + 1]);
                    }
                    make(answered, row[0], drawn);
                }
            }
        }

        /** Drawn calls alone hardly ever take a half booking up again, or send a firm one by train. */
        private void makeTowards(int state, Map<String, Integer> answered) throws IllegalAccessException {
            int booking = drawnBooking(state);
            if (booking < 0 || model.state(booking) != state) {
                make(answered, "wagon", drawn("yard"), drawn("track"));
            } else if (state == 2) {
                int where = model.where(model.wagonOf(booking, 0));
                make(answered, "depart", where / 10, where % 10, (where / 10 + 1 + random.nextInt(2)) % 3);
            } else if (model.callOf(model.customerOf(booking)) == -1) {
                make(answered, "call", model.customerOf(booking), model.yardOf(booking));
            } else {
                make(answered, "resume", model.callOf(model.customerOf(booking)), booking);
            }
        }

        private void make(Map<String, Integer> answered, String name, Integer... drawn) throws IllegalAccessException {
            Class<?>[] types = new Class<?>[drawn.length];
            Arrays.fill(types, int.class);
            String got = answer(x, name, types, drawn);
            String due = answer(model, name, types, drawn);
            calls.add(name + List.of(drawn) + " " + due);
            if (!got.equals(due)) {
                throw new AssertionError("run " + number + " answered " + got + " to the last of " + calls);
            }
            if (!due.startsWith("I")) {
                answered.merge(name, 1, Integer::sum);
            }
        }

        private int drawnRow() {
            int left = random.nextInt(weight);
            int row = 0;
            while (left >= weights[row]) {
                left -= weights[row];
                row++;
            }
            return row;
        }

        private int drawn(String from) {
            if (random.nextInt(60) == 0) {
                return random.nextInt(3) == 0 ? random.nextInt() : random.nextInt(2) == 0 ? -1 : 3 + random.nextInt(6);
            }
            switch (from) {
                case "yard": return random.nextInt(yards);
                case "track": return random.nextInt(tracks);
                case "grain": return random.nextInt(grains);
                case "many": return 1 + random.nextInt(1 + random.nextInt(6));
                case "place": return random.nextInt(1 + random.nextInt(7));
                case "wagon": return random.nextInt(31);
                case "customer": return random.nextInt(customers);
                case "trunk": return random.nextInt(2);
                case "lines": return 3 - random.nextInt(1 + random.nextInt(4));
                case "ticks": return 1 + random.nextInt(random.nextInt(8) == 0 ? 100 : 4);
                case "call": return drawnCall();
                case "booking": return drawnBooking();
                case "half": return drawnBooking(1);
                case "firm": return drawnBooking(2);
                case "train": return random.nextInt(1 + model.trains());
                default: throw new AssertionError(from);
            }
        }

        private int drawnCall() {
            for (int tries = 0; tries < 8; tries++) {
                int call = model.callOf(random.nextInt(6));
                if (call != -1) {
                    return call;
                }
            }
            return random.nextInt(61);
        }

        private int drawnBooking() {
            return model.bookings() - 1 - random.nextInt(1 + random.nextInt(1 + model.bookings()));
        }

        private int drawnBooking(int state) {
            for (int tries = 0; tries < 8; tries++) {
                int booking = drawnBooking();
                if (booking >= 0 && model.state(booking) == state) {
                    return booking;
                }
            }
            return drawnBooking();
        }

        private static String answer(Object x, String name, Class<?>[] types, Integer[] drawn)
                throws IllegalAccessException {
            try {
                Method method = x.getClass().getMethod(name, types);
                return String.valueOf(method.invoke(x, (Object[]) drawn));
            } catch (NoSuchMethodException e) {
                throw new AssertionError(e);
            } catch (InvocationTargetException e) {
                return e.getCause().getClass().getSimpleName();
            }
        }
    }
}
