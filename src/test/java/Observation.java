import java.util.function.Supplier;

/**
 * All that can be seen of an object, as a text. Each group of questions is put to an object of its own, so that
 * none is asked more than 512 calls, and some can be put by calls that change it.
 */
final class Observation {
    private interface Question {
        Object ask();
    }

    private final StringBuilder seen = new StringBuilder();

    static String of(Supplier<TrunkYards> same) {
        Observation o = new Observation();
        o.tracks(same.get());
        o.tracksByReplay(same.get());
        o.wagons(same.get());
        o.calls(same.get());
        o.openBookings(same.get());
        o.trunksAndLines(same.get());
        o.bookings(same.get());
        o.bookedWagons(same.get());
        o.follows(same.get());
        o.ticks(same.get());
        o.trains(same.get());
        o.asks(same.get());
        o.departures(same.get());
        o.owners(same.get());
        return o.seen.toString();
    }

    private boolean note(String name, Question question) {
        String answer;
        try {
            answer = String.valueOf(question.ask());
        } catch (RuntimeException e) {
            answer = e.getClass().getSimpleName();
        }
        seen.append(name).append(' ').append(answer).append('\n');
        return !answer.startsWith("I");
    }

    private void tracks(TrunkYards x) {
        for (int row = 0; row < 15; row++) {
            int yard = row / 5;
            int track = row % 5;
            note("on " + row, () -> x.on(yard, track));
            boolean more = true;
            for (int place = 0; more && place <= 6; place++) {
                int p = place;
                more = note("at " + row + " " + p, () -> x.at(yard, track, p));
            }
        }
    }

    private void tracksByReplay(TrunkYards x) {
        for (int row = 0; row < 15; row++) {
            int yard = row / 5;
            int track = row % 5;
            for (int place = 0; place < 6; place++) {
                int p = place;
                note("replay " + row + " " + p, () -> x.atByReplay(yard, track, p));
            }
        }
    }

    private void wagons(TrunkYards x) {
        for (int wagon = 0; wagon <= 30; wagon++) {
            int w = wagon;
            note("where " + w, () -> x.where(w));
            note("carried " + w, () -> x.carried(w));
            note("promised " + w, () -> x.promised(w));
        }
    }

    private void calls(TrunkYards x) {
        note("busy", x::busy);
        for (int customer = 0; customer < 6; customer++) {
            int c = customer;
            note("callOf " + c, () -> x.callOf(c));
        }
        for (int call = 0; call <= 60; call++) {
            int c = call;
            note("way " + c, () -> x.way(c));
        }
    }

    private void openBookings(TrunkYards x) {
        for (int call = 0; call <= 60; call++) {
            int c = call;
            note("confirm " + c, () -> x.confirm(c));
        }
    }

    private void trunksAndLines(TrunkYards x) {
        for (int trunk = 0; trunk < 2; trunk++) {
            int t = trunk;
            note("trunk 0 1 " + t, () -> x.trunk(0, 1, t));
            note("trunk 0 2 " + t, () -> x.trunk(0, 2, t));
            note("trunk 1 2 " + t, () -> x.trunk(1, 2, t));
        }
        for (int yard = 0; yard < 3; yard++) {
            int y = yard;
            note("setLines " + y, () -> x.setLines(y, 3));
        }
    }

    private void bookings(TrunkYards x) {
        note("bookings", x::bookings);
        for (int booking = 0; booking <= 40; booking++) {
            int b = booking;
            note("state " + b, () -> x.state(b));
            note("wagons " + b, () -> x.wagons(b));
            note("lapses " + b, () -> x.lapses(b));
        }
    }

    private void bookedWagons(TrunkYards x) {
        int bookings = x.bookings();
        for (int booking = 0; booking < bookings; booking++) {
            int b = booking;
            boolean more = true;
            for (int place = 0; more && place <= 30; place++) {
                int p = place;
                more = note("wagonOf " + b + " " + p, () -> x.wagonOf(b, p));
            }
        }
    }

    private void follows(TrunkYards x) {
        for (int pair = 0; pair < 16; pair++) {
            int first = pair / 4;
            int next = pair % 4;
            note("follow " + pair, () -> x.follow(first, next));
        }
    }

    private void ticks(TrunkYards x) {
        int left = 0;
        for (int step = 100; step > 0; step /= 10) {
            while (left <= 10000 && mayPass(x, step)) {
                left += step;
            }
        }
        seen.append("ticks left ").append(left).append('\n');
    }

    private static boolean mayPass(TrunkYards x, int ticks) {
        try {
            x.pass(ticks);
            return true;
        } catch (IllegalStateException e) {
            return false;
        }
    }

    private void trains(TrunkYards x) {
        note("trains", x::trains);
        for (int train = 0; train <= 40; train++) {
            int t = train;
            for (int track = 0; track < 5; track++) {
                int to = track;
                note("arrive " + t + " " + to, () -> x.arrive(t, to));
            }
        }
        for (int wagon = 0; wagon < 30; wagon++) {
            int w = wagon;
            note("where then " + w, () -> x.where(w));
        }
    }

    /** Shows the grains of open bookings, and what fits. */
    private void asks(TrunkYards x) {
        for (int customer = 0; customer < 6; customer++) {
            int call = x.callOf(customer);
            for (int grain = 0; grain < 4; grain++) {
                int g = grain;
                for (int many = 0; many < 3; many++) {
                    note("ask " + call + " " + g, () -> x.ask(call, g));
                }
            }
        }
    }

    private void departures(TrunkYards x) {
        for (int row = 0; row < 15; row++) {
            int yard = row / 5;
            int track = row % 5;
            note("depart " + row, () -> x.depart(yard, track, (yard + 1) % 3));
        }
        for (int wagon = 0; wagon < 30; wagon++) {
            int w = wagon;
            note("carried then " + w, () -> x.carried(w));
        }
    }

    /** Shows of which customer and yard the first bookings are, by what each customer can do with them. */
    private void owners(TrunkYards x) {
        for (int customer = 0; customer < 6; customer++) {
            int c = customer;
            note("hangUp " + c, () -> x.hangUp(x.callOf(c)));
        }
        for (int pair = 0; pair < 18; pair++) {
            int customer = pair / 3;
            int yard = pair % 3;
            note("call " + pair, () -> x.call(customer, yard));
            int call = x.callOf(customer);
            for (int booking = 0; booking < Math.min(x.bookings(), 8); booking++) {
                int b = booking;
                note("cancel " + b, () -> x.cancel(call, b));
                note("resume " + b, () -> x.resume(call, b));
            }
            note("hangUp " + call, () -> x.hangUp(call));
        }
    }
}
